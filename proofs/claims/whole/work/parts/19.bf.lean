theorem dX10_hamlet_0 : decode mX10_hamlet.2.1 0 = .ok (.aload_n 0, 1) := by decide +kernel
theorem dX10_hamlet_1 : decode mX10_hamlet.2.1 1 = .ok (.invokevirtual 401, 3) := by decide +kernel
theorem dX10_hamlet_4 : decode mX10_hamlet.2.1 4 = .ok (.aload_n 0, 1) := by decide +kernel
theorem dX10_hamlet_5 : decode mX10_hamlet.2.1 5 = .ok (.getfield 197, 3) := by decide +kernel
theorem dX10_hamlet_8 : decode mX10_hamlet.2.1 8 = .ok (.ifCond .le 5, 3) := by decide +kernel
theorem dX10_hamlet_11 : decode mX10_hamlet.2.1 11 = .ok (.iconst (-1), 1) := by decide +kernel
theorem dX10_hamlet_12 : decode mX10_hamlet.2.1 12 = .ok (.ireturn, 1) := by decide +kernel
theorem dX10_hamlet_13 : decode mX10_hamlet.2.1 13 = .ok (.aload_n 0, 1) := by decide +kernel
theorem dX10_hamlet_14 : decode mX10_hamlet.2.1 14 = .ok (.aload_n 0, 1) := by decide +kernel
theorem dX10_hamlet_15 : decode mX10_hamlet.2.1 15 = .ok (.getfield 272, 3) := by decide +kernel
theorem dX10_hamlet_18 : decode mX10_hamlet.2.1 18 = .ok (.putfield 404, 3) := by decide +kernel
theorem dX10_hamlet_21 : decode mX10_hamlet.2.1 21 = .ok (.aload_n 0, 1) := by decide +kernel
theorem dX10_hamlet_22 : decode mX10_hamlet.2.1 22 = .ok (.aload_n 0, 1) := by decide +kernel
theorem dX10_hamlet_23 : decode mX10_hamlet.2.1 23 = .ok (.getfield 356, 3) := by decide +kernel
theorem dX10_hamlet_26 : decode mX10_hamlet.2.1 26 = .ok (.putfield 407, 3) := by decide +kernel
theorem dX10_hamlet_29 : decode mX10_hamlet.2.1 29 = .ok (.aload_n 0, 1) := by decide +kernel
theorem dX10_hamlet_30 : decode mX10_hamlet.2.1 30 = .ok (.aload_n 0, 1) := by decide +kernel
theorem dX10_hamlet_31 : decode mX10_hamlet.2.1 31 = .ok (.getfield 362, 3) := by decide +kernel
theorem dX10_hamlet_34 : decode mX10_hamlet.2.1 34 = .ok (.putfield 410, 3) := by decide +kernel
theorem dX10_hamlet_37 : decode mX10_hamlet.2.1 37 = .ok (.aload_n 0, 1) := by decide +kernel
theorem dX10_hamlet_38 : decode mX10_hamlet.2.1 38 = .ok (.aload_n 0, 1) := by decide +kernel
theorem dX10_hamlet_39 : decode mX10_hamlet.2.1 39 = .ok (.getfield 383, 3) := by decide +kernel
theorem dX10_hamlet_42 : decode mX10_hamlet.2.1 42 = .ok (.putfield 96, 3) := by decide +kernel
theorem dX10_hamlet_45 : decode mX10_hamlet.2.1 45 = .ok (.aload_n 0, 1) := by decide +kernel
theorem dX10_hamlet_46 : decode mX10_hamlet.2.1 46 = .ok (.aload_n 0, 1) := by decide +kernel
theorem dX10_hamlet_47 : decode mX10_hamlet.2.1 47 = .ok (.getfield 389, 3) := by decide +kernel
theorem dX10_hamlet_50 : decode mX10_hamlet.2.1 50 = .ok (.putfield 413, 3) := by decide +kernel
theorem dX10_hamlet_53 : decode mX10_hamlet.2.1 53 = .ok (.aload_n 0, 1) := by decide +kernel
theorem dX10_hamlet_54 : decode mX10_hamlet.2.1 54 = .ok (.aload_n 0, 1) := by decide +kernel
theorem dX10_hamlet_55 : decode mX10_hamlet.2.1 55 = .ok (.getfield 395, 3) := by decide +kernel
theorem dX10_hamlet_58 : decode mX10_hamlet.2.1 58 = .ok (.putfield 416, 3) := by decide +kernel
theorem dX10_hamlet_61 : decode mX10_hamlet.2.1 61 = .ok (.aload_n 0, 1) := by decide +kernel
theorem dX10_hamlet_62 : decode mX10_hamlet.2.1 62 = .ok (.aload_n 0, 1) := by decide +kernel
theorem dX10_hamlet_63 : decode mX10_hamlet.2.1 63 = .ok (.getfield 291, 3) := by decide +kernel
theorem dX10_hamlet_66 : decode mX10_hamlet.2.1 66 = .ok (.putfield 419, 3) := by decide +kernel
theorem dX10_hamlet_69 : decode mX10_hamlet.2.1 69 = .ok (.aload_n 0, 1) := by decide +kernel
theorem dX10_hamlet_70 : decode mX10_hamlet.2.1 70 = .ok (.aload_n 0, 1) := by decide +kernel
theorem dX10_hamlet_71 : decode mX10_hamlet.2.1 71 = .ok (.getfield 313, 3) := by decide +kernel
theorem dX10_hamlet_74 : decode mX10_hamlet.2.1 74 = .ok (.putfield 336, 3) := by decide +kernel
theorem dX10_hamlet_77 : decode mX10_hamlet.2.1 77 = .ok (.aload_n 0, 1) := by decide +kernel
theorem dX10_hamlet_78 : decode mX10_hamlet.2.1 78 = .ok (.aload_n 0, 1) := by decide +kernel
theorem dX10_hamlet_79 : decode mX10_hamlet.2.1 79 = .ok (.getfield 313, 3) := by decide +kernel
theorem dX10_hamlet_82 : decode mX10_hamlet.2.1 82 = .ok (.ifCond .eq 10, 3) := by decide +kernel
theorem dX10_hamlet_85 : decode mX10_hamlet.2.1 85 = .ok (.aload_n 0, 1) := by decide +kernel
theorem dX10_hamlet_86 : decode mX10_hamlet.2.1 86 = .ok (.getfield 275, 3) := by decide +kernel
theorem dX10_hamlet_89 : decode mX10_hamlet.2.1 89 = .ok (.goto 4, 3) := by decide +kernel
theorem dX10_hamlet_92 : decode mX10_hamlet.2.1 92 = .ok (.iconst 0, 1) := by decide +kernel
theorem dX10_hamlet_93 : decode mX10_hamlet.2.1 93 = .ok (.putfield 343, 3) := by decide +kernel
theorem dX10_hamlet_96 : decode mX10_hamlet.2.1 96 = .ok (.iconst 0, 1) := by decide +kernel
theorem dX10_hamlet_97 : decode mX10_hamlet.2.1 97 = .ok (.istore_n 1, 1) := by decide +kernel
theorem dX10_hamlet_98 : decode mX10_hamlet.2.1 98 = .ok (.iload_n 1, 1) := by decide +kernel
theorem dX10_hamlet_99 : decode mX10_hamlet.2.1 99 = .ok (.aload_n 0, 1) := by decide +kernel
theorem dX10_hamlet_100 : decode mX10_hamlet.2.1 100 = .ok (.getfield 343, 3) := by decide +kernel
theorem dX10_hamlet_103 : decode mX10_hamlet.2.1 103 = .ok (.if_icmp .ge 33, 3) := by decide +kernel
theorem dX10_hamlet_106 : decode mX10_hamlet.2.1 106 = .ok (.aload_n 0, 1) := by decide +kernel
theorem dX10_hamlet_107 : decode mX10_hamlet.2.1 107 = .ok (.getfield 27, 3) := by decide +kernel
theorem dX10_hamlet_110 : decode mX10_hamlet.2.1 110 = .ok (.iload_n 1, 1) := by decide +kernel
theorem dX10_hamlet_111 : decode mX10_hamlet.2.1 111 = .ok (.aload_n 0, 1) := by decide +kernel
theorem dX10_hamlet_112 : decode mX10_hamlet.2.1 112 = .ok (.getfield 21, 3) := by decide +kernel
theorem dX10_hamlet_115 : decode mX10_hamlet.2.1 115 = .ok (.iload_n 1, 1) := by decide +kernel
theorem dX10_hamlet_116 : decode mX10_hamlet.2.1 116 = .ok (.iaload, 1) := by decide +kernel
theorem dX10_hamlet_117 : decode mX10_hamlet.2.1 117 = .ok (.iastore, 1) := by decide +kernel
theorem dX10_hamlet_118 : decode mX10_hamlet.2.1 118 = .ok (.aload_n 0, 1) := by decide +kernel
theorem dX10_hamlet_119 : decode mX10_hamlet.2.1 119 = .ok (.getfield 30, 3) := by decide +kernel
theorem dX10_hamlet_122 : decode mX10_hamlet.2.1 122 = .ok (.iload_n 1, 1) := by decide +kernel
theorem dX10_hamlet_123 : decode mX10_hamlet.2.1 123 = .ok (.aload_n 0, 1) := by decide +kernel
theorem dX10_hamlet_124 : decode mX10_hamlet.2.1 124 = .ok (.getfield 24, 3) := by decide +kernel
theorem dX10_hamlet_127 : decode mX10_hamlet.2.1 127 = .ok (.iload_n 1, 1) := by decide +kernel
theorem dX10_hamlet_128 : decode mX10_hamlet.2.1 128 = .ok (.iaload, 1) := by decide +kernel
theorem dX10_hamlet_129 : decode mX10_hamlet.2.1 129 = .ok (.iastore, 1) := by decide +kernel
theorem dX10_hamlet_130 : decode mX10_hamlet.2.1 130 = .ok (.iinc 1 1, 3) := by decide +kernel
theorem dX10_hamlet_133 : decode mX10_hamlet.2.1 133 = .ok (.goto (-35), 3) := by decide +kernel
theorem dX10_hamlet_136 : decode mX10_hamlet.2.1 136 = .ok (.iconst 0, 1) := by decide +kernel
theorem dX10_hamlet_137 : decode mX10_hamlet.2.1 137 = .ok (.istore_n 1, 1) := by decide +kernel
theorem dX10_hamlet_138 : decode mX10_hamlet.2.1 138 = .ok (.iload_n 1, 1) := by decide +kernel
theorem dX10_hamlet_139 : decode mX10_hamlet.2.1 139 = .ok (.aload_n 0, 1) := by decide +kernel
theorem dX10_hamlet_140 : decode mX10_hamlet.2.1 140 = .ok (.getfield 404, 3) := by decide +kernel
theorem dX10_hamlet_143 : decode mX10_hamlet.2.1 143 = .ok (.if_icmp .ge 45, 3) := by decide +kernel
theorem dX10_hamlet_146 : decode mX10_hamlet.2.1 146 = .ok (.aload_n 0, 1) := by decide +kernel
theorem dX10_hamlet_147 : decode mX10_hamlet.2.1 147 = .ok (.getfield 69, 3) := by decide +kernel
theorem dX10_hamlet_150 : decode mX10_hamlet.2.1 150 = .ok (.iload_n 1, 1) := by decide +kernel
theorem dX10_hamlet_151 : decode mX10_hamlet.2.1 151 = .ok (.aload_n 0, 1) := by decide +kernel
theorem dX10_hamlet_152 : decode mX10_hamlet.2.1 152 = .ok (.getfield 42, 3) := by decide +kernel
theorem dX10_hamlet_155 : decode mX10_hamlet.2.1 155 = .ok (.iload_n 1, 1) := by decide +kernel
theorem dX10_hamlet_156 : decode mX10_hamlet.2.1 156 = .ok (.iaload, 1) := by decide +kernel
theorem dX10_hamlet_157 : decode mX10_hamlet.2.1 157 = .ok (.iastore, 1) := by decide +kernel
theorem dX10_hamlet_158 : decode mX10_hamlet.2.1 158 = .ok (.aload_n 0, 1) := by decide +kernel
theorem dX10_hamlet_159 : decode mX10_hamlet.2.1 159 = .ok (.getfield 72, 3) := by decide +kernel
theorem dX10_hamlet_162 : decode mX10_hamlet.2.1 162 = .ok (.iload_n 1, 1) := by decide +kernel
theorem dX10_hamlet_163 : decode mX10_hamlet.2.1 163 = .ok (.aload_n 0, 1) := by decide +kernel
theorem dX10_hamlet_164 : decode mX10_hamlet.2.1 164 = .ok (.getfield 45, 3) := by decide +kernel
theorem dX10_hamlet_167 : decode mX10_hamlet.2.1 167 = .ok (.iload_n 1, 1) := by decide +kernel
theorem dX10_hamlet_168 : decode mX10_hamlet.2.1 168 = .ok (.iaload, 1) := by decide +kernel
theorem dX10_hamlet_169 : decode mX10_hamlet.2.1 169 = .ok (.iastore, 1) := by decide +kernel
theorem dX10_hamlet_170 : decode mX10_hamlet.2.1 170 = .ok (.aload_n 0, 1) := by decide +kernel
theorem dX10_hamlet_171 : decode mX10_hamlet.2.1 171 = .ok (.getfield 75, 3) := by decide +kernel
theorem dX10_hamlet_174 : decode mX10_hamlet.2.1 174 = .ok (.iload_n 1, 1) := by decide +kernel
theorem dX10_hamlet_175 : decode mX10_hamlet.2.1 175 = .ok (.aload_n 0, 1) := by decide +kernel
theorem dX10_hamlet_176 : decode mX10_hamlet.2.1 176 = .ok (.getfield 48, 3) := by decide +kernel
theorem dX10_hamlet_179 : decode mX10_hamlet.2.1 179 = .ok (.iload_n 1, 1) := by decide +kernel
theorem dX10_hamlet_180 : decode mX10_hamlet.2.1 180 = .ok (.iaload, 1) := by decide +kernel
theorem dX10_hamlet_181 : decode mX10_hamlet.2.1 181 = .ok (.iastore, 1) := by decide +kernel
theorem dX10_hamlet_182 : decode mX10_hamlet.2.1 182 = .ok (.iinc 1 1, 3) := by decide +kernel
theorem dX10_hamlet_185 : decode mX10_hamlet.2.1 185 = .ok (.goto (-47), 3) := by decide +kernel
theorem dX10_hamlet_188 : decode mX10_hamlet.2.1 188 = .ok (.iconst 0, 1) := by decide +kernel
theorem dX10_hamlet_189 : decode mX10_hamlet.2.1 189 = .ok (.istore_n 1, 1) := by decide +kernel
theorem dX10_hamlet_190 : decode mX10_hamlet.2.1 190 = .ok (.iload_n 1, 1) := by decide +kernel
theorem dX10_hamlet_191 : decode mX10_hamlet.2.1 191 = .ok (.aload_n 0, 1) := by decide +kernel
theorem dX10_hamlet_192 : decode mX10_hamlet.2.1 192 = .ok (.getfield 407, 3) := by decide +kernel
theorem dX10_hamlet_195 : decode mX10_hamlet.2.1 195 = .ok (.if_icmp .ge 45, 3) := by decide +kernel
theorem dX10_hamlet_198 : decode mX10_hamlet.2.1 198 = .ok (.aload_n 0, 1) := by decide +kernel
theorem dX10_hamlet_199 : decode mX10_hamlet.2.1 199 = .ok (.getfield 78, 3) := by decide +kernel
theorem dX10_hamlet_202 : decode mX10_hamlet.2.1 202 = .ok (.iload_n 1, 1) := by decide +kernel
theorem dX10_hamlet_203 : decode mX10_hamlet.2.1 203 = .ok (.aload_n 0, 1) := by decide +kernel
theorem dX10_hamlet_204 : decode mX10_hamlet.2.1 204 = .ok (.getfield 51, 3) := by decide +kernel
theorem dX10_hamlet_207 : decode mX10_hamlet.2.1 207 = .ok (.iload_n 1, 1) := by decide +kernel
theorem dX10_hamlet_208 : decode mX10_hamlet.2.1 208 = .ok (.iaload, 1) := by decide +kernel
theorem dX10_hamlet_209 : decode mX10_hamlet.2.1 209 = .ok (.iastore, 1) := by decide +kernel
theorem dX10_hamlet_210 : decode mX10_hamlet.2.1 210 = .ok (.aload_n 0, 1) := by decide +kernel
theorem dX10_hamlet_211 : decode mX10_hamlet.2.1 211 = .ok (.getfield 81, 3) := by decide +kernel
theorem dX10_hamlet_214 : decode mX10_hamlet.2.1 214 = .ok (.iload_n 1, 1) := by decide +kernel
theorem dX10_hamlet_215 : decode mX10_hamlet.2.1 215 = .ok (.aload_n 0, 1) := by decide +kernel
theorem dX10_hamlet_216 : decode mX10_hamlet.2.1 216 = .ok (.getfield 54, 3) := by decide +kernel
theorem dX10_hamlet_219 : decode mX10_hamlet.2.1 219 = .ok (.iload_n 1, 1) := by decide +kernel
theorem dX10_hamlet_220 : decode mX10_hamlet.2.1 220 = .ok (.iaload, 1) := by decide +kernel
theorem dX10_hamlet_221 : decode mX10_hamlet.2.1 221 = .ok (.iastore, 1) := by decide +kernel
theorem dX10_hamlet_222 : decode mX10_hamlet.2.1 222 = .ok (.aload_n 0, 1) := by decide +kernel
theorem dX10_hamlet_223 : decode mX10_hamlet.2.1 223 = .ok (.getfield 84, 3) := by decide +kernel
theorem dX10_hamlet_226 : decode mX10_hamlet.2.1 226 = .ok (.iload_n 1, 1) := by decide +kernel
theorem dX10_hamlet_227 : decode mX10_hamlet.2.1 227 = .ok (.aload_n 0, 1) := by decide +kernel
theorem dX10_hamlet_228 : decode mX10_hamlet.2.1 228 = .ok (.getfield 57, 3) := by decide +kernel
theorem dX10_hamlet_231 : decode mX10_hamlet.2.1 231 = .ok (.iload_n 1, 1) := by decide +kernel
theorem dX10_hamlet_232 : decode mX10_hamlet.2.1 232 = .ok (.iaload, 1) := by decide +kernel
theorem dX10_hamlet_233 : decode mX10_hamlet.2.1 233 = .ok (.iastore, 1) := by decide +kernel
theorem dX10_hamlet_234 : decode mX10_hamlet.2.1 234 = .ok (.iinc 1 1, 3) := by decide +kernel
theorem dX10_hamlet_237 : decode mX10_hamlet.2.1 237 = .ok (.goto (-47), 3) := by decide +kernel
theorem dX10_hamlet_240 : decode mX10_hamlet.2.1 240 = .ok (.iconst 0, 1) := by decide +kernel
theorem dX10_hamlet_241 : decode mX10_hamlet.2.1 241 = .ok (.istore_n 1, 1) := by decide +kernel
theorem dX10_hamlet_242 : decode mX10_hamlet.2.1 242 = .ok (.iload_n 1, 1) := by decide +kernel
theorem dX10_hamlet_243 : decode mX10_hamlet.2.1 243 = .ok (.aload_n 0, 1) := by decide +kernel
theorem dX10_hamlet_244 : decode mX10_hamlet.2.1 244 = .ok (.getfield 410, 3) := by decide +kernel
theorem dX10_hamlet_247 : decode mX10_hamlet.2.1 247 = .ok (.if_icmp .ge 73, 3) := by decide +kernel
theorem dX10_hamlet_250 : decode mX10_hamlet.2.1 250 = .ok (.aload_n 0, 1) := by decide +kernel
theorem dX10_hamlet_251 : decode mX10_hamlet.2.1 251 = .ok (.getfield 87, 3) := by decide +kernel
theorem dX10_hamlet_254 : decode mX10_hamlet.2.1 254 = .ok (.iload_n 1, 1) := by decide +kernel
theorem dX10_hamlet_255 : decode mX10_hamlet.2.1 255 = .ok (.aload_n 0, 1) := by decide +kernel
theorem dX10_hamlet_256 : decode mX10_hamlet.2.1 256 = .ok (.getfield 60, 3) := by decide +kernel
theorem dX10_hamlet_259 : decode mX10_hamlet.2.1 259 = .ok (.iload_n 1, 1) := by decide +kernel
theorem dX10_hamlet_260 : decode mX10_hamlet.2.1 260 = .ok (.iaload, 1) := by decide +kernel
theorem dX10_hamlet_261 : decode mX10_hamlet.2.1 261 = .ok (.iastore, 1) := by decide +kernel
theorem dX10_hamlet_262 : decode mX10_hamlet.2.1 262 = .ok (.aload_n 0, 1) := by decide +kernel
theorem dX10_hamlet_263 : decode mX10_hamlet.2.1 263 = .ok (.getfield 93, 3) := by decide +kernel
theorem dX10_hamlet_266 : decode mX10_hamlet.2.1 266 = .ok (.iload_n 1, 1) := by decide +kernel
theorem dX10_hamlet_267 : decode mX10_hamlet.2.1 267 = .ok (.aload_n 0, 1) := by decide +kernel
theorem dX10_hamlet_268 : decode mX10_hamlet.2.1 268 = .ok (.getfield 66, 3) := by decide +kernel
theorem dX10_hamlet_271 : decode mX10_hamlet.2.1 271 = .ok (.iload_n 1, 1) := by decide +kernel
theorem dX10_hamlet_272 : decode mX10_hamlet.2.1 272 = .ok (.iaload, 1) := by decide +kernel
theorem dX10_hamlet_273 : decode mX10_hamlet.2.1 273 = .ok (.iastore, 1) := by decide +kernel
theorem dX10_hamlet_274 : decode mX10_hamlet.2.1 274 = .ok (.iconst 0, 1) := by decide +kernel
theorem dX10_hamlet_275 : decode mX10_hamlet.2.1 275 = .ok (.istore_n 2, 1) := by decide +kernel
theorem dX10_hamlet_276 : decode mX10_hamlet.2.1 276 = .ok (.iload_n 2, 1) := by decide +kernel
theorem dX10_hamlet_277 : decode mX10_hamlet.2.1 277 = .ok (.aload_n 0, 1) := by decide +kernel
theorem dX10_hamlet_278 : decode mX10_hamlet.2.1 278 = .ok (.getfield 93, 3) := by decide +kernel
theorem dX10_hamlet_281 : decode mX10_hamlet.2.1 281 = .ok (.iload_n 1, 1) := by decide +kernel
theorem dX10_hamlet_282 : decode mX10_hamlet.2.1 282 = .ok (.iaload, 1) := by decide +kernel
theorem dX10_hamlet_283 : decode mX10_hamlet.2.1 283 = .ok (.if_icmp .ge 31, 3) := by decide +kernel
theorem dX10_hamlet_286 : decode mX10_hamlet.2.1 286 = .ok (.aload_n 0, 1) := by decide +kernel
theorem dX10_hamlet_287 : decode mX10_hamlet.2.1 287 = .ok (.getfield 90, 3) := by decide +kernel
theorem dX10_hamlet_290 : decode mX10_hamlet.2.1 290 = .ok (.bipush 6, 2) := by decide +kernel
theorem dX10_hamlet_292 : decode mX10_hamlet.2.1 292 = .ok (.iload_n 1, 1) := by decide +kernel
theorem dX10_hamlet_293 : decode mX10_hamlet.2.1 293 = .ok (.imul, 1) := by decide +kernel
theorem dX10_hamlet_294 : decode mX10_hamlet.2.1 294 = .ok (.iload_n 2, 1) := by decide +kernel
theorem dX10_hamlet_295 : decode mX10_hamlet.2.1 295 = .ok (.iadd, 1) := by decide +kernel
theorem dX10_hamlet_296 : decode mX10_hamlet.2.1 296 = .ok (.aload_n 0, 1) := by decide +kernel
theorem dX10_hamlet_297 : decode mX10_hamlet.2.1 297 = .ok (.getfield 63, 3) := by decide +kernel
theorem dX10_hamlet_300 : decode mX10_hamlet.2.1 300 = .ok (.bipush 6, 2) := by decide +kernel
theorem dX10_hamlet_302 : decode mX10_hamlet.2.1 302 = .ok (.iload_n 1, 1) := by decide +kernel
theorem dX10_hamlet_303 : decode mX10_hamlet.2.1 303 = .ok (.imul, 1) := by decide +kernel
theorem dX10_hamlet_304 : decode mX10_hamlet.2.1 304 = .ok (.iload_n 2, 1) := by decide +kernel
theorem dX10_hamlet_305 : decode mX10_hamlet.2.1 305 = .ok (.iadd, 1) := by decide +kernel
theorem dX10_hamlet_306 : decode mX10_hamlet.2.1 306 = .ok (.iaload, 1) := by decide +kernel
theorem dX10_hamlet_307 : decode mX10_hamlet.2.1 307 = .ok (.iastore, 1) := by decide +kernel
theorem dX10_hamlet_308 : decode mX10_hamlet.2.1 308 = .ok (.iinc 2 1, 3) := by decide +kernel
theorem dX10_hamlet_311 : decode mX10_hamlet.2.1 311 = .ok (.goto (-35), 3) := by decide +kernel
theorem dX10_hamlet_314 : decode mX10_hamlet.2.1 314 = .ok (.iinc 1 1, 3) := by decide +kernel
theorem dX10_hamlet_317 : decode mX10_hamlet.2.1 317 = .ok (.goto (-75), 3) := by decide +kernel
theorem dX10_hamlet_320 : decode mX10_hamlet.2.1 320 = .ok (.aload_n 0, 1) := by decide +kernel
theorem dX10_hamlet_321 : decode mX10_hamlet.2.1 321 = .ok (.invokevirtual 422, 3) := by decide +kernel
theorem dX10_hamlet_324 : decode mX10_hamlet.2.1 324 = .ok (.aload_n 0, 1) := by decide +kernel
theorem dX10_hamlet_325 : decode mX10_hamlet.2.1 325 = .ok (.invokevirtual 425, 3) := by decide +kernel
theorem dX10_hamlet_328 : decode mX10_hamlet.2.1 328 = .ok (.aload_n 0, 1) := by decide +kernel
theorem dX10_hamlet_329 : decode mX10_hamlet.2.1 329 = .ok (.iconst 0, 1) := by decide +kernel
theorem dX10_hamlet_330 : decode mX10_hamlet.2.1 330 = .ok (.putfield 428, 3) := by decide +kernel
theorem dX10_hamlet_333 : decode mX10_hamlet.2.1 333 = .ok (.aload_n 0, 1) := by decide +kernel
theorem dX10_hamlet_334 : decode mX10_hamlet.2.1 334 = .ok (.iconst 0, 1) := by decide +kernel
theorem dX10_hamlet_335 : decode mX10_hamlet.2.1 335 = .ok (.putfield 431, 3) := by decide +kernel
theorem dX10_hamlet_338 : decode mX10_hamlet.2.1 338 = .ok (.aload_n 0, 1) := by decide +kernel
theorem dX10_hamlet_339 : decode mX10_hamlet.2.1 339 = .ok (.iconst 0, 1) := by decide +kernel
theorem dX10_hamlet_340 : decode mX10_hamlet.2.1 340 = .ok (.putfield 434, 3) := by decide +kernel
theorem dX10_hamlet_343 : decode mX10_hamlet.2.1 343 = .ok (.aload_n 0, 1) := by decide +kernel
theorem dX10_hamlet_344 : decode mX10_hamlet.2.1 344 = .ok (.iconst 0, 1) := by decide +kernel
theorem dX10_hamlet_345 : decode mX10_hamlet.2.1 345 = .ok (.putfield 437, 3) := by decide +kernel
theorem dX10_hamlet_348 : decode mX10_hamlet.2.1 348 = .ok (.iconst 0, 1) := by decide +kernel
theorem dX10_hamlet_349 : decode mX10_hamlet.2.1 349 = .ok (.istore_n 1, 1) := by decide +kernel
theorem dX10_hamlet_350 : decode mX10_hamlet.2.1 350 = .ok (.iload_n 1, 1) := by decide +kernel
theorem dX10_hamlet_351 : decode mX10_hamlet.2.1 351 = .ok (.iconst 3, 1) := by decide +kernel
theorem dX10_hamlet_352 : decode mX10_hamlet.2.1 352 = .ok (.if_icmp .ge 16, 3) := by decide +kernel
theorem dX10_hamlet_355 : decode mX10_hamlet.2.1 355 = .ok (.aload_n 0, 1) := by decide +kernel
theorem dX10_hamlet_356 : decode mX10_hamlet.2.1 356 = .ok (.getfield 151, 3) := by decide +kernel
theorem dX10_hamlet_359 : decode mX10_hamlet.2.1 359 = .ok (.iload_n 1, 1) := by decide +kernel
theorem dX10_hamlet_360 : decode mX10_hamlet.2.1 360 = .ok (.iconst 0, 1) := by decide +kernel
theorem dX10_hamlet_361 : decode mX10_hamlet.2.1 361 = .ok (.bastore, 1) := by decide +kernel
theorem dX10_hamlet_362 : decode mX10_hamlet.2.1 362 = .ok (.iinc 1 1, 3) := by decide +kernel
theorem dX10_hamlet_365 : decode mX10_hamlet.2.1 365 = .ok (.goto (-15), 3) := by decide +kernel
theorem dX10_hamlet_368 : decode mX10_hamlet.2.1 368 = .ok (.aload_n 0, 1) := by decide +kernel
theorem dX10_hamlet_369 : decode mX10_hamlet.2.1 369 = .ok (.getfield 404, 3) := by decide +kernel
theorem dX10_hamlet_372 : decode mX10_hamlet.2.1 372 = .ok (.ireturn, 1) := by decide +kernel
theorem bX10_hamlet_0 {E : px_E} {d : Nat} {w : pw_W} {Q : Option Value → pw_W → Prop} {t : ct_T} (hw : w.1 = cs t)  
    (k1 : px_Call E d 0 0 mX10_readAll [.ref 61] w (fun v w' => px_W E mX10_hamlet (d + 1) 0 0 4 [.ref 61, .null, .null] (v.toList ++ []) w' Q)) :
    px_W E mX10_hamlet (d + 1) 0 0 0 [.ref 61, .null, .null] [] w Q := by
  refine px_aload_n dX10_hamlet_0 rfl rfl ?_
  exact px_callV (As := []) (st := []) (rc := 0) (rs := 0) (mc := 0) (ms := 0) dX10_hamlet_1 lk_10_401 (px_sh1 hw sh_61) rfl rfl (Nat.le_of_ble_eq_true rfl) k1
theorem eX10_hamlet {E : px_E} {d : Nat} {w : pw_W} {Q : Option Value → pw_W → Prop} {t : ct_T} (hw : w.1 = cs t)  
    (k1 : px_Call E d 0 0 mX10_readAll [.ref 61] w (fun v w' => px_W E mX10_hamlet (d + 1) 0 0 4 [.ref 61, .null, .null] (v.toList ++ []) w' Q)) :
    px_Call E (d + 1) 0 0 mX10_hamlet [.ref 61] w Q :=
  px_enter (k := 2) (by decide) (Nat.le_of_ble_eq_true rfl) rfl (px_forget (bX10_hamlet_0 hw k1) ⟨Or.inr rfl, Or.inl rfl, Or.inl rfl, trivial⟩)
theorem bX10_hamlet_4 {E : px_E} {d : Nat} {w : pw_W} {Q : Option Value → pw_W → Prop} {t : ct_T} (hw : w.1 = cs t)  (hb1 : (pw_I w 61 2) ≤ 0 → (pw_I w 61 24) = 0 ∨ (pw_I w 61 24) = 1)
    (k1 : (pw_I w 61 2) ≤ 0 → (pw_I w 61 24) = 0 → px_W E mX10_hamlet (d + 1) 0 0 93 [.ref 61, .null, .null] [.int 0, .ref 61] (pw_sI (pw_sI (pw_sI (pw_sI (pw_sI (pw_sI (pw_sI (pw_sI w 61 51 (pw_I w 61 45)) 61 52 (pw_I w 61 46)) 61 53 (pw_I w 61 47)) 61 54 (pw_I w 61 48)) 61 55 (pw_I w 61 49)) 61 56 (pw_I w 61 50)) 61 21 (pw_I w 61 20)) 61 25 (pw_I w 61 24)) Q)
    (k2 : (pw_I w 61 2) ≤ 0 → ¬ (pw_I w 61 24) = 0 → px_W E mX10_hamlet (d + 1) 0 0 93 [.ref 61, .null, .null] [.int (pw_I w 61 17), .ref 61] (pw_sI (pw_sI (pw_sI (pw_sI (pw_sI (pw_sI (pw_sI (pw_sI w 61 51 (pw_I w 61 45)) 61 52 (pw_I w 61 46)) 61 53 (pw_I w 61 47)) 61 54 (pw_I w 61 48)) 61 55 (pw_I w 61 49)) 61 56 (pw_I w 61 50)) 61 21 (pw_I w 61 20)) 61 25 (pw_I w 61 24)) Q)
    (k3 : ¬ (pw_I w 61 2) ≤ 0 → Q (some (.int (-1))) w) :
    px_W E mX10_hamlet (d + 1) 0 0 4 [.ref 61, .null, .null] [] w Q := by
  refine px_aload_n dX10_hamlet_4 rfl rfl ?_
  refine px_getI dX10_hamlet_5 fr_10_197 rfl (px_sh1 hw sh_61) ?_
  refine px_if_le (tgt := 13) dX10_hamlet_8 (by decide) (fun h1 => ?_) (fun h1 => ?_)
  ·
    refine px_aload_n dX10_hamlet_13 rfl rfl ?_
    refine px_aload_n dX10_hamlet_14 rfl rfl ?_
    refine px_getI dX10_hamlet_15 fr_10_272 rfl (px_sh1 hw sh_61) ?_
    refine px_putI dX10_hamlet_18 fl_10_404 (Or.inl rfl) rfl (px_sh1 hw sh_61) rfl rfl (by omega) ?_
    refine px_aload_n dX10_hamlet_21 rfl rfl ?_
    refine px_aload_n dX10_hamlet_22 rfl rfl ?_
    refine px_getIv (v := (pw_I w 61 46)) dX10_hamlet_23 fr_10_356 rfl (px_sh1 (hI hw) sh_61) rfl ?_
    refine px_putI dX10_hamlet_26 fl_10_407 (Or.inl rfl) rfl (px_sh1 (hI hw) sh_61) rfl rfl (by omega) ?_
    refine px_aload_n dX10_hamlet_29 rfl rfl ?_
    refine px_aload_n dX10_hamlet_30 rfl rfl ?_
    refine px_getIv (v := (pw_I w 61 47)) dX10_hamlet_31 fr_10_362 rfl (px_sh1 (hI (hI hw)) sh_61) rfl ?_
    refine px_putI dX10_hamlet_34 fl_10_410 (Or.inl rfl) rfl (px_sh1 (hI (hI hw)) sh_61) rfl rfl (by omega) ?_
    refine px_aload_n dX10_hamlet_37 rfl rfl ?_
    refine px_aload_n dX10_hamlet_38 rfl rfl ?_
    refine px_getIv (v := (pw_I w 61 48)) dX10_hamlet_39 fr_10_383 rfl (px_sh1 (hI (hI (hI hw))) sh_61) rfl ?_
    refine px_putI dX10_hamlet_42 fl_10_96 (Or.inl rfl) rfl (px_sh1 (hI (hI (hI hw))) sh_61) rfl rfl (by omega) ?_
    refine px_aload_n dX10_hamlet_45 rfl rfl ?_
    refine px_aload_n dX10_hamlet_46 rfl rfl ?_
    refine px_getIv (v := (pw_I w 61 49)) dX10_hamlet_47 fr_10_389 rfl (px_sh1 (hI (hI (hI (hI hw)))) sh_61) rfl ?_
    refine px_putI dX10_hamlet_50 fl_10_413 (Or.inl rfl) rfl (px_sh1 (hI (hI (hI (hI hw)))) sh_61) rfl rfl (by omega) ?_
    refine px_aload_n dX10_hamlet_53 rfl rfl ?_
    refine px_aload_n dX10_hamlet_54 rfl rfl ?_
    refine px_getIv (v := (pw_I w 61 50)) dX10_hamlet_55 fr_10_395 rfl (px_sh1 (hI (hI (hI (hI (hI hw))))) sh_61) rfl ?_
    refine px_putI dX10_hamlet_58 fl_10_416 (Or.inl rfl) rfl (px_sh1 (hI (hI (hI (hI (hI hw))))) sh_61) rfl rfl (by omega) ?_
    refine px_aload_n dX10_hamlet_61 rfl rfl ?_
    refine px_aload_n dX10_hamlet_62 rfl rfl ?_
    refine px_getIv (v := (pw_I w 61 20)) dX10_hamlet_63 fr_10_291 rfl (px_sh1 (hI (hI (hI (hI (hI (hI hw)))))) sh_61) rfl ?_
    refine px_putI dX10_hamlet_66 fl_10_419 (Or.inl rfl) rfl (px_sh1 (hI (hI (hI (hI (hI (hI hw)))))) sh_61) rfl rfl (by omega) ?_
    refine px_aload_n dX10_hamlet_69 rfl rfl ?_
    refine px_aload_n dX10_hamlet_70 rfl rfl ?_
    refine px_getIv (v := (pw_I w 61 24)) dX10_hamlet_71 fr_10_313 rfl (px_sh1 (hI (hI (hI (hI (hI (hI (hI hw))))))) sh_61) rfl ?_
    refine px_putI dX10_hamlet_74 fl_10_336 (Or.inl rfl) rfl (px_sh1 (hI (hI (hI (hI (hI (hI (hI hw))))))) sh_61) (px_nb (hb1 h1)) (px_fb (hb1 h1)) (by omega) ?_
    refine px_aload_n dX10_hamlet_77 rfl rfl ?_
    refine px_aload_n dX10_hamlet_78 rfl rfl ?_
    refine px_getIv (v := (pw_I w 61 24)) dX10_hamlet_79 fr_10_313 rfl (px_sh1 (hI (hI (hI (hI (hI (hI (hI (hI hw)))))))) sh_61) rfl ?_
    refine px_if_eq (tgt := 92) dX10_hamlet_82 (by decide) (fun h2 => ?_) (fun h2 => ?_)
    ·
      refine px_iconst dX10_hamlet_92 ic_0 ?_
      exact (k1 h1 h2)
    ·
      refine px_aload_n dX10_hamlet_85 rfl rfl ?_
      refine px_getIv (v := (pw_I w 61 17)) dX10_hamlet_86 fr_10_275 rfl (px_sh1 (hI (hI (hI (hI (hI (hI (hI (hI hw)))))))) sh_61) rfl ?_
      refine px_goto (tgt := 93) dX10_hamlet_89 (by decide) ?_
      exact (k2 h1 h2)
  ·
    refine px_iconst dX10_hamlet_11 ic_m1 ?_
    exact px_ireturn dX10_hamlet_12 rfl rfl (k3 h1)
theorem bX10_hamlet_93 {E : px_E} {d : Nat} {w : pw_W} {Q : Option Value → pw_W → Prop} {t : ct_T} (hw : w.1 = cs t) {y1 : Int32}  
    (k1 : px_W E mX10_hamlet (d + 1) 0 0 98 [.ref 61, .int 0, .null] [] (pw_sI w 61 18 y1) Q) :
    px_W E mX10_hamlet (d + 1) 0 0 93 [.ref 61, .null, .null] [.int y1, .ref 61] w Q := by
  refine px_putI dX10_hamlet_93 fl_10_343 (Or.inl rfl) rfl (px_sh1 hw sh_61) rfl rfl (by omega) ?_
  refine px_iconst dX10_hamlet_96 ic_0 ?_
  refine px_istore_n (ls' := [.ref 61, .int 0, .null]) dX10_hamlet_97 rfl ⟨by decide, rfl⟩ rfl ?_
  exact k1
theorem bX10_hamlet_98 {E : px_E} {d : Nat} {w : pw_W} {Q : Option Value → pw_W → Prop} {t : ct_T} (hw : w.1 = cs t) {x1 : Int32}  
    (k1 : (pw_I w 61 18) ≤ x1 → px_W E mX10_hamlet (d + 1) 0 0 138 [.ref 61, .int 0, .null] [] w Q)
    (k2 : ¬ (pw_I w 61 18) ≤ x1 → px_W E mX10_hamlet (d + 1) 0 0 106 [.ref 61, .int x1, .null] [] w Q) :
    px_W E mX10_hamlet (d + 1) 0 0 98 [.ref 61, .int x1, .null] [] w Q := by
  refine px_iload_n dX10_hamlet_98 rfl rfl ?_
  refine px_aload_n dX10_hamlet_99 rfl rfl ?_
  refine px_getI dX10_hamlet_100 fr_10_343 rfl (px_sh1 hw sh_61) ?_
  refine px_icmp_ge (tgt := 136) dX10_hamlet_103 (by decide) (fun h1 => ?_) (fun h1 => ?_)
  ·
    refine px_iconst dX10_hamlet_136 ic_0 ?_
    refine px_istore_n (ls' := [.ref 61, .int 0, .null]) dX10_hamlet_137 rfl ⟨by decide, rfl⟩ rfl ?_
    exact (k1 h1)
  ·
    exact (k2 h1)
theorem bX10_hamlet_106 {E : px_E} {d : Nat} {w : pw_W} {Q : Option Value → pw_W → Prop} {t : ct_T} (hw : w.1 = cs t) {x1 : Int32}  (j1 : Nat) (hj1 : x1 = nI j1) (hl1 : j1 < 320)
    (k1 : px_W E mX10_hamlet (d + 1) 0 0 98 [.ref 61, .int (x1 + 1), .null] [] (pw_sI (pw_sI w 66 j1 (pw_I w 64 j1)) 67 j1 (pw_I w 65 j1)) Q) :
    px_W E mX10_hamlet (d + 1) 0 0 106 [.ref 61, .int x1, .null] [] w Q := by
  refine px_aload_n dX10_hamlet_106 rfl rfl ?_
  refine px_getR (v := 66) dX10_hamlet_107 fr_10_27 rfl (px_sh1 hw sh_61) (px_rf hw rf_61_13) (by decide) ?_
  refine px_iload_n dX10_hamlet_110 rfl rfl ?_
  refine px_aload_n dX10_hamlet_111 rfl rfl ?_
  refine px_getR (v := 64) dX10_hamlet_112 fr_10_21 rfl (px_sh1 hw sh_61) (px_rf hw rf_61_11) (by decide) ?_
  refine px_iload_n dX10_hamlet_115 rfl rfl ?_
  refine px_iald dX10_hamlet_116 (px_sh2 hw sh_64) (by decide) j1 hj1 hl1 ?_
  refine px_iast dX10_hamlet_117 (px_sh2 hw sh_66) (by decide) j1 hj1 hl1 (by omega) ?_
  refine px_aload_n dX10_hamlet_118 rfl rfl ?_
  refine px_getR (v := 67) dX10_hamlet_119 fr_10_30 rfl (px_sh1 (hI hw) sh_61) (px_rf (hI hw) rf_61_14) (by decide) ?_
  refine px_iload_n dX10_hamlet_122 rfl rfl ?_
  refine px_aload_n dX10_hamlet_123 rfl rfl ?_
  refine px_getR (v := 65) dX10_hamlet_124 fr_10_24 rfl (px_sh1 (hI hw) sh_61) (px_rf (hI hw) rf_61_12) (by decide) ?_
  refine px_iload_n dX10_hamlet_127 rfl rfl ?_
  refine px_ialdv (v := (pw_I w 65 j1)) dX10_hamlet_128 (px_sh2 (hI hw) sh_65) (by decide) j1 hj1 hl1 rfl ?_
  refine px_iast dX10_hamlet_129 (px_sh2 (hI hw) sh_67) (by decide) j1 hj1 hl1 (by omega) ?_
  refine px_iinc (ls' := [.ref 61, .int (x1 + 1), .null]) dX10_hamlet_130 ⟨by decide, rfl⟩ rfl rfl rfl ?_
  refine px_goto (tgt := 98) dX10_hamlet_133 (by decide) ?_
  exact k1
theorem bX10_hamlet_138 {E : px_E} {d : Nat} {w : pw_W} {Q : Option Value → pw_W → Prop} {t : ct_T} (hw : w.1 = cs t) {x1 : Int32}  
    (k1 : (pw_I w 61 51) ≤ x1 → px_W E mX10_hamlet (d + 1) 0 0 190 [.ref 61, .int 0, .null] [] w Q)
    (k2 : ¬ (pw_I w 61 51) ≤ x1 → px_W E mX10_hamlet (d + 1) 0 0 146 [.ref 61, .int x1, .null] [] w Q) :
    px_W E mX10_hamlet (d + 1) 0 0 138 [.ref 61, .int x1, .null] [] w Q := by
  refine px_iload_n dX10_hamlet_138 rfl rfl ?_
  refine px_aload_n dX10_hamlet_139 rfl rfl ?_
  refine px_getI dX10_hamlet_140 fr_10_404 rfl (px_sh1 hw sh_61) ?_
  refine px_icmp_ge (tgt := 188) dX10_hamlet_143 (by decide) (fun h1 => ?_) (fun h1 => ?_)
  ·
    refine px_iconst dX10_hamlet_188 ic_0 ?_
    refine px_istore_n (ls' := [.ref 61, .int 0, .null]) dX10_hamlet_189 rfl ⟨by decide, rfl⟩ rfl ?_
    exact (k1 h1)
  ·
    exact (k2 h1)
theorem bX10_hamlet_146 {E : px_E} {d : Nat} {w : pw_W} {Q : Option Value → pw_W → Prop} {t : ct_T} (hw : w.1 = cs t) {x1 : Int32}  (j1 : Nat) (hj1 : x1 = nI j1) (hl1 : j1 < 6)
    (k1 : px_W E mX10_hamlet (d + 1) 0 0 138 [.ref 61, .int (x1 + 1), .null] [] (pw_sI (pw_sI (pw_sI w 80 j1 (pw_I w 71 j1)) 81 j1 (pw_I w 72 j1)) 82 j1 (pw_I w 73 j1)) Q) :
    px_W E mX10_hamlet (d + 1) 0 0 146 [.ref 61, .int x1, .null] [] w Q := by
  refine px_aload_n dX10_hamlet_146 rfl rfl ?_
  refine px_getR (v := 80) dX10_hamlet_147 fr_10_69 rfl (px_sh1 hw sh_61) (px_rf hw rf_61_36) (by decide) ?_
  refine px_iload_n dX10_hamlet_150 rfl rfl ?_
  refine px_aload_n dX10_hamlet_151 rfl rfl ?_
  refine px_getR (v := 71) dX10_hamlet_152 fr_10_42 rfl (px_sh1 hw sh_61) (px_rf hw rf_61_27) (by decide) ?_
  refine px_iload_n dX10_hamlet_155 rfl rfl ?_
  refine px_iald dX10_hamlet_156 (px_sh2 hw sh_71) (by decide) j1 hj1 hl1 ?_
  refine px_iast dX10_hamlet_157 (px_sh2 hw sh_80) (by decide) j1 hj1 hl1 (by omega) ?_
  refine px_aload_n dX10_hamlet_158 rfl rfl ?_
  refine px_getR (v := 81) dX10_hamlet_159 fr_10_72 rfl (px_sh1 (hI hw) sh_61) (px_rf (hI hw) rf_61_37) (by decide) ?_
  refine px_iload_n dX10_hamlet_162 rfl rfl ?_
  refine px_aload_n dX10_hamlet_163 rfl rfl ?_
  refine px_getR (v := 72) dX10_hamlet_164 fr_10_45 rfl (px_sh1 (hI hw) sh_61) (px_rf (hI hw) rf_61_28) (by decide) ?_
  refine px_iload_n dX10_hamlet_167 rfl rfl ?_
  refine px_ialdv (v := (pw_I w 72 j1)) dX10_hamlet_168 (px_sh2 (hI hw) sh_72) (by decide) j1 hj1 hl1 rfl ?_
  refine px_iast dX10_hamlet_169 (px_sh2 (hI hw) sh_81) (by decide) j1 hj1 hl1 (by omega) ?_
  refine px_aload_n dX10_hamlet_170 rfl rfl ?_
  refine px_getR (v := 82) dX10_hamlet_171 fr_10_75 rfl (px_sh1 (hI (hI hw)) sh_61) (px_rf (hI (hI hw)) rf_61_38) (by decide) ?_
  refine px_iload_n dX10_hamlet_174 rfl rfl ?_
  refine px_aload_n dX10_hamlet_175 rfl rfl ?_
  refine px_getR (v := 73) dX10_hamlet_176 fr_10_48 rfl (px_sh1 (hI (hI hw)) sh_61) (px_rf (hI (hI hw)) rf_61_29) (by decide) ?_
  refine px_iload_n dX10_hamlet_179 rfl rfl ?_
  refine px_ialdv (v := (pw_I w 73 j1)) dX10_hamlet_180 (px_sh2 (hI (hI hw)) sh_73) (by decide) j1 hj1 hl1 rfl ?_
  refine px_iast dX10_hamlet_181 (px_sh2 (hI (hI hw)) sh_82) (by decide) j1 hj1 hl1 (by omega) ?_
  refine px_iinc (ls' := [.ref 61, .int (x1 + 1), .null]) dX10_hamlet_182 ⟨by decide, rfl⟩ rfl rfl rfl ?_
  refine px_goto (tgt := 138) dX10_hamlet_185 (by decide) ?_
  exact k1
theorem bX10_hamlet_190 {E : px_E} {d : Nat} {w : pw_W} {Q : Option Value → pw_W → Prop} {t : ct_T} (hw : w.1 = cs t) {x1 : Int32}  
    (k1 : (pw_I w 61 52) ≤ x1 → px_W E mX10_hamlet (d + 1) 0 0 242 [.ref 61, .int 0, .null] [] w Q)
    (k2 : ¬ (pw_I w 61 52) ≤ x1 → px_W E mX10_hamlet (d + 1) 0 0 198 [.ref 61, .int x1, .null] [] w Q) :
    px_W E mX10_hamlet (d + 1) 0 0 190 [.ref 61, .int x1, .null] [] w Q := by
  refine px_iload_n dX10_hamlet_190 rfl rfl ?_
  refine px_aload_n dX10_hamlet_191 rfl rfl ?_
  refine px_getI dX10_hamlet_192 fr_10_407 rfl (px_sh1 hw sh_61) ?_
  refine px_icmp_ge (tgt := 240) dX10_hamlet_195 (by decide) (fun h1 => ?_) (fun h1 => ?_)
  ·
    refine px_iconst dX10_hamlet_240 ic_0 ?_
    refine px_istore_n (ls' := [.ref 61, .int 0, .null]) dX10_hamlet_241 rfl ⟨by decide, rfl⟩ rfl ?_
    exact (k1 h1)
  ·
    exact (k2 h1)
theorem bX10_hamlet_198 {E : px_E} {d : Nat} {w : pw_W} {Q : Option Value → pw_W → Prop} {t : ct_T} (hw : w.1 = cs t) {x1 : Int32}  (j1 : Nat) (hj1 : x1 = nI j1) (hl1 : j1 < 9)
    (k1 : px_W E mX10_hamlet (d + 1) 0 0 190 [.ref 61, .int (x1 + 1), .null] [] (pw_sI (pw_sI (pw_sI w 83 j1 (pw_I w 74 j1)) 84 j1 (pw_I w 75 j1)) 85 j1 (pw_I w 76 j1)) Q) :
    px_W E mX10_hamlet (d + 1) 0 0 198 [.ref 61, .int x1, .null] [] w Q := by
  refine px_aload_n dX10_hamlet_198 rfl rfl ?_
  refine px_getR (v := 83) dX10_hamlet_199 fr_10_78 rfl (px_sh1 hw sh_61) (px_rf hw rf_61_39) (by decide) ?_
  refine px_iload_n dX10_hamlet_202 rfl rfl ?_
  refine px_aload_n dX10_hamlet_203 rfl rfl ?_
  refine px_getR (v := 74) dX10_hamlet_204 fr_10_51 rfl (px_sh1 hw sh_61) (px_rf hw rf_61_30) (by decide) ?_
  refine px_iload_n dX10_hamlet_207 rfl rfl ?_
  refine px_iald dX10_hamlet_208 (px_sh2 hw sh_74) (by decide) j1 hj1 hl1 ?_
  refine px_iast dX10_hamlet_209 (px_sh2 hw sh_83) (by decide) j1 hj1 hl1 (by omega) ?_
  refine px_aload_n dX10_hamlet_210 rfl rfl ?_
  refine px_getR (v := 84) dX10_hamlet_211 fr_10_81 rfl (px_sh1 (hI hw) sh_61) (px_rf (hI hw) rf_61_40) (by decide) ?_
  refine px_iload_n dX10_hamlet_214 rfl rfl ?_
  refine px_aload_n dX10_hamlet_215 rfl rfl ?_
  refine px_getR (v := 75) dX10_hamlet_216 fr_10_54 rfl (px_sh1 (hI hw) sh_61) (px_rf (hI hw) rf_61_31) (by decide) ?_
  refine px_iload_n dX10_hamlet_219 rfl rfl ?_
  refine px_ialdv (v := (pw_I w 75 j1)) dX10_hamlet_220 (px_sh2 (hI hw) sh_75) (by decide) j1 hj1 hl1 rfl ?_
  refine px_iast dX10_hamlet_221 (px_sh2 (hI hw) sh_84) (by decide) j1 hj1 hl1 (by omega) ?_
  refine px_aload_n dX10_hamlet_222 rfl rfl ?_
  refine px_getR (v := 85) dX10_hamlet_223 fr_10_84 rfl (px_sh1 (hI (hI hw)) sh_61) (px_rf (hI (hI hw)) rf_61_41) (by decide) ?_
  refine px_iload_n dX10_hamlet_226 rfl rfl ?_
  refine px_aload_n dX10_hamlet_227 rfl rfl ?_
  refine px_getR (v := 76) dX10_hamlet_228 fr_10_57 rfl (px_sh1 (hI (hI hw)) sh_61) (px_rf (hI (hI hw)) rf_61_32) (by decide) ?_
  refine px_iload_n dX10_hamlet_231 rfl rfl ?_
  refine px_ialdv (v := (pw_I w 76 j1)) dX10_hamlet_232 (px_sh2 (hI (hI hw)) sh_76) (by decide) j1 hj1 hl1 rfl ?_
  refine px_iast dX10_hamlet_233 (px_sh2 (hI (hI hw)) sh_85) (by decide) j1 hj1 hl1 (by omega) ?_
  refine px_iinc (ls' := [.ref 61, .int (x1 + 1), .null]) dX10_hamlet_234 ⟨by decide, rfl⟩ rfl rfl rfl ?_
  refine px_goto (tgt := 190) dX10_hamlet_237 (by decide) ?_
  exact k1
theorem bX10_hamlet_242 {E : px_E} {d : Nat} {w : pw_W} {Q : Option Value → pw_W → Prop} {t : ct_T} (hw : w.1 = cs t) {x1 : Int32}  
    (k1 : (pw_I w 61 53) ≤ x1 → px_Call E d 0 0 mX10_layTold [.ref 61] w (fun v w' => px_W E mX10_hamlet (d + 1) 0 0 324 [.ref 61, .null, .null] (v.toList ++ []) w' Q))
    (k2 : ¬ (pw_I w 61 53) ≤ x1 → px_W E mX10_hamlet (d + 1) 0 0 250 [.ref 61, .int x1, .null] [] w Q) :
    px_W E mX10_hamlet (d + 1) 0 0 242 [.ref 61, .int x1, .null] [] w Q := by
  refine px_iload_n dX10_hamlet_242 rfl rfl ?_
  refine px_aload_n dX10_hamlet_243 rfl rfl ?_
  refine px_getI dX10_hamlet_244 fr_10_410 rfl (px_sh1 hw sh_61) ?_
  refine px_icmp_ge (tgt := 320) dX10_hamlet_247 (by decide) (fun h1 => ?_) (fun h1 => ?_)
  ·
    refine px_aload_n dX10_hamlet_320 rfl rfl ?_
    refine px_forget (ls' := [.ref 61, .null, .null]) ?_ ⟨Or.inr rfl, Or.inl rfl, Or.inl rfl, trivial⟩
    exact px_callV (As := []) (st := []) (rc := 0) (rs := 0) (mc := 0) (ms := 0) dX10_hamlet_321 lk_10_422 (px_sh1 hw sh_61) rfl rfl (Nat.le_of_ble_eq_true rfl) (k1 h1)
  ·
    exact (k2 h1)
theorem bX10_hamlet_250 {E : px_E} {d : Nat} {w : pw_W} {Q : Option Value → pw_W → Prop} {t : ct_T} (hw : w.1 = cs t) {x1 : Int32}  (j1 : Nat) (hj1 : x1 = nI j1) (hl1 : j1 < 2)
    (k1 : px_W E mX10_hamlet (d + 1) 0 0 276 [.ref 61, .int x1, .int 0] [] (pw_sI (pw_sI w 86 j1 (pw_I w 77 j1)) 88 j1 (pw_I w 79 j1)) Q) :
    px_W E mX10_hamlet (d + 1) 0 0 250 [.ref 61, .int x1, .null] [] w Q := by
  refine px_aload_n dX10_hamlet_250 rfl rfl ?_
  refine px_getR (v := 86) dX10_hamlet_251 fr_10_87 rfl (px_sh1 hw sh_61) (px_rf hw rf_61_42) (by decide) ?_
  refine px_iload_n dX10_hamlet_254 rfl rfl ?_
  refine px_aload_n dX10_hamlet_255 rfl rfl ?_
  refine px_getR (v := 77) dX10_hamlet_256 fr_10_60 rfl (px_sh1 hw sh_61) (px_rf hw rf_61_33) (by decide) ?_
  refine px_iload_n dX10_hamlet_259 rfl rfl ?_
  refine px_iald dX10_hamlet_260 (px_sh2 hw sh_77) (by decide) j1 hj1 hl1 ?_
  refine px_iast dX10_hamlet_261 (px_sh2 hw sh_86) (by decide) j1 hj1 hl1 (by omega) ?_
  refine px_aload_n dX10_hamlet_262 rfl rfl ?_
  refine px_getR (v := 88) dX10_hamlet_263 fr_10_93 rfl (px_sh1 (hI hw) sh_61) (px_rf (hI hw) rf_61_44) (by decide) ?_
  refine px_iload_n dX10_hamlet_266 rfl rfl ?_
  refine px_aload_n dX10_hamlet_267 rfl rfl ?_
  refine px_getR (v := 79) dX10_hamlet_268 fr_10_66 rfl (px_sh1 (hI hw) sh_61) (px_rf (hI hw) rf_61_35) (by decide) ?_
  refine px_iload_n dX10_hamlet_271 rfl rfl ?_
  refine px_ialdv (v := (pw_I w 79 j1)) dX10_hamlet_272 (px_sh2 (hI hw) sh_79) (by decide) j1 hj1 hl1 rfl ?_
  refine px_iast dX10_hamlet_273 (px_sh2 (hI hw) sh_88) (by decide) j1 hj1 hl1 (by omega) ?_
  refine px_iconst dX10_hamlet_274 ic_0 ?_
  refine px_istore_n (ls' := [.ref 61, .int x1, .int 0]) dX10_hamlet_275 rfl ⟨by decide, rfl⟩ rfl ?_
  exact k1
theorem bX10_hamlet_276 {E : px_E} {d : Nat} {w : pw_W} {Q : Option Value → pw_W → Prop} {t : ct_T} (hw : w.1 = cs t) {x1 x2 : Int32}  (j1 : Nat) (hj1 : x1 = nI j1) (hl1 : j1 < 2)
    (k1 : (pw_I w 88 j1) ≤ x2 → px_W E mX10_hamlet (d + 1) 0 0 242 [.ref 61, .int (x1 + 1), .null] [] w Q)
    (k2 : ¬ (pw_I w 88 j1) ≤ x2 → px_W E mX10_hamlet (d + 1) 0 0 286 [.ref 61, .int x1, .int x2] [] w Q) :
    px_W E mX10_hamlet (d + 1) 0 0 276 [.ref 61, .int x1, .int x2] [] w Q := by
  refine px_iload_n dX10_hamlet_276 rfl rfl ?_
  refine px_aload_n dX10_hamlet_277 rfl rfl ?_
  refine px_getR (v := 88) dX10_hamlet_278 fr_10_93 rfl (px_sh1 hw sh_61) (px_rf hw rf_61_44) (by decide) ?_
  refine px_iload_n dX10_hamlet_281 rfl rfl ?_
  refine px_iald dX10_hamlet_282 (px_sh2 hw sh_88) (by decide) j1 hj1 hl1 ?_
  refine px_icmp_ge (tgt := 314) dX10_hamlet_283 (by decide) (fun h1 => ?_) (fun h1 => ?_)
  ·
    refine px_iinc (ls' := [.ref 61, .int (x1 + 1), .int x2]) dX10_hamlet_314 ⟨by decide, rfl⟩ rfl rfl rfl ?_
    refine px_goto (tgt := 242) dX10_hamlet_317 (by decide) ?_
    exact px_forget (k1 h1) ⟨Or.inr rfl, Or.inr rfl, Or.inl rfl, trivial⟩
  ·
    exact (k2 h1)
theorem bX10_hamlet_286 {E : px_E} {d : Nat} {w : pw_W} {Q : Option Value → pw_W → Prop} {t : ct_T} (hw : w.1 = cs t) {x1 x2 : Int32}  (j1 : Nat) (hj1 : ((6 * x1) + x2) = nI j1) (hl1 : j1 < 12)
    (k1 : px_W E mX10_hamlet (d + 1) 0 0 276 [.ref 61, .int x1, .int (x2 + 1)] [] (pw_sI w 87 j1 (pw_I w 78 j1)) Q) :
    px_W E mX10_hamlet (d + 1) 0 0 286 [.ref 61, .int x1, .int x2] [] w Q := by
  refine px_aload_n dX10_hamlet_286 rfl rfl ?_
  refine px_getR (v := 87) dX10_hamlet_287 fr_10_90 rfl (px_sh1 hw sh_61) (px_rf hw rf_61_43) (by decide) ?_
  refine px_bipush dX10_hamlet_290 bp_6 ?_
  refine px_iload_n dX10_hamlet_292 rfl rfl ?_
  refine px_imul dX10_hamlet_293 ?_
  refine px_iload_n dX10_hamlet_294 rfl rfl ?_
  refine px_iadd dX10_hamlet_295 ?_
  refine px_aload_n dX10_hamlet_296 rfl rfl ?_
  refine px_getR (v := 78) dX10_hamlet_297 fr_10_63 rfl (px_sh1 hw sh_61) (px_rf hw rf_61_34) (by decide) ?_
  refine px_bipush dX10_hamlet_300 bp_6 ?_
  refine px_iload_n dX10_hamlet_302 rfl rfl ?_
  refine px_imul dX10_hamlet_303 ?_
  refine px_iload_n dX10_hamlet_304 rfl rfl ?_
  refine px_iadd dX10_hamlet_305 ?_
  refine px_iald dX10_hamlet_306 (px_sh2 hw sh_78) (by decide) j1 hj1 hl1 ?_
  refine px_iast dX10_hamlet_307 (px_sh2 hw sh_87) (by decide) j1 hj1 hl1 (by omega) ?_
  refine px_iinc (ls' := [.ref 61, .int x1, .int (x2 + 1)]) dX10_hamlet_308 ⟨by decide, rfl⟩ rfl rfl rfl ?_
  refine px_goto (tgt := 276) dX10_hamlet_311 (by decide) ?_
  exact k1
theorem bX10_hamlet_324 {E : px_E} {d : Nat} {w : pw_W} {Q : Option Value → pw_W → Prop} {t : ct_T} (hw : w.1 = cs t)  
    (k1 : px_Call E d 0 0 mX10_keepAir [.ref 61] w (fun v w' => px_W E mX10_hamlet (d + 1) 0 0 328 [.ref 61, .null, .null] (v.toList ++ []) w' Q)) :
    px_W E mX10_hamlet (d + 1) 0 0 324 [.ref 61, .null, .null] [] w Q := by
  refine px_aload_n dX10_hamlet_324 rfl rfl ?_
  exact px_callV (As := []) (st := []) (rc := 0) (rs := 0) (mc := 0) (ms := 0) dX10_hamlet_325 lk_10_425 (px_sh1 hw sh_61) rfl rfl (Nat.le_of_ble_eq_true rfl) k1
theorem bX10_hamlet_328 {E : px_E} {d : Nat} {w : pw_W} {Q : Option Value → pw_W → Prop} {t : ct_T} (hw : w.1 = cs t)  
    (k1 : px_W E mX10_hamlet (d + 1) 0 0 350 [.ref 61, .int 0, .null] [] (pw_sI (pw_sI (pw_sI (pw_sI w 61 63 0) 61 64 0) 61 78 0) 61 68 0) Q) :
    px_W E mX10_hamlet (d + 1) 0 0 328 [.ref 61, .null, .null] [] w Q := by
  refine px_aload_n dX10_hamlet_328 rfl rfl ?_
  refine px_iconst dX10_hamlet_329 ic_0 ?_
  refine px_putI dX10_hamlet_330 fl_10_428 (Or.inl rfl) rfl (px_sh1 hw sh_61) rfl rfl (by omega) ?_
  refine px_aload_n dX10_hamlet_333 rfl rfl ?_
  refine px_iconst dX10_hamlet_334 ic_0 ?_
  refine px_putI dX10_hamlet_335 fl_10_431 (Or.inl rfl) rfl (px_sh1 (hI hw) sh_61) rfl rfl (by omega) ?_
  refine px_aload_n dX10_hamlet_338 rfl rfl ?_
  refine px_iconst dX10_hamlet_339 ic_0 ?_
  refine px_putI dX10_hamlet_340 fl_10_434 (Or.inl rfl) rfl (px_sh1 (hI (hI hw)) sh_61) rfl rfl (by omega) ?_
  refine px_aload_n dX10_hamlet_343 rfl rfl ?_
  refine px_iconst dX10_hamlet_344 ic_0 ?_
  refine px_putI dX10_hamlet_345 fl_10_437 (Or.inl rfl) rfl (px_sh1 (hI (hI (hI hw))) sh_61) rfl rfl (by omega) ?_
  refine px_iconst dX10_hamlet_348 ic_0 ?_
  refine px_istore_n (ls' := [.ref 61, .int 0, .null]) dX10_hamlet_349 rfl ⟨by decide, rfl⟩ rfl ?_
  exact k1
theorem bX10_hamlet_350 {E : px_E} {d : Nat} {w : pw_W} {Q : Option Value → pw_W → Prop} {t : ct_T} (hw : w.1 = cs t) {x1 : Int32}  
    (k1 : 3 ≤ x1 → Q (some (.int (pw_I w 61 51))) w)
    (k2 : ¬ 3 ≤ x1 → px_W E mX10_hamlet (d + 1) 0 0 355 [.ref 61, .int x1, .null] [] w Q) :
    px_W E mX10_hamlet (d + 1) 0 0 350 [.ref 61, .int x1, .null] [] w Q := by
  refine px_iload_n dX10_hamlet_350 rfl rfl ?_
  refine px_iconst dX10_hamlet_351 ic_3 ?_
  refine px_icmp_ge (tgt := 368) dX10_hamlet_352 (by decide) (fun h1 => ?_) (fun h1 => ?_)
  ·
    refine px_aload_n dX10_hamlet_368 rfl rfl ?_
    refine px_getI dX10_hamlet_369 fr_10_404 rfl (px_sh1 hw sh_61) ?_
    exact px_ireturn dX10_hamlet_372 rfl rfl (k1 h1)
  ·
    exact (k2 h1)
theorem bX10_hamlet_355 {E : px_E} {d : Nat} {w : pw_W} {Q : Option Value → pw_W → Prop} {t : ct_T} (hw : w.1 = cs t) {x1 : Int32}  (j1 : Nat) (hj1 : x1 = nI j1) (hl1 : j1 < 3)
    (k1 : px_W E mX10_hamlet (d + 1) 0 0 350 [.ref 61, .int (x1 + 1), .null] [] (pw_sI w 106 j1 0) Q) :
    px_W E mX10_hamlet (d + 1) 0 0 355 [.ref 61, .int x1, .null] [] w Q := by
  refine px_aload_n dX10_hamlet_355 rfl rfl ?_
  refine px_getR (v := 106) dX10_hamlet_356 fr_10_151 rfl (px_sh1 hw sh_61) (px_rf hw rf_61_83) (by decide) ?_
  refine px_iload_n dX10_hamlet_359 rfl rfl ?_
  refine px_iconst dX10_hamlet_360 ic_0 ?_
  refine px_zast dX10_hamlet_361 (px_sh2 hw sh_106) (by decide) j1 hj1 hl1 (by decide) (by omega) ?_
  refine px_iinc (ls' := [.ref 61, .int (x1 + 1), .null]) dX10_hamlet_362 ⟨by decide, rfl⟩ rfl rfl rfl ?_
  refine px_goto (tgt := 350) dX10_hamlet_365 (by decide) ?_
  exact k1
theorem dX10_fault_0 : decode mX10_fault.2.1 0 = .ok (.iload_n 1, 1) := by decide +kernel
theorem dX10_fault_1 : decode mX10_fault.2.1 1 = .ok (.ifCond .ne 10, 3) := by decide +kernel
theorem dX10_fault_4 : decode mX10_fault.2.1 4 = .ok (.aload_n 0, 1) := by decide +kernel
theorem dX10_fault_5 : decode mX10_fault.2.1 5 = .ok (.getfield 197, 3) := by decide +kernel
theorem dX10_fault_8 : decode mX10_fault.2.1 8 = .ok (.goto 16, 3) := by decide +kernel
theorem dX10_fault_11 : decode mX10_fault.2.1 11 = .ok (.iload_n 1, 1) := by decide +kernel
theorem dX10_fault_12 : decode mX10_fault.2.1 12 = .ok (.iconst 1, 1) := by decide +kernel
theorem dX10_fault_13 : decode mX10_fault.2.1 13 = .ok (.if_icmp .ne 10, 3) := by decide +kernel
theorem dX10_fault_16 : decode mX10_fault.2.1 16 = .ok (.aload_n 0, 1) := by decide +kernel
theorem dX10_fault_17 : decode mX10_fault.2.1 17 = .ok (.getfield 13, 3) := by decide +kernel
theorem dX10_fault_20 : decode mX10_fault.2.1 20 = .ok (.goto 4, 3) := by decide +kernel
theorem dX10_fault_23 : decode mX10_fault.2.1 23 = .ok (.iconst (-1), 1) := by decide +kernel
theorem dX10_fault_24 : decode mX10_fault.2.1 24 = .ok (.ireturn, 1) := by decide +kernel
theorem bX10_fault_0 {E : px_E} {d : Nat} {w : pw_W} {Q : Option Value → pw_W → Prop} {t : ct_T} (hw : w.1 = cs t) {x1 : Int32}  
    (k1 : ¬ x1 = 0 → ¬ x1 = 1 → px_W E mX10_fault (d + 1) 0 0 24 [.null, .null] [.int (-1)] w Q)
    (k2 : ¬ x1 = 0 → x1 = 1 → px_W E mX10_fault (d + 1) 0 0 24 [.null, .null] [.int (pw_I w 61 3)] w Q)
    (k3 : x1 = 0 → px_W E mX10_fault (d + 1) 0 0 24 [.null, .null] [.int (pw_I w 61 2)] w Q) :
    px_W E mX10_fault (d + 1) 0 0 0 [.ref 61, .int x1] [] w Q := by
  refine px_iload_n dX10_fault_0 rfl rfl ?_
  refine px_if_ne (tgt := 11) dX10_fault_1 (by decide) (fun h1 => ?_) (fun h1 => ?_)
  ·
    refine px_iload_n dX10_fault_11 rfl rfl ?_
    refine px_iconst dX10_fault_12 ic_1 ?_
    refine px_icmp_ne (tgt := 23) dX10_fault_13 (by decide) (fun h2 => ?_) (fun h2 => ?_)
    ·
      refine px_iconst dX10_fault_23 ic_m1 ?_
      exact px_forget (k1 h1 h2) ⟨Or.inl rfl, Or.inl rfl, trivial⟩
    ·
      refine px_aload_n dX10_fault_16 rfl rfl ?_
      refine px_getI dX10_fault_17 fr_10_13 rfl (px_sh1 hw sh_61) ?_
      refine px_goto (tgt := 24) dX10_fault_20 (by decide) ?_
      exact px_forget (k2 h1 h2) ⟨Or.inl rfl, Or.inl rfl, trivial⟩
  ·
    refine px_aload_n dX10_fault_4 rfl rfl ?_
    refine px_getI dX10_fault_5 fr_10_197 rfl (px_sh1 hw sh_61) ?_
    refine px_goto (tgt := 24) dX10_fault_8 (by decide) ?_
    exact px_forget (k3 h1) ⟨Or.inl rfl, Or.inl rfl, trivial⟩
theorem eX10_fault {E : px_E} {d : Nat} {w : pw_W} {Q : Option Value → pw_W → Prop} {t : ct_T} (hw : w.1 = cs t) {x1 : Int32}  
    (k1 : ¬ x1 = 0 → ¬ x1 = 1 → px_W E mX10_fault (d + 1) 0 0 24 [.null, .null] [.int (-1)] w Q)
    (k2 : ¬ x1 = 0 → x1 = 1 → px_W E mX10_fault (d + 1) 0 0 24 [.null, .null] [.int (pw_I w 61 3)] w Q)
    (k3 : x1 = 0 → px_W E mX10_fault (d + 1) 0 0 24 [.null, .null] [.int (pw_I w 61 2)] w Q) :
    px_Call E (d + 1) 0 0 mX10_fault [.ref 61, .int x1] w Q :=
  px_enter (k := 0) (by decide) (Nat.le_of_ble_eq_true rfl) rfl (px_forget (bX10_fault_0 hw k1 k2 k3) ⟨Or.inr rfl, Or.inr rfl, trivial⟩)
theorem bX10_fault_24 {E : px_E} {d : Nat} {w : pw_W} {Q : Option Value → pw_W → Prop} {t : ct_T} (hw : w.1 = cs t) {y0 : Int32}  
    (k1 : Q (some (.int y0)) w) :
    px_W E mX10_fault (d + 1) 0 0 24 [.null, .null] [.int y0] w Q := by
  exact px_ireturn dX10_fault_24 rfl rfl k1
theorem dX10_fill_0 : decode mX10_fill.2.1 0 = .ok (.iconst 0, 1) := by decide +kernel
theorem dX10_fill_1 : decode mX10_fill.2.1 1 = .ok (.istore_n 1, 1) := by decide +kernel
theorem dX10_fill_2 : decode mX10_fill.2.1 2 = .ok (.iload_n 1, 1) := by decide +kernel
theorem dX10_fill_3 : decode mX10_fill.2.1 3 = .ok (.bipush 15, 2) := by decide +kernel
theorem dX10_fill_5 : decode mX10_fill.2.1 5 = .ok (.if_icmp .ge 21, 3) := by decide +kernel
theorem dX10_fill_8 : decode mX10_fill.2.1 8 = .ok (.aload_n 0, 1) := by decide +kernel
theorem dX10_fill_9 : decode mX10_fill.2.1 9 = .ok (.getfield 102, 3) := by decide +kernel
theorem dX10_fill_12 : decode mX10_fill.2.1 12 = .ok (.iload_n 1, 1) := by decide +kernel
theorem dX10_fill_13 : decode mX10_fill.2.1 13 = .ok (.aload_n 0, 1) := by decide +kernel
theorem dX10_fill_14 : decode mX10_fill.2.1 14 = .ok (.getfield 99, 3) := by decide +kernel
theorem dX10_fill_17 : decode mX10_fill.2.1 17 = .ok (.iload_n 1, 1) := by decide +kernel
theorem dX10_fill_18 : decode mX10_fill.2.1 18 = .ok (.iaload, 1) := by decide +kernel
theorem dX10_fill_19 : decode mX10_fill.2.1 19 = .ok (.iastore, 1) := by decide +kernel
theorem dX10_fill_20 : decode mX10_fill.2.1 20 = .ok (.iinc 1 1, 3) := by decide +kernel
theorem dX10_fill_23 : decode mX10_fill.2.1 23 = .ok (.goto (-21), 3) := by decide +kernel
theorem dX10_fill_26 : decode mX10_fill.2.1 26 = .ok (.return_, 1) := by decide +kernel
theorem bX10_fill_0 {E : px_E} {d : Nat} {w : pw_W} {Q : Option Value → pw_W → Prop} {t : ct_T} (hw : w.1 = cs t)  
    (k1 : px_W E mX10_fill (d + 1) 0 0 2 [.ref 61, .int 0] [] w Q) :
    px_W E mX10_fill (d + 1) 0 0 0 [.ref 61, .null] [] w Q := by
  refine px_iconst dX10_fill_0 ic_0 ?_
  refine px_istore_n (ls' := [.ref 61, .int 0]) dX10_fill_1 rfl ⟨by decide, rfl⟩ rfl ?_
  exact k1
theorem eX10_fill {E : px_E} {d : Nat} {w : pw_W} {Q : Option Value → pw_W → Prop} {t : ct_T} (hw : w.1 = cs t)  
    (k1 : px_W E mX10_fill (d + 1) 0 0 2 [.ref 61, .int 0] [] w Q) :
    px_Call E (d + 1) 0 0 mX10_fill [.ref 61] w Q :=
  px_enter (k := 1) (by decide) (Nat.le_of_ble_eq_true rfl) rfl (px_forget (bX10_fill_0 hw k1) ⟨Or.inr rfl, Or.inl rfl, trivial⟩)
theorem bX10_fill_2 {E : px_E} {d : Nat} {w : pw_W} {Q : Option Value → pw_W → Prop} {t : ct_T} (hw : w.1 = cs t) {x1 : Int32}  
    (k1 : 15 ≤ x1 → Q none w)
    (k2 : ¬ 15 ≤ x1 → px_W E mX10_fill (d + 1) 0 0 8 [.ref 61, .int x1] [] w Q) :
    px_W E mX10_fill (d + 1) 0 0 2 [.ref 61, .int x1] [] w Q := by
  refine px_iload_n dX10_fill_2 rfl rfl ?_
  refine px_bipush dX10_fill_3 bp_15 ?_
  refine px_icmp_ge (tgt := 26) dX10_fill_5 (by decide) (fun h1 => ?_) (fun h1 => ?_)
  ·
    exact px_return dX10_fill_26 rfl (k1 h1)
  ·
    exact (k2 h1)
theorem bX10_fill_8 {E : px_E} {d : Nat} {w : pw_W} {Q : Option Value → pw_W → Prop} {t : ct_T} (hw : w.1 = cs t) {x1 : Int32}  (j1 : Nat) (hj1 : x1 = nI j1) (hl1 : j1 < 15)
    (k1 : px_W E mX10_fill (d + 1) 0 0 2 [.ref 61, .int (x1 + 1)] [] (pw_sI w 90 j1 (pw_I w 89 j1)) Q) :
    px_W E mX10_fill (d + 1) 0 0 8 [.ref 61, .int x1] [] w Q := by
  refine px_aload_n dX10_fill_8 rfl rfl ?_
  refine px_getR (v := 90) dX10_fill_9 fr_10_102 rfl (px_sh1 hw sh_61) (px_rf hw rf_61_61) (by decide) ?_
  refine px_iload_n dX10_fill_12 rfl rfl ?_
  refine px_aload_n dX10_fill_13 rfl rfl ?_
  refine px_getR (v := 89) dX10_fill_14 fr_10_99 rfl (px_sh1 hw sh_61) (px_rf hw rf_61_60) (by decide) ?_
  refine px_iload_n dX10_fill_17 rfl rfl ?_
  refine px_iald dX10_fill_18 (px_sh2 hw sh_89) (by decide) j1 hj1 hl1 ?_
  refine px_iast dX10_fill_19 (px_sh2 hw sh_90) (by decide) j1 hj1 hl1 (by omega) ?_
  refine px_iinc (ls' := [.ref 61, .int (x1 + 1)]) dX10_fill_20 ⟨by decide, rfl⟩ rfl rfl rfl ?_
  refine px_goto (tgt := 2) dX10_fill_23 (by decide) ?_
  exact k1
theorem dX10_keepAir_0 : decode mX10_keepAir.2.1 0 = .ok (.iconst 0, 1) := by decide +kernel
theorem dX10_keepAir_1 : decode mX10_keepAir.2.1 1 = .ok (.istore_n 1, 1) := by decide +kernel
theorem dX10_keepAir_2 : decode mX10_keepAir.2.1 2 = .ok (.iload_n 1, 1) := by decide +kernel
theorem dX10_keepAir_3 : decode mX10_keepAir.2.1 3 = .ok (.bipush 15, 2) := by decide +kernel
theorem dX10_keepAir_5 : decode mX10_keepAir.2.1 5 = .ok (.if_icmp .ge 21, 3) := by decide +kernel
theorem dX10_keepAir_8 : decode mX10_keepAir.2.1 8 = .ok (.aload_n 0, 1) := by decide +kernel
theorem dX10_keepAir_9 : decode mX10_keepAir.2.1 9 = .ok (.getfield 99, 3) := by decide +kernel
theorem dX10_keepAir_12 : decode mX10_keepAir.2.1 12 = .ok (.iload_n 1, 1) := by decide +kernel
theorem dX10_keepAir_13 : decode mX10_keepAir.2.1 13 = .ok (.aload_n 0, 1) := by decide +kernel
theorem dX10_keepAir_14 : decode mX10_keepAir.2.1 14 = .ok (.getfield 102, 3) := by decide +kernel
theorem dX10_keepAir_17 : decode mX10_keepAir.2.1 17 = .ok (.iload_n 1, 1) := by decide +kernel
theorem dX10_keepAir_18 : decode mX10_keepAir.2.1 18 = .ok (.iaload, 1) := by decide +kernel
theorem dX10_keepAir_19 : decode mX10_keepAir.2.1 19 = .ok (.iastore, 1) := by decide +kernel
theorem dX10_keepAir_20 : decode mX10_keepAir.2.1 20 = .ok (.iinc 1 1, 3) := by decide +kernel
theorem dX10_keepAir_23 : decode mX10_keepAir.2.1 23 = .ok (.goto (-21), 3) := by decide +kernel
theorem dX10_keepAir_26 : decode mX10_keepAir.2.1 26 = .ok (.return_, 1) := by decide +kernel
theorem bX10_keepAir_0 {E : px_E} {d : Nat} {w : pw_W} {Q : Option Value → pw_W → Prop} {t : ct_T} (hw : w.1 = cs t)  
    (k1 : px_W E mX10_keepAir (d + 1) 0 0 2 [.ref 61, .int 0] [] w Q) :
    px_W E mX10_keepAir (d + 1) 0 0 0 [.ref 61, .null] [] w Q := by
  refine px_iconst dX10_keepAir_0 ic_0 ?_
  refine px_istore_n (ls' := [.ref 61, .int 0]) dX10_keepAir_1 rfl ⟨by decide, rfl⟩ rfl ?_
  exact k1
theorem eX10_keepAir {E : px_E} {d : Nat} {w : pw_W} {Q : Option Value → pw_W → Prop} {t : ct_T} (hw : w.1 = cs t)  
    (k1 : px_W E mX10_keepAir (d + 1) 0 0 2 [.ref 61, .int 0] [] w Q) :
    px_Call E (d + 1) 0 0 mX10_keepAir [.ref 61] w Q :=
  px_enter (k := 1) (by decide) (Nat.le_of_ble_eq_true rfl) rfl (px_forget (bX10_keepAir_0 hw k1) ⟨Or.inr rfl, Or.inl rfl, trivial⟩)
theorem bX10_keepAir_2 {E : px_E} {d : Nat} {w : pw_W} {Q : Option Value → pw_W → Prop} {t : ct_T} (hw : w.1 = cs t) {x1 : Int32}  
    (k1 : 15 ≤ x1 → Q none w)
    (k2 : ¬ 15 ≤ x1 → px_W E mX10_keepAir (d + 1) 0 0 8 [.ref 61, .int x1] [] w Q) :
    px_W E mX10_keepAir (d + 1) 0 0 2 [.ref 61, .int x1] [] w Q := by
  refine px_iload_n dX10_keepAir_2 rfl rfl ?_
  refine px_bipush dX10_keepAir_3 bp_15 ?_
  refine px_icmp_ge (tgt := 26) dX10_keepAir_5 (by decide) (fun h1 => ?_) (fun h1 => ?_)
  ·
    exact px_return dX10_keepAir_26 rfl (k1 h1)
  ·
    exact (k2 h1)
theorem bX10_keepAir_8 {E : px_E} {d : Nat} {w : pw_W} {Q : Option Value → pw_W → Prop} {t : ct_T} (hw : w.1 = cs t) {x1 : Int32}  (j1 : Nat) (hj1 : x1 = nI j1) (hl1 : j1 < 15)
    (k1 : px_W E mX10_keepAir (d + 1) 0 0 2 [.ref 61, .int (x1 + 1)] [] (pw_sI w 89 j1 (pw_I w 90 j1)) Q) :
    px_W E mX10_keepAir (d + 1) 0 0 8 [.ref 61, .int x1] [] w Q := by
  refine px_aload_n dX10_keepAir_8 rfl rfl ?_
  refine px_getR (v := 89) dX10_keepAir_9 fr_10_99 rfl (px_sh1 hw sh_61) (px_rf hw rf_61_60) (by decide) ?_
  refine px_iload_n dX10_keepAir_12 rfl rfl ?_
  refine px_aload_n dX10_keepAir_13 rfl rfl ?_
  refine px_getR (v := 90) dX10_keepAir_14 fr_10_102 rfl (px_sh1 hw sh_61) (px_rf hw rf_61_61) (by decide) ?_
  refine px_iload_n dX10_keepAir_17 rfl rfl ?_
  refine px_iald dX10_keepAir_18 (px_sh2 hw sh_90) (by decide) j1 hj1 hl1 ?_
  refine px_iast dX10_keepAir_19 (px_sh2 hw sh_89) (by decide) j1 hj1 hl1 (by omega) ?_
  refine px_iinc (ls' := [.ref 61, .int (x1 + 1)]) dX10_keepAir_20 ⟨by decide, rfl⟩ rfl rfl rfl ?_
  refine px_goto (tgt := 2) dX10_keepAir_23 (by decide) ?_
  exact k1
theorem dX10_layTold_0 : decode mX10_layTold.2.1 0 = .ok (.iconst 0, 1) := by decide +kernel
theorem dX10_layTold_1 : decode mX10_layTold.2.1 1 = .ok (.istore_n 1, 1) := by decide +kernel
theorem dX10_layTold_2 : decode mX10_layTold.2.1 2 = .ok (.iload_n 1, 1) := by decide +kernel
theorem dX10_layTold_3 : decode mX10_layTold.2.1 3 = .ok (.bipush 15, 2) := by decide +kernel
theorem dX10_layTold_5 : decode mX10_layTold.2.1 5 = .ok (.if_icmp .ge 16, 3) := by decide +kernel
theorem dX10_layTold_8 : decode mX10_layTold.2.1 8 = .ok (.aload_n 0, 1) := by decide +kernel
theorem dX10_layTold_9 : decode mX10_layTold.2.1 9 = .ok (.getfield 102, 3) := by decide +kernel
theorem dX10_layTold_12 : decode mX10_layTold.2.1 12 = .ok (.iload_n 1, 1) := by decide +kernel
theorem dX10_layTold_13 : decode mX10_layTold.2.1 13 = .ok (.iconst 0, 1) := by decide +kernel
theorem dX10_layTold_14 : decode mX10_layTold.2.1 14 = .ok (.iastore, 1) := by decide +kernel
theorem dX10_layTold_15 : decode mX10_layTold.2.1 15 = .ok (.iinc 1 1, 3) := by decide +kernel
theorem dX10_layTold_18 : decode mX10_layTold.2.1 18 = .ok (.goto (-16), 3) := by decide +kernel
theorem dX10_layTold_21 : decode mX10_layTold.2.1 21 = .ok (.iconst 0, 1) := by decide +kernel
theorem dX10_layTold_22 : decode mX10_layTold.2.1 22 = .ok (.istore_n 1, 1) := by decide +kernel
theorem dX10_layTold_23 : decode mX10_layTold.2.1 23 = .ok (.iload_n 1, 1) := by decide +kernel
theorem dX10_layTold_24 : decode mX10_layTold.2.1 24 = .ok (.aload_n 0, 1) := by decide +kernel
theorem dX10_layTold_25 : decode mX10_layTold.2.1 25 = .ok (.getfield 404, 3) := by decide +kernel
theorem dX10_layTold_28 : decode mX10_layTold.2.1 28 = .ok (.if_icmp .ge 36, 3) := by decide +kernel
theorem dX10_layTold_31 : decode mX10_layTold.2.1 31 = .ok (.aload_n 0, 1) := by decide +kernel
theorem dX10_layTold_32 : decode mX10_layTold.2.1 32 = .ok (.getfield 102, 3) := by decide +kernel
theorem dX10_layTold_35 : decode mX10_layTold.2.1 35 = .ok (.iload_n 1, 1) := by decide +kernel
theorem dX10_layTold_36 : decode mX10_layTold.2.1 36 = .ok (.aload_n 0, 1) := by decide +kernel
theorem dX10_layTold_37 : decode mX10_layTold.2.1 37 = .ok (.getfield 69, 3) := by decide +kernel
theorem dX10_layTold_40 : decode mX10_layTold.2.1 40 = .ok (.iload_n 1, 1) := by decide +kernel
theorem dX10_layTold_41 : decode mX10_layTold.2.1 41 = .ok (.iaload, 1) := by decide +kernel
theorem dX10_layTold_42 : decode mX10_layTold.2.1 42 = .ok (.iastore, 1) := by decide +kernel
theorem dX10_layTold_43 : decode mX10_layTold.2.1 43 = .ok (.aload_n 0, 1) := by decide +kernel
theorem dX10_layTold_44 : decode mX10_layTold.2.1 44 = .ok (.getfield 102, 3) := by decide +kernel
theorem dX10_layTold_47 : decode mX10_layTold.2.1 47 = .ok (.bipush 6, 2) := by decide +kernel
theorem dX10_layTold_49 : decode mX10_layTold.2.1 49 = .ok (.iload_n 1, 1) := by decide +kernel
theorem dX10_layTold_50 : decode mX10_layTold.2.1 50 = .ok (.iadd, 1) := by decide +kernel
theorem dX10_layTold_51 : decode mX10_layTold.2.1 51 = .ok (.aload_n 0, 1) := by decide +kernel
theorem dX10_layTold_52 : decode mX10_layTold.2.1 52 = .ok (.getfield 75, 3) := by decide +kernel
theorem dX10_layTold_55 : decode mX10_layTold.2.1 55 = .ok (.iload_n 1, 1) := by decide +kernel
theorem dX10_layTold_56 : decode mX10_layTold.2.1 56 = .ok (.iaload, 1) := by decide +kernel
theorem dX10_layTold_57 : decode mX10_layTold.2.1 57 = .ok (.iastore, 1) := by decide +kernel
theorem dX10_layTold_58 : decode mX10_layTold.2.1 58 = .ok (.iinc 1 1, 3) := by decide +kernel
theorem dX10_layTold_61 : decode mX10_layTold.2.1 61 = .ok (.goto (-38), 3) := by decide +kernel
theorem dX10_layTold_64 : decode mX10_layTold.2.1 64 = .ok (.aload_n 0, 1) := by decide +kernel
theorem dX10_layTold_65 : decode mX10_layTold.2.1 65 = .ok (.getfield 102, 3) := by decide +kernel
theorem dX10_layTold_68 : decode mX10_layTold.2.1 68 = .ok (.bipush 14, 2) := by decide +kernel
theorem dX10_layTold_70 : decode mX10_layTold.2.1 70 = .ok (.aload_n 0, 1) := by decide +kernel
theorem dX10_layTold_71 : decode mX10_layTold.2.1 71 = .ok (.getfield 416, 3) := by decide +kernel
theorem dX10_layTold_74 : decode mX10_layTold.2.1 74 = .ok (.iastore, 1) := by decide +kernel
theorem dX10_layTold_75 : decode mX10_layTold.2.1 75 = .ok (.return_, 1) := by decide +kernel
theorem bX10_layTold_0 {E : px_E} {d : Nat} {w : pw_W} {Q : Option Value → pw_W → Prop} {t : ct_T} (hw : w.1 = cs t)  
    (k1 : px_W E mX10_layTold (d + 1) 0 0 2 [.ref 61, .int 0] [] w Q) :
    px_W E mX10_layTold (d + 1) 0 0 0 [.ref 61, .null] [] w Q := by
  refine px_iconst dX10_layTold_0 ic_0 ?_
  refine px_istore_n (ls' := [.ref 61, .int 0]) dX10_layTold_1 rfl ⟨by decide, rfl⟩ rfl ?_
  exact k1
theorem eX10_layTold {E : px_E} {d : Nat} {w : pw_W} {Q : Option Value → pw_W → Prop} {t : ct_T} (hw : w.1 = cs t)  
    (k1 : px_W E mX10_layTold (d + 1) 0 0 2 [.ref 61, .int 0] [] w Q) :
    px_Call E (d + 1) 0 0 mX10_layTold [.ref 61] w Q :=
  px_enter (k := 1) (by decide) (Nat.le_of_ble_eq_true rfl) rfl (px_forget (bX10_layTold_0 hw k1) ⟨Or.inr rfl, Or.inl rfl, trivial⟩)
theorem bX10_layTold_2 {E : px_E} {d : Nat} {w : pw_W} {Q : Option Value → pw_W → Prop} {t : ct_T} (hw : w.1 = cs t) {x1 : Int32}  
    (k1 : 15 ≤ x1 → px_W E mX10_layTold (d + 1) 0 0 23 [.ref 61, .int 0] [] w Q)
    (k2 : ¬ 15 ≤ x1 → px_W E mX10_layTold (d + 1) 0 0 8 [.ref 61, .int x1] [] w Q) :
    px_W E mX10_layTold (d + 1) 0 0 2 [.ref 61, .int x1] [] w Q := by
  refine px_iload_n dX10_layTold_2 rfl rfl ?_
  refine px_bipush dX10_layTold_3 bp_15 ?_
  refine px_icmp_ge (tgt := 21) dX10_layTold_5 (by decide) (fun h1 => ?_) (fun h1 => ?_)
  ·
    refine px_iconst dX10_layTold_21 ic_0 ?_
    refine px_istore_n (ls' := [.ref 61, .int 0]) dX10_layTold_22 rfl ⟨by decide, rfl⟩ rfl ?_
    exact (k1 h1)
  ·
    exact (k2 h1)
theorem bX10_layTold_8 {E : px_E} {d : Nat} {w : pw_W} {Q : Option Value → pw_W → Prop} {t : ct_T} (hw : w.1 = cs t) {x1 : Int32}  (j1 : Nat) (hj1 : x1 = nI j1) (hl1 : j1 < 15)
    (k1 : px_W E mX10_layTold (d + 1) 0 0 2 [.ref 61, .int (x1 + 1)] [] (pw_sI w 90 j1 0) Q) :
    px_W E mX10_layTold (d + 1) 0 0 8 [.ref 61, .int x1] [] w Q := by
  refine px_aload_n dX10_layTold_8 rfl rfl ?_
  refine px_getR (v := 90) dX10_layTold_9 fr_10_102 rfl (px_sh1 hw sh_61) (px_rf hw rf_61_61) (by decide) ?_
  refine px_iload_n dX10_layTold_12 rfl rfl ?_
  refine px_iconst dX10_layTold_13 ic_0 ?_
  refine px_iast dX10_layTold_14 (px_sh2 hw sh_90) (by decide) j1 hj1 hl1 (by omega) ?_
  refine px_iinc (ls' := [.ref 61, .int (x1 + 1)]) dX10_layTold_15 ⟨by decide, rfl⟩ rfl rfl rfl ?_
  refine px_goto (tgt := 2) dX10_layTold_18 (by decide) ?_
  exact k1
theorem bX10_layTold_23 {E : px_E} {d : Nat} {w : pw_W} {Q : Option Value → pw_W → Prop} {t : ct_T} (hw : w.1 = cs t) {x1 : Int32}  
    (k1 : (pw_I w 61 51) ≤ x1 → px_W E mX10_layTold (d + 1) 0 0 64 [.ref 61, .null] [] w Q)
    (k2 : ¬ (pw_I w 61 51) ≤ x1 → px_W E mX10_layTold (d + 1) 0 0 31 [.ref 61, .int x1] [] w Q) :
    px_W E mX10_layTold (d + 1) 0 0 23 [.ref 61, .int x1] [] w Q := by
  refine px_iload_n dX10_layTold_23 rfl rfl ?_
  refine px_aload_n dX10_layTold_24 rfl rfl ?_
  refine px_getI dX10_layTold_25 fr_10_404 rfl (px_sh1 hw sh_61) ?_
  refine px_icmp_ge (tgt := 64) dX10_layTold_28 (by decide) (fun h1 => ?_) (fun h1 => ?_)
  ·
    exact px_forget (k1 h1) ⟨Or.inr rfl, Or.inl rfl, trivial⟩
  ·
    exact (k2 h1)
theorem bX10_layTold_31 {E : px_E} {d : Nat} {w : pw_W} {Q : Option Value → pw_W → Prop} {t : ct_T} (hw : w.1 = cs t) {x1 : Int32}  (j1 : Nat) (hj1 : x1 = nI j1) (hl1 : j1 < 6) (j2 : Nat) (hj2 : x1 = nI j2) (hl2 : j2 < 15) (j3 : Nat) (hj3 : (6 + x1) = nI j3) (hl3 : j3 < 15)
    (k1 : px_W E mX10_layTold (d + 1) 0 0 23 [.ref 61, .int (x1 + 1)] [] (pw_sI (pw_sI w 90 j2 (pw_I w 80 j1)) 90 j3 (pw_I w 82 j1)) Q) :
    px_W E mX10_layTold (d + 1) 0 0 31 [.ref 61, .int x1] [] w Q := by
  refine px_aload_n dX10_layTold_31 rfl rfl ?_
  refine px_getR (v := 90) dX10_layTold_32 fr_10_102 rfl (px_sh1 hw sh_61) (px_rf hw rf_61_61) (by decide) ?_
  refine px_iload_n dX10_layTold_35 rfl rfl ?_
  refine px_aload_n dX10_layTold_36 rfl rfl ?_
  refine px_getR (v := 80) dX10_layTold_37 fr_10_69 rfl (px_sh1 hw sh_61) (px_rf hw rf_61_36) (by decide) ?_
  refine px_iload_n dX10_layTold_40 rfl rfl ?_
  refine px_iald dX10_layTold_41 (px_sh2 hw sh_80) (by decide) j1 hj1 hl1 ?_
  refine px_iast dX10_layTold_42 (px_sh2 hw sh_90) (by decide) j2 hj2 hl2 (by omega) ?_
  refine px_aload_n dX10_layTold_43 rfl rfl ?_
  refine px_getR (v := 90) dX10_layTold_44 fr_10_102 rfl (px_sh1 (hI hw) sh_61) (px_rf (hI hw) rf_61_61) (by decide) ?_
  refine px_bipush dX10_layTold_47 bp_6 ?_
  refine px_iload_n dX10_layTold_49 rfl rfl ?_
  refine px_iadd dX10_layTold_50 ?_
  refine px_aload_n dX10_layTold_51 rfl rfl ?_
  refine px_getR (v := 82) dX10_layTold_52 fr_10_75 rfl (px_sh1 (hI hw) sh_61) (px_rf (hI hw) rf_61_38) (by decide) ?_
  refine px_iload_n dX10_layTold_55 rfl rfl ?_
  refine px_ialdv (v := (pw_I w 82 j1)) dX10_layTold_56 (px_sh2 (hI hw) sh_82) (by decide) j1 hj1 hl1 rfl ?_
  refine px_iast dX10_layTold_57 (px_sh2 (hI hw) sh_90) (by decide) j3 hj3 hl3 (by omega) ?_
  refine px_iinc (ls' := [.ref 61, .int (x1 + 1)]) dX10_layTold_58 ⟨by decide, rfl⟩ rfl rfl rfl ?_
  refine px_goto (tgt := 23) dX10_layTold_61 (by decide) ?_
  exact k1
theorem bX10_layTold_64 {E : px_E} {d : Nat} {w : pw_W} {Q : Option Value → pw_W → Prop} {t : ct_T} (hw : w.1 = cs t)  
    (k1 : Q none (pw_sI w 90 14 (pw_I w 61 56))) :
    px_W E mX10_layTold (d + 1) 0 0 64 [.ref 61, .null] [] w Q := by
  refine px_aload_n dX10_layTold_64 rfl rfl ?_
  refine px_getR (v := 90) dX10_layTold_65 fr_10_102 rfl (px_sh1 hw sh_61) (px_rf hw rf_61_61) (by decide) ?_
  refine px_bipush dX10_layTold_68 bp_14 ?_
  refine px_aload_n dX10_layTold_70 rfl rfl ?_
  refine px_getI dX10_layTold_71 fr_10_416 rfl (px_sh1 hw sh_61) ?_
  refine px_iast dX10_layTold_74 (px_sh2 hw sh_90) (by decide) 14 rfl (by decide) (by omega) ?_
  exact px_return dX10_layTold_75 rfl k1
theorem dX10_abedOnes_0 : decode mX10_abedOnes.2.1 0 = .ok (.iconst 0, 1) := by decide +kernel
theorem dX10_abedOnes_1 : decode mX10_abedOnes.2.1 1 = .ok (.istore_n 1, 1) := by decide +kernel
theorem dX10_abedOnes_2 : decode mX10_abedOnes.2.1 2 = .ok (.iconst 0, 1) := by decide +kernel
theorem dX10_abedOnes_3 : decode mX10_abedOnes.2.1 3 = .ok (.istore_n 2, 1) := by decide +kernel
theorem dX10_abedOnes_4 : decode mX10_abedOnes.2.1 4 = .ok (.iload_n 2, 1) := by decide +kernel
theorem dX10_abedOnes_5 : decode mX10_abedOnes.2.1 5 = .ok (.aload_n 0, 1) := by decide +kernel
theorem dX10_abedOnes_6 : decode mX10_abedOnes.2.1 6 = .ok (.getfield 404, 3) := by decide +kernel
theorem dX10_abedOnes_9 : decode mX10_abedOnes.2.1 9 = .ok (.if_icmp .ge 22, 3) := by decide +kernel
theorem dX10_abedOnes_12 : decode mX10_abedOnes.2.1 12 = .ok (.iload_n 1, 1) := by decide +kernel
theorem dX10_abedOnes_13 : decode mX10_abedOnes.2.1 13 = .ok (.aload_n 0, 1) := by decide +kernel
theorem dX10_abedOnes_14 : decode mX10_abedOnes.2.1 14 = .ok (.iload_n 2, 1) := by decide +kernel
theorem dX10_abedOnes_15 : decode mX10_abedOnes.2.1 15 = .ok (.invokevirtual 444, 3) := by decide +kernel
theorem dX10_abedOnes_18 : decode mX10_abedOnes.2.1 18 = .ok (.invokestatic 332, 3) := by decide +kernel
theorem dX10_abedOnes_21 : decode mX10_abedOnes.2.1 21 = .ok (.iload_n 2, 1) := by decide +kernel
theorem dX10_abedOnes_22 : decode mX10_abedOnes.2.1 22 = .ok (.ishl, 1) := by decide +kernel
theorem dX10_abedOnes_23 : decode mX10_abedOnes.2.1 23 = .ok (.ior, 1) := by decide +kernel
theorem dX10_abedOnes_24 : decode mX10_abedOnes.2.1 24 = .ok (.istore_n 1, 1) := by decide +kernel
theorem dX10_abedOnes_25 : decode mX10_abedOnes.2.1 25 = .ok (.iinc 2 1, 3) := by decide +kernel
theorem dX10_abedOnes_28 : decode mX10_abedOnes.2.1 28 = .ok (.goto (-24), 3) := by decide +kernel
theorem dX10_abedOnes_31 : decode mX10_abedOnes.2.1 31 = .ok (.iload_n 1, 1) := by decide +kernel
theorem dX10_abedOnes_32 : decode mX10_abedOnes.2.1 32 = .ok (.ireturn, 1) := by decide +kernel
theorem bX10_abedOnes_0 {E : px_E} {d : Nat} {w : pw_W} {Q : Option Value → pw_W → Prop} {t : ct_T} (hw : w.1 = cs t)  
    (k1 : px_W E mX10_abedOnes (d + 2) 0 0 4 [.ref 61, .int 0, .int 0] [] w Q) :
    px_W E mX10_abedOnes (d + 2) 0 0 0 [.ref 61, .null, .null] [] w Q := by
  refine px_iconst dX10_abedOnes_0 ic_0 ?_
  refine px_istore_n (ls' := [.ref 61, .int 0, .null]) dX10_abedOnes_1 rfl ⟨by decide, rfl⟩ rfl ?_
  refine px_iconst dX10_abedOnes_2 ic_0 ?_
  refine px_istore_n (ls' := [.ref 61, .int 0, .int 0]) dX10_abedOnes_3 rfl ⟨by decide, rfl⟩ rfl ?_
  exact k1
theorem eX10_abedOnes {E : px_E} {d : Nat} {w : pw_W} {Q : Option Value → pw_W → Prop} {t : ct_T} (hw : w.1 = cs t)  
    (k1 : px_W E mX10_abedOnes (d + 2) 0 0 4 [.ref 61, .int 0, .int 0] [] w Q) :
    px_Call E (d + 2) 0 0 mX10_abedOnes [.ref 61] w Q :=
  px_enter (k := 2) (by decide) (Nat.le_of_ble_eq_true rfl) rfl (px_forget (bX10_abedOnes_0 hw k1) ⟨Or.inr rfl, Or.inl rfl, Or.inl rfl, trivial⟩)
theorem bX10_abedOnes_4 {E : px_E} {d : Nat} {w : pw_W} {Q : Option Value → pw_W → Prop} {t : ct_T} (hw : w.1 = cs t) {x1 x2 : Int32}  
    (k1 : (pw_I w 61 51) ≤ x2 → Q (some (.int x1)) w)
    (k2 : ¬ (pw_I w 61 51) ≤ x2 → px_W E mX10_abedOnes (d + 2) 0 0 12 [.ref 61, .int x1, .int x2] [] w Q) :
    px_W E mX10_abedOnes (d + 2) 0 0 4 [.ref 61, .int x1, .int x2] [] w Q := by
  refine px_iload_n dX10_abedOnes_4 rfl rfl ?_
  refine px_aload_n dX10_abedOnes_5 rfl rfl ?_
  refine px_getI dX10_abedOnes_6 fr_10_404 rfl (px_sh1 hw sh_61) ?_
  refine px_icmp_ge (tgt := 31) dX10_abedOnes_9 (by decide) (fun h1 => ?_) (fun h1 => ?_)
  ·
    refine px_iload_n dX10_abedOnes_31 rfl rfl ?_
    exact px_ireturn dX10_abedOnes_32 rfl rfl (k1 h1)
  ·
    exact (k2 h1)
theorem bX10_abedOnes_12 {E : px_E} {d : Nat} {w : pw_W} {Q : Option Value → pw_W → Prop} {t : ct_T} (hw : w.1 = cs t) {x1 x2 : Int32}  (j1 : Nat) (hj1 : (6 + x2) = nI j1) (hl1 : j1 < 15)
    (k1 : px_W E mX10_abedOnes (d + 2) 0 0 4 [.ref 61, .int (x1 ||| (js_shl (hX10_truth (jb (pX10_isAbed w x2 j1))) x2)), .int (x2 + 1)] [] w Q) :
    px_W E mX10_abedOnes (d + 2) 0 0 12 [.ref 61, .int x1, .int x2] [] w Q := by
  refine px_iload_n dX10_abedOnes_12 rfl rfl ?_
  refine px_aload_n dX10_abedOnes_13 rfl rfl ?_
  refine px_iload_n dX10_abedOnes_14 rfl rfl ?_
  refine px_forget (ls' := [.ref 61, .null, .int x2]) ?_ ⟨Or.inr rfl, Or.inl rfl, Or.inr rfl, trivial⟩
  refine px_callV (As := [.int x2]) (st := [.int x1]) (rc := 0) (rs := 0) (mc := 0) (ms := 0) dX10_abedOnes_15 lk_10_444 (px_sh1 hw sh_61) rfl rfl (Nat.le_of_ble_eq_true rfl) (sX10_isAbed (w := w) hw j1 hj1 hl1 ?_)
  show px_W E mX10_abedOnes (d + 2) 0 0 18 [.ref 61, .null, .int x2] [.int (jb (pX10_isAbed w x2 j1)), .int x1] w Q
  refine px_callS (As := [.int (jb (pX10_isAbed w x2 j1))]) (st := [.int x1]) (rc := 0) (rs := 0) (mc := 0) (ms := 0) dX10_abedOnes_18 lk_10_332 rfl rfl (Nat.le_of_ble_eq_true rfl) (sX10_truth ?_)
  show px_W E mX10_abedOnes (d + 2) 0 0 21 [.ref 61, .null, .int x2] [.int (hX10_truth (jb (pX10_isAbed w x2 j1))), .int x1] w Q
  refine px_iload_n dX10_abedOnes_21 rfl rfl ?_
  refine px_ishl dX10_abedOnes_22 ?_
  refine px_ior dX10_abedOnes_23 ?_
  refine px_istore_n (ls' := [.ref 61, .int (x1 ||| (js_shl (hX10_truth (jb (pX10_isAbed w x2 j1))) x2)), .int x2]) dX10_abedOnes_24 rfl ⟨by decide, rfl⟩ rfl ?_
  refine px_iinc (ls' := [.ref 61, .int (x1 ||| (js_shl (hX10_truth (jb (pX10_isAbed w x2 j1))) x2)), .int (x2 + 1)]) dX10_abedOnes_25 ⟨by decide, rfl⟩ rfl rfl rfl ?_
  refine px_goto (tgt := 4) dX10_abedOnes_28 (by decide) ?_
  exact k1
theorem dX10_takesPlace_0 : decode mX10_takesPlace.2.1 0 = .ok (.aload_n 0, 1) := by decide +kernel
theorem dX10_takesPlace_1 : decode mX10_takesPlace.2.1 1 = .ok (.getfield 102, 3) := by decide +kernel
theorem dX10_takesPlace_4 : decode mX10_takesPlace.2.1 4 = .ok (.bipush 13, 2) := by decide +kernel
theorem dX10_takesPlace_6 : decode mX10_takesPlace.2.1 6 = .ok (.iaload, 1) := by decide +kernel
theorem dX10_takesPlace_7 : decode mX10_takesPlace.2.1 7 = .ok (.bipush 7, 2) := by decide +kernel
theorem dX10_takesPlace_9 : decode mX10_takesPlace.2.1 9 = .ok (.irem, 1) := by decide +kernel
theorem dX10_takesPlace_10 : decode mX10_takesPlace.2.1 10 = .ok (.aload_n 0, 1) := by decide +kernel
theorem dX10_takesPlace_11 : decode mX10_takesPlace.2.1 11 = .ok (.getfield 84, 3) := by decide +kernel
theorem dX10_takesPlace_14 : decode mX10_takesPlace.2.1 14 = .ok (.iload_n 1, 1) := by decide +kernel
theorem dX10_takesPlace_15 : decode mX10_takesPlace.2.1 15 = .ok (.iaload, 1) := by decide +kernel
theorem dX10_takesPlace_16 : decode mX10_takesPlace.2.1 16 = .ok (.if_icmp .ne 41, 3) := by decide +kernel
theorem dX10_takesPlace_19 : decode mX10_takesPlace.2.1 19 = .ok (.aload_n 0, 1) := by decide +kernel
theorem dX10_takesPlace_20 : decode mX10_takesPlace.2.1 20 = .ok (.iload_n 1, 1) := by decide +kernel
theorem dX10_takesPlace_21 : decode mX10_takesPlace.2.1 21 = .ok (.invokevirtual 447, 3) := by decide +kernel
theorem dX10_takesPlace_24 : decode mX10_takesPlace.2.1 24 = .ok (.ifCond .ne 33, 3) := by decide +kernel
theorem dX10_takesPlace_27 : decode mX10_takesPlace.2.1 27 = .ok (.aload_n 0, 1) := by decide +kernel
theorem dX10_takesPlace_28 : decode mX10_takesPlace.2.1 28 = .ok (.aload_n 0, 1) := by decide +kernel
theorem dX10_takesPlace_29 : decode mX10_takesPlace.2.1 29 = .ok (.getfield 78, 3) := by decide +kernel
theorem dX10_takesPlace_32 : decode mX10_takesPlace.2.1 32 = .ok (.iload_n 1, 1) := by decide +kernel
theorem dX10_takesPlace_33 : decode mX10_takesPlace.2.1 33 = .ok (.iaload, 1) := by decide +kernel
theorem dX10_takesPlace_34 : decode mX10_takesPlace.2.1 34 = .ok (.invokevirtual 444, 3) := by decide +kernel
theorem dX10_takesPlace_37 : decode mX10_takesPlace.2.1 37 = .ok (.ifCond .ne 20, 3) := by decide +kernel
theorem dX10_takesPlace_40 : decode mX10_takesPlace.2.1 40 = .ok (.aload_n 0, 1) := by decide +kernel
theorem dX10_takesPlace_41 : decode mX10_takesPlace.2.1 41 = .ok (.aload_n 0, 1) := by decide +kernel
theorem dX10_takesPlace_42 : decode mX10_takesPlace.2.1 42 = .ok (.getfield 81, 3) := by decide +kernel
theorem dX10_takesPlace_45 : decode mX10_takesPlace.2.1 45 = .ok (.iload_n 1, 1) := by decide +kernel
theorem dX10_takesPlace_46 : decode mX10_takesPlace.2.1 46 = .ok (.iaload, 1) := by decide +kernel
theorem dX10_takesPlace_47 : decode mX10_takesPlace.2.1 47 = .ok (.invokevirtual 444, 3) := by decide +kernel
theorem dX10_takesPlace_50 : decode mX10_takesPlace.2.1 50 = .ok (.ifCond .ne 7, 3) := by decide +kernel
theorem dX10_takesPlace_53 : decode mX10_takesPlace.2.1 53 = .ok (.iconst 1, 1) := by decide +kernel
theorem dX10_takesPlace_54 : decode mX10_takesPlace.2.1 54 = .ok (.goto 4, 3) := by decide +kernel
theorem dX10_takesPlace_57 : decode mX10_takesPlace.2.1 57 = .ok (.iconst 0, 1) := by decide +kernel
theorem dX10_takesPlace_58 : decode mX10_takesPlace.2.1 58 = .ok (.ireturn, 1) := by decide +kernel
theorem bX10_takesPlace_0 {E : px_E} {d : Nat} {w : pw_W} {Q : Option Value → pw_W → Prop} {t : ct_T} (hw : w.1 = cs t) {x1 : Int32}  (j1 : Nat) (hj1 : x1 = nI j1) (hl1 : j1 < 9)
    (k1 : ¬ (js_rem (pw_I w 90 13) 7) = (pw_I w 85 j1) → px_W E mX10_takesPlace (d + 2) 0 0 57 [.null, .null] [] w Q)
    (k2 : (js_rem (pw_I w 90 13) 7) = (pw_I w 85 j1) → (pX10_isBanned w x1) → px_W E mX10_takesPlace (d + 2) 0 0 57 [.null, .null] [] w Q)
    (k3 : (js_rem (pw_I w 90 13) 7) = (pw_I w 85 j1) → ¬ (pX10_isBanned w x1) → px_W E mX10_takesPlace (d + 2) 0 0 27 [.ref 61, .int x1] [] w Q) :
    px_W E mX10_takesPlace (d + 2) 0 0 0 [.ref 61, .int x1] [] w Q := by
  refine px_aload_n dX10_takesPlace_0 rfl rfl ?_
  refine px_getR (v := 90) dX10_takesPlace_1 fr_10_102 rfl (px_sh1 hw sh_61) (px_rf hw rf_61_61) (by decide) ?_
  refine px_bipush dX10_takesPlace_4 bp_13 ?_
  refine px_iald dX10_takesPlace_6 (px_sh2 hw sh_90) (by decide) 13 rfl (by decide) ?_
  refine px_bipush dX10_takesPlace_7 bp_7 ?_
  refine px_irem dX10_takesPlace_9 (by decide) ?_
  refine px_aload_n dX10_takesPlace_10 rfl rfl ?_
  refine px_getR (v := 85) dX10_takesPlace_11 fr_10_84 rfl (px_sh1 hw sh_61) (px_rf hw rf_61_41) (by decide) ?_
  refine px_iload_n dX10_takesPlace_14 rfl rfl ?_
  refine px_iald dX10_takesPlace_15 (px_sh2 hw sh_85) (by decide) j1 hj1 hl1 ?_
  refine px_icmp_ne (tgt := 57) dX10_takesPlace_16 (by decide) (fun h1 => ?_) (fun h1 => ?_)
  ·
    exact px_forget (k1 h1) ⟨Or.inl rfl, Or.inl rfl, trivial⟩
  ·
    refine px_aload_n dX10_takesPlace_19 rfl rfl ?_
    refine px_iload_n dX10_takesPlace_20 rfl rfl ?_
    refine px_callV (As := [.int x1]) (st := []) (rc := 0) (rs := 0) (mc := 0) (ms := 0) dX10_takesPlace_21 lk_10_447 (px_sh1 hw sh_61) rfl rfl (Nat.le_of_ble_eq_true rfl) (sX10_isBanned (w := w) hw ?_)
    show px_W E mX10_takesPlace (d + 2) 0 0 24 [.ref 61, .int x1] [.int (jb (pX10_isBanned w x1))] w Q
    refine px_jb_ne (tgt := 57) dX10_takesPlace_24 (by decide) (fun h2 => ?_) (fun h2 => ?_)
    ·
      exact px_forget (k2 h1 h2) ⟨Or.inl rfl, Or.inl rfl, trivial⟩
    ·
      exact (k3 h1 h2)
theorem eX10_takesPlace {E : px_E} {d : Nat} {w : pw_W} {Q : Option Value → pw_W → Prop} {t : ct_T} (hw : w.1 = cs t) {x1 : Int32}  (j1 : Nat) (hj1 : x1 = nI j1) (hl1 : j1 < 9)
    (k1 : ¬ (js_rem (pw_I w 90 13) 7) = (pw_I w 85 j1) → px_W E mX10_takesPlace (d + 2) 0 0 57 [.null, .null] [] w Q)
    (k2 : (js_rem (pw_I w 90 13) 7) = (pw_I w 85 j1) → (pX10_isBanned w x1) → px_W E mX10_takesPlace (d + 2) 0 0 57 [.null, .null] [] w Q)
    (k3 : (js_rem (pw_I w 90 13) 7) = (pw_I w 85 j1) → ¬ (pX10_isBanned w x1) → px_W E mX10_takesPlace (d + 2) 0 0 27 [.ref 61, .int x1] [] w Q) :
    px_Call E (d + 2) 0 0 mX10_takesPlace [.ref 61, .int x1] w Q :=
  px_enter (k := 0) (by decide) (Nat.le_of_ble_eq_true rfl) rfl (px_forget (bX10_takesPlace_0 hw j1 hj1 hl1 k1 k2 k3) ⟨Or.inr rfl, Or.inr rfl, trivial⟩)
theorem bX10_takesPlace_27 {E : px_E} {d : Nat} {w : pw_W} {Q : Option Value → pw_W → Prop} {t : ct_T} (hw : w.1 = cs t) {x1 : Int32}  (j1 : Nat) (hj1 : x1 = nI j1) (hl1 : j1 < 9) (j2 : Nat) (hj2 : (6 + (pw_I w 83 j1)) = nI j2) (hl2 : j2 < 15)
    (k1 : (pX10_isAbed w (pw_I w 83 j1) j2) → px_W E mX10_takesPlace (d + 2) 0 0 57 [.null, .null] [] w Q)
    (k2 : ¬ (pX10_isAbed w (pw_I w 83 j1) j2) → px_W E mX10_takesPlace (d + 2) 0 0 40 [.ref 61, .int x1] [] w Q) :
    px_W E mX10_takesPlace (d + 2) 0 0 27 [.ref 61, .int x1] [] w Q := by
  refine px_aload_n dX10_takesPlace_27 rfl rfl ?_
  refine px_aload_n dX10_takesPlace_28 rfl rfl ?_
  refine px_getR (v := 83) dX10_takesPlace_29 fr_10_78 rfl (px_sh1 hw sh_61) (px_rf hw rf_61_39) (by decide) ?_
  refine px_iload_n dX10_takesPlace_32 rfl rfl ?_
  refine px_iald dX10_takesPlace_33 (px_sh2 hw sh_83) (by decide) j1 hj1 hl1 ?_
  refine px_callV (As := [.int (pw_I w 83 j1)]) (st := []) (rc := 0) (rs := 0) (mc := 0) (ms := 0) dX10_takesPlace_34 lk_10_444 (px_sh1 hw sh_61) rfl rfl (Nat.le_of_ble_eq_true rfl) (sX10_isAbed (w := w) hw j2 hj2 hl2 ?_)
  show px_W E mX10_takesPlace (d + 2) 0 0 37 [.ref 61, .int x1] [.int (jb (pX10_isAbed w (pw_I w 83 j1) j2))] w Q
  refine px_jb_ne (tgt := 57) dX10_takesPlace_37 (by decide) (fun h1 => ?_) (fun h1 => ?_)
  ·
    exact px_forget (k1 h1) ⟨Or.inl rfl, Or.inl rfl, trivial⟩
  ·
    exact (k2 h1)
theorem bX10_takesPlace_40 {E : px_E} {d : Nat} {w : pw_W} {Q : Option Value → pw_W → Prop} {t : ct_T} (hw : w.1 = cs t) {x1 : Int32}  (j1 : Nat) (hj1 : x1 = nI j1) (hl1 : j1 < 9) (j2 : Nat) (hj2 : (6 + (pw_I w 84 j1)) = nI j2) (hl2 : j2 < 15)
    (k1 : (pX10_isAbed w (pw_I w 84 j1) j2) → px_W E mX10_takesPlace (d + 2) 0 0 57 [.null, .null] [] w Q)
    (k2 : ¬ (pX10_isAbed w (pw_I w 84 j1) j2) → px_W E mX10_takesPlace (d + 2) 0 0 58 [.null, .null] [.int 1] w Q) :
    px_W E mX10_takesPlace (d + 2) 0 0 40 [.ref 61, .int x1] [] w Q := by
  refine px_aload_n dX10_takesPlace_40 rfl rfl ?_
  refine px_aload_n dX10_takesPlace_41 rfl rfl ?_
  refine px_getR (v := 84) dX10_takesPlace_42 fr_10_81 rfl (px_sh1 hw sh_61) (px_rf hw rf_61_40) (by decide) ?_
  refine px_iload_n dX10_takesPlace_45 rfl rfl ?_
  refine px_iald dX10_takesPlace_46 (px_sh2 hw sh_84) (by decide) j1 hj1 hl1 ?_
  refine px_forget (ls' := [.null, .null]) ?_ ⟨Or.inl rfl, Or.inl rfl, trivial⟩
  refine px_callV (As := [.int (pw_I w 84 j1)]) (st := []) (rc := 0) (rs := 0) (mc := 0) (ms := 0) dX10_takesPlace_47 lk_10_444 (px_sh1 hw sh_61) rfl rfl (Nat.le_of_ble_eq_true rfl) (sX10_isAbed (w := w) hw j2 hj2 hl2 ?_)
  show px_W E mX10_takesPlace (d + 2) 0 0 50 [.null, .null] [.int (jb (pX10_isAbed w (pw_I w 84 j1) j2))] w Q
  refine px_jb_ne (tgt := 57) dX10_takesPlace_50 (by decide) (fun h1 => ?_) (fun h1 => ?_)
  ·
    exact (k1 h1)
  ·
    refine px_iconst dX10_takesPlace_53 ic_1 ?_
    refine px_goto (tgt := 58) dX10_takesPlace_54 (by decide) ?_
    exact (k2 h1)
theorem bX10_takesPlace_57 {E : px_E} {d : Nat} {w : pw_W} {Q : Option Value → pw_W → Prop} {t : ct_T} (hw : w.1 = cs t)  
    (k1 : px_W E mX10_takesPlace (d + 2) 0 0 58 [.null, .null] [.int 0] w Q) :
    px_W E mX10_takesPlace (d + 2) 0 0 57 [.null, .null] [] w Q := by
  refine px_iconst dX10_takesPlace_57 ic_0 ?_
  exact k1
theorem bX10_takesPlace_58 {E : px_E} {d : Nat} {w : pw_W} {Q : Option Value → pw_W → Prop} {t : ct_T} (hw : w.1 = cs t) {y0 : Int32}  (hb1 : y0 = 0 ∨ y0 = 1)
    (k1 : Q (some (.int y0)) w) :
    px_W E mX10_takesPlace (d + 2) 0 0 58 [.null, .null] [.int y0] w Q := by
  exact px_ireturn dX10_takesPlace_58 rfl (px_nb (hb1)) k1
theorem dX10_swells_0 : decode mX10_swells.2.1 0 = .ok (.aload_n 0, 1) := by decide +kernel
theorem dX10_swells_1 : decode mX10_swells.2.1 1 = .ok (.getfield 102, 3) := by decide +kernel
theorem dX10_swells_4 : decode mX10_swells.2.1 4 = .ok (.bipush 6, 2) := by decide +kernel
theorem dX10_swells_6 : decode mX10_swells.2.1 6 = .ok (.iload_n 1, 1) := by decide +kernel
theorem dX10_swells_7 : decode mX10_swells.2.1 7 = .ok (.iadd, 1) := by decide +kernel
theorem dX10_swells_8 : decode mX10_swells.2.1 8 = .ok (.bipush 99, 2) := by decide +kernel
theorem dX10_swells_10 : decode mX10_swells.2.1 10 = .ok (.aload_n 0, 1) := by decide +kernel
theorem dX10_swells_11 : decode mX10_swells.2.1 11 = .ok (.getfield 102, 3) := by decide +kernel
theorem dX10_swells_14 : decode mX10_swells.2.1 14 = .ok (.bipush 6, 2) := by decide +kernel
theorem dX10_swells_16 : decode mX10_swells.2.1 16 = .ok (.iload_n 1, 1) := by decide +kernel
theorem dX10_swells_17 : decode mX10_swells.2.1 17 = .ok (.iadd, 1) := by decide +kernel
theorem dX10_swells_18 : decode mX10_swells.2.1 18 = .ok (.iaload, 1) := by decide +kernel
theorem dX10_swells_19 : decode mX10_swells.2.1 19 = .ok (.iload_n 2, 1) := by decide +kernel
theorem dX10_swells_20 : decode mX10_swells.2.1 20 = .ok (.iadd, 1) := by decide +kernel
theorem dX10_swells_21 : decode mX10_swells.2.1 21 = .ok (.invokestatic 450, 3) := by decide +kernel
theorem dX10_swells_24 : decode mX10_swells.2.1 24 = .ok (.iastore, 1) := by decide +kernel
theorem dX10_swells_25 : decode mX10_swells.2.1 25 = .ok (.return_, 1) := by decide +kernel
theorem bX10_swells_0 {E : px_E} {d : Nat} {w : pw_W} {Q : Option Value → pw_W → Prop} {t : ct_T} (hw : w.1 = cs t) {x1 x2 : Int32}  (j1 : Nat) (hj1 : (6 + x1) = nI j1) (hl1 : j1 < 15)
    (k1 : Q none (pw_sI w 90 j1 (hX10_lesser 99 ((pw_I w 90 j1) + x2)))) :
    px_W E mX10_swells (d + 2) 0 0 0 [.ref 61, .int x1, .int x2] [] w Q := by
  refine px_aload_n dX10_swells_0 rfl rfl ?_
  refine px_getR (v := 90) dX10_swells_1 fr_10_102 rfl (px_sh1 hw sh_61) (px_rf hw rf_61_61) (by decide) ?_
  refine px_bipush dX10_swells_4 bp_6 ?_
  refine px_iload_n dX10_swells_6 rfl rfl ?_
  refine px_iadd dX10_swells_7 ?_
  refine px_bipush dX10_swells_8 bp_99 ?_
  refine px_aload_n dX10_swells_10 rfl rfl ?_
  refine px_getR (v := 90) dX10_swells_11 fr_10_102 rfl (px_sh1 hw sh_61) (px_rf hw rf_61_61) (by decide) ?_
  refine px_bipush dX10_swells_14 bp_6 ?_
  refine px_iload_n dX10_swells_16 rfl rfl ?_
  refine px_iadd dX10_swells_17 ?_
  refine px_iald dX10_swells_18 (px_sh2 hw sh_90) (by decide) j1 hj1 hl1 ?_
  refine px_iload_n dX10_swells_19 rfl rfl ?_
  refine px_iadd dX10_swells_20 ?_
  refine px_forget (ls' := [.null, .null, .null]) ?_ ⟨Or.inl rfl, Or.inl rfl, Or.inl rfl, trivial⟩
  refine px_callS (As := [.int 99, .int ((pw_I w 90 j1) + x2)]) (st := [.int (6 + x1), .ref 90]) (rc := 0) (rs := 0) (mc := 0) (ms := 0) dX10_swells_21 lk_10_450 rfl rfl (Nat.le_of_ble_eq_true rfl) (sX10_lesser ?_)
  show px_W E mX10_swells (d + 2) 0 0 24 [.null, .null, .null] [.int (hX10_lesser 99 ((pw_I w 90 j1) + x2)), .int (6 + x1), .ref 90] w Q
  refine px_iast dX10_swells_24 (px_sh2 hw sh_90) (by decide) j1 hj1 hl1 (by omega) ?_
  exact px_return dX10_swells_25 rfl k1
theorem eX10_swells {E : px_E} {d : Nat} {w : pw_W} {Q : Option Value → pw_W → Prop} {t : ct_T} (hw : w.1 = cs t) {x1 x2 : Int32}  (j1 : Nat) (hj1 : (6 + x1) = nI j1) (hl1 : j1 < 15)
    (k1 : Q none (pw_sI w 90 j1 (hX10_lesser 99 ((pw_I w 90 j1) + x2)))) :
    px_Call E (d + 2) 0 0 mX10_swells [.ref 61, .int x1, .int x2] w Q :=
  px_enter (k := 0) (by decide) (Nat.le_of_ble_eq_true rfl) rfl (px_forget (bX10_swells_0 hw j1 hj1 hl1 k1) ⟨Or.inr rfl, Or.inr rfl, Or.inr rfl, trivial⟩)
theorem dX10_learn_0 : decode mX10_learn.2.1 0 = .ok (.aload_n 0, 1) := by decide +kernel
theorem dX10_learn_1 : decode mX10_learn.2.1 1 = .ok (.getfield 102, 3) := by decide +kernel
theorem dX10_learn_4 : decode mX10_learn.2.1 4 = .ok (.iload_n 1, 1) := by decide +kernel
theorem dX10_learn_5 : decode mX10_learn.2.1 5 = .ok (.iaload, 1) := by decide +kernel
theorem dX10_learn_6 : decode mX10_learn.2.1 6 = .ok (.aload_n 0, 1) := by decide +kernel
theorem dX10_learn_7 : decode mX10_learn.2.1 7 = .ok (.getfield 102, 3) := by decide +kernel
theorem dX10_learn_10 : decode mX10_learn.2.1 10 = .ok (.iload_n 2, 1) := by decide +kernel
theorem dX10_learn_11 : decode mX10_learn.2.1 11 = .ok (.iaload, 1) := by decide +kernel
theorem dX10_learn_12 : decode mX10_learn.2.1 12 = .ok (.if_icmp .ge 31, 3) := by decide +kernel
theorem dX10_learn_15 : decode mX10_learn.2.1 15 = .ok (.aload_n 0, 1) := by decide +kernel
theorem dX10_learn_16 : decode mX10_learn.2.1 16 = .ok (.getfield 102, 3) := by decide +kernel
theorem dX10_learn_19 : decode mX10_learn.2.1 19 = .ok (.iload_n 1, 1) := by decide +kernel
theorem dX10_learn_20 : decode mX10_learn.2.1 20 = .ok (.aload_n 0, 1) := by decide +kernel
theorem dX10_learn_21 : decode mX10_learn.2.1 21 = .ok (.getfield 102, 3) := by decide +kernel
theorem dX10_learn_24 : decode mX10_learn.2.1 24 = .ok (.iload_n 2, 1) := by decide +kernel
theorem dX10_learn_25 : decode mX10_learn.2.1 25 = .ok (.iaload, 1) := by decide +kernel
theorem dX10_learn_26 : decode mX10_learn.2.1 26 = .ok (.aload_n 0, 1) := by decide +kernel
theorem dX10_learn_27 : decode mX10_learn.2.1 27 = .ok (.getfield 102, 3) := by decide +kernel
theorem dX10_learn_30 : decode mX10_learn.2.1 30 = .ok (.iload_n 1, 1) := by decide +kernel
theorem dX10_learn_31 : decode mX10_learn.2.1 31 = .ok (.iaload, 1) := by decide +kernel
theorem dX10_learn_32 : decode mX10_learn.2.1 32 = .ok (.aload_n 0, 1) := by decide +kernel
theorem dX10_learn_33 : decode mX10_learn.2.1 33 = .ok (.getfield 72, 3) := by decide +kernel
theorem dX10_learn_36 : decode mX10_learn.2.1 36 = .ok (.iload_n 1, 1) := by decide +kernel
theorem dX10_learn_37 : decode mX10_learn.2.1 37 = .ok (.iaload, 1) := by decide +kernel
theorem dX10_learn_38 : decode mX10_learn.2.1 38 = .ok (.iadd, 1) := by decide +kernel
theorem dX10_learn_39 : decode mX10_learn.2.1 39 = .ok (.invokestatic 450, 3) := by decide +kernel
theorem dX10_learn_42 : decode mX10_learn.2.1 42 = .ok (.iastore, 1) := by decide +kernel
theorem dX10_learn_43 : decode mX10_learn.2.1 43 = .ok (.return_, 1) := by decide +kernel
theorem bX10_learn_0 {E : px_E} {d : Nat} {w : pw_W} {Q : Option Value → pw_W → Prop} {t : ct_T} (hw : w.1 = cs t) {x1 x2 : Int32}  (j1 : Nat) (hj1 : x1 = nI j1) (hl1 : j1 < 15) (j2 : Nat) (hj2 : x2 = nI j2) (hl2 : j2 < 15)
    (k1 : (pw_I w 90 j2) ≤ (pw_I w 90 j1) → px_W E mX10_learn (d + 2) 0 0 43 [.null, .null, .null] [] w Q)
    (k2 : ¬ (pw_I w 90 j2) ≤ (pw_I w 90 j1) → px_W E mX10_learn (d + 2) 0 0 15 [.ref 61, .int x1, .int x2] [] w Q) :
    px_W E mX10_learn (d + 2) 0 0 0 [.ref 61, .int x1, .int x2] [] w Q := by
  refine px_aload_n dX10_learn_0 rfl rfl ?_
  refine px_getR (v := 90) dX10_learn_1 fr_10_102 rfl (px_sh1 hw sh_61) (px_rf hw rf_61_61) (by decide) ?_
  refine px_iload_n dX10_learn_4 rfl rfl ?_
  refine px_iald dX10_learn_5 (px_sh2 hw sh_90) (by decide) j1 hj1 hl1 ?_
  refine px_aload_n dX10_learn_6 rfl rfl ?_
  refine px_getR (v := 90) dX10_learn_7 fr_10_102 rfl (px_sh1 hw sh_61) (px_rf hw rf_61_61) (by decide) ?_
  refine px_iload_n dX10_learn_10 rfl rfl ?_
  refine px_iald dX10_learn_11 (px_sh2 hw sh_90) (by decide) j2 hj2 hl2 ?_
  refine px_icmp_ge (tgt := 43) dX10_learn_12 (by decide) (fun h1 => ?_) (fun h1 => ?_)
  ·
    exact px_forget (k1 h1) ⟨Or.inl rfl, Or.inl rfl, Or.inl rfl, trivial⟩
  ·
    exact (k2 h1)
theorem eX10_learn {E : px_E} {d : Nat} {w : pw_W} {Q : Option Value → pw_W → Prop} {t : ct_T} (hw : w.1 = cs t) {x1 x2 : Int32}  (j1 : Nat) (hj1 : x1 = nI j1) (hl1 : j1 < 15) (j2 : Nat) (hj2 : x2 = nI j2) (hl2 : j2 < 15)
    (k1 : (pw_I w 90 j2) ≤ (pw_I w 90 j1) → px_W E mX10_learn (d + 2) 0 0 43 [.null, .null, .null] [] w Q)
    (k2 : ¬ (pw_I w 90 j2) ≤ (pw_I w 90 j1) → px_W E mX10_learn (d + 2) 0 0 15 [.ref 61, .int x1, .int x2] [] w Q) :
    px_Call E (d + 2) 0 0 mX10_learn [.ref 61, .int x1, .int x2] w Q :=
  px_enter (k := 0) (by decide) (Nat.le_of_ble_eq_true rfl) rfl (px_forget (bX10_learn_0 hw j1 hj1 hl1 j2 hj2 hl2 k1 k2) ⟨Or.inr rfl, Or.inr rfl, Or.inr rfl, trivial⟩)
theorem bX10_learn_15 {E : px_E} {d : Nat} {w : pw_W} {Q : Option Value → pw_W → Prop} {t : ct_T} (hw : w.1 = cs t) {x1 x2 : Int32}  (j1 : Nat) (hj1 : x2 = nI j1) (hl1 : j1 < 15) (j2 : Nat) (hj2 : x1 = nI j2) (hl2 : j2 < 15) (j3 : Nat) (hj3 : x1 = nI j3) (hl3 : j3 < 6)
    (k1 : px_W E mX10_learn (d + 2) 0 0 43 [.null, .null, .null] [] (pw_sI w 90 j2 (hX10_lesser (pw_I w 90 j1) ((pw_I w 90 j2) + (pw_I w 81 j3)))) Q) :
    px_W E mX10_learn (d + 2) 0 0 15 [.ref 61, .int x1, .int x2] [] w Q := by
  refine px_aload_n dX10_learn_15 rfl rfl ?_
  refine px_getR (v := 90) dX10_learn_16 fr_10_102 rfl (px_sh1 hw sh_61) (px_rf hw rf_61_61) (by decide) ?_
  refine px_iload_n dX10_learn_19 rfl rfl ?_
  refine px_aload_n dX10_learn_20 rfl rfl ?_
  refine px_getR (v := 90) dX10_learn_21 fr_10_102 rfl (px_sh1 hw sh_61) (px_rf hw rf_61_61) (by decide) ?_
  refine px_iload_n dX10_learn_24 rfl rfl ?_
  refine px_iald dX10_learn_25 (px_sh2 hw sh_90) (by decide) j1 hj1 hl1 ?_
  refine px_aload_n dX10_learn_26 rfl rfl ?_
  refine px_getR (v := 90) dX10_learn_27 fr_10_102 rfl (px_sh1 hw sh_61) (px_rf hw rf_61_61) (by decide) ?_
  refine px_iload_n dX10_learn_30 rfl rfl ?_
  refine px_iald dX10_learn_31 (px_sh2 hw sh_90) (by decide) j2 hj2 hl2 ?_
  refine px_aload_n dX10_learn_32 rfl rfl ?_
  refine px_getR (v := 81) dX10_learn_33 fr_10_72 rfl (px_sh1 hw sh_61) (px_rf hw rf_61_37) (by decide) ?_
  refine px_iload_n dX10_learn_36 rfl rfl ?_
  refine px_iald dX10_learn_37 (px_sh2 hw sh_81) (by decide) j3 hj3 hl3 ?_
  refine px_iadd dX10_learn_38 ?_
  refine px_forget (ls' := [.null, .null, .null]) ?_ ⟨Or.inl rfl, Or.inl rfl, Or.inl rfl, trivial⟩
  refine px_callS (As := [.int (pw_I w 90 j1), .int ((pw_I w 90 j2) + (pw_I w 81 j3))]) (st := [.int x1, .ref 90]) (rc := 0) (rs := 0) (mc := 0) (ms := 0) dX10_learn_39 lk_10_450 rfl rfl (Nat.le_of_ble_eq_true rfl) (sX10_lesser ?_)
  show px_W E mX10_learn (d + 2) 0 0 42 [.null, .null, .null] [.int (hX10_lesser (pw_I w 90 j1) ((pw_I w 90 j2) + (pw_I w 81 j3))), .int x1, .ref 90] w Q
  refine px_iast dX10_learn_42 (px_sh2 hw sh_90) (by decide) j2 hj2 hl2 (by omega) ?_
  exact k1
theorem bX10_learn_43 {E : px_E} {d : Nat} {w : pw_W} {Q : Option Value → pw_W → Prop} {t : ct_T} (hw : w.1 = cs t)  
    (k1 : Q none w) :
    px_W E mX10_learn (d + 2) 0 0 43 [.null, .null, .null] [] w Q := by
  exact px_return dX10_learn_43 rfl k1
theorem dX10_meets_0 : decode mX10_meets.2.1 0 = .ok (.aload_n 0, 1) := by decide +kernel
theorem dX10_meets_1 : decode mX10_meets.2.1 1 = .ok (.getfield 78, 3) := by decide +kernel
theorem dX10_meets_4 : decode mX10_meets.2.1 4 = .ok (.iload_n 1, 1) := by decide +kernel
theorem dX10_meets_5 : decode mX10_meets.2.1 5 = .ok (.iaload, 1) := by decide +kernel
theorem dX10_meets_6 : decode mX10_meets.2.1 6 = .ok (.istore_n 2, 1) := by decide +kernel
theorem dX10_meets_7 : decode mX10_meets.2.1 7 = .ok (.aload_n 0, 1) := by decide +kernel
theorem dX10_meets_8 : decode mX10_meets.2.1 8 = .ok (.getfield 81, 3) := by decide +kernel
theorem dX10_meets_11 : decode mX10_meets.2.1 11 = .ok (.iload_n 1, 1) := by decide +kernel
theorem dX10_meets_12 : decode mX10_meets.2.1 12 = .ok (.iaload, 1) := by decide +kernel
theorem dX10_meets_13 : decode mX10_meets.2.1 13 = .ok (.istore_n 3, 1) := by decide +kernel
theorem dX10_meets_14 : decode mX10_meets.2.1 14 = .ok (.aload_n 0, 1) := by decide +kernel
theorem dX10_meets_15 : decode mX10_meets.2.1 15 = .ok (.aload_n 0, 1) := by decide +kernel
theorem dX10_meets_16 : decode mX10_meets.2.1 16 = .ok (.getfield 102, 3) := by decide +kernel
theorem dX10_meets_19 : decode mX10_meets.2.1 19 = .ok (.iload_n 2, 1) := by decide +kernel
theorem dX10_meets_20 : decode mX10_meets.2.1 20 = .ok (.iaload, 1) := by decide +kernel
theorem dX10_meets_21 : decode mX10_meets.2.1 21 = .ok (.aload_n 0, 1) := by decide +kernel
theorem dX10_meets_22 : decode mX10_meets.2.1 22 = .ok (.getfield 102, 3) := by decide +kernel
theorem dX10_meets_25 : decode mX10_meets.2.1 25 = .ok (.iload_n 3, 1) := by decide +kernel
theorem dX10_meets_26 : decode mX10_meets.2.1 26 = .ok (.iaload, 1) := by decide +kernel
theorem dX10_meets_27 : decode mX10_meets.2.1 27 = .ok (.aload_n 0, 1) := by decide +kernel
theorem dX10_meets_28 : decode mX10_meets.2.1 28 = .ok (.getfield 102, 3) := by decide +kernel
theorem dX10_meets_31 : decode mX10_meets.2.1 31 = .ok (.bipush 6, 2) := by decide +kernel
theorem dX10_meets_33 : decode mX10_meets.2.1 33 = .ok (.iload_n 2, 1) := by decide +kernel
theorem dX10_meets_34 : decode mX10_meets.2.1 34 = .ok (.iadd, 1) := by decide +kernel
theorem dX10_meets_35 : decode mX10_meets.2.1 35 = .ok (.iaload, 1) := by decide +kernel
theorem dX10_meets_36 : decode mX10_meets.2.1 36 = .ok (.invokevirtual 453, 3) := by decide +kernel
theorem dX10_meets_39 : decode mX10_meets.2.1 39 = .ok (.istore 4, 2) := by decide +kernel
theorem dX10_meets_41 : decode mX10_meets.2.1 41 = .ok (.aload_n 0, 1) := by decide +kernel
theorem dX10_meets_42 : decode mX10_meets.2.1 42 = .ok (.aload_n 0, 1) := by decide +kernel
theorem dX10_meets_43 : decode mX10_meets.2.1 43 = .ok (.getfield 102, 3) := by decide +kernel
theorem dX10_meets_46 : decode mX10_meets.2.1 46 = .ok (.iload_n 3, 1) := by decide +kernel
theorem dX10_meets_47 : decode mX10_meets.2.1 47 = .ok (.iaload, 1) := by decide +kernel
theorem dX10_meets_48 : decode mX10_meets.2.1 48 = .ok (.aload_n 0, 1) := by decide +kernel
theorem dX10_meets_49 : decode mX10_meets.2.1 49 = .ok (.getfield 102, 3) := by decide +kernel
theorem dX10_meets_52 : decode mX10_meets.2.1 52 = .ok (.iload_n 2, 1) := by decide +kernel
theorem dX10_meets_53 : decode mX10_meets.2.1 53 = .ok (.iaload, 1) := by decide +kernel
theorem dX10_meets_54 : decode mX10_meets.2.1 54 = .ok (.aload_n 0, 1) := by decide +kernel
theorem dX10_meets_55 : decode mX10_meets.2.1 55 = .ok (.getfield 102, 3) := by decide +kernel
theorem dX10_meets_58 : decode mX10_meets.2.1 58 = .ok (.bipush 6, 2) := by decide +kernel
theorem dX10_meets_60 : decode mX10_meets.2.1 60 = .ok (.iload_n 3, 1) := by decide +kernel
theorem dX10_meets_61 : decode mX10_meets.2.1 61 = .ok (.iadd, 1) := by decide +kernel
theorem dX10_meets_62 : decode mX10_meets.2.1 62 = .ok (.iaload, 1) := by decide +kernel
theorem dX10_meets_63 : decode mX10_meets.2.1 63 = .ok (.invokevirtual 453, 3) := by decide +kernel
theorem dX10_meets_66 : decode mX10_meets.2.1 66 = .ok (.istore 5, 2) := by decide +kernel
theorem dX10_meets_68 : decode mX10_meets.2.1 68 = .ok (.aload_n 0, 1) := by decide +kernel
theorem dX10_meets_69 : decode mX10_meets.2.1 69 = .ok (.iload_n 2, 1) := by decide +kernel
theorem dX10_meets_70 : decode mX10_meets.2.1 70 = .ok (.iload 4, 2) := by decide +kernel
theorem dX10_meets_72 : decode mX10_meets.2.1 72 = .ok (.invokevirtual 456, 3) := by decide +kernel
theorem dX10_meets_75 : decode mX10_meets.2.1 75 = .ok (.aload_n 0, 1) := by decide +kernel
theorem dX10_meets_76 : decode mX10_meets.2.1 76 = .ok (.iload_n 3, 1) := by decide +kernel
theorem dX10_meets_77 : decode mX10_meets.2.1 77 = .ok (.iload 5, 2) := by decide +kernel
theorem dX10_meets_79 : decode mX10_meets.2.1 79 = .ok (.invokevirtual 456, 3) := by decide +kernel
theorem dX10_meets_82 : decode mX10_meets.2.1 82 = .ok (.aload_n 0, 1) := by decide +kernel
theorem dX10_meets_83 : decode mX10_meets.2.1 83 = .ok (.iload_n 2, 1) := by decide +kernel
theorem dX10_meets_84 : decode mX10_meets.2.1 84 = .ok (.iload_n 3, 1) := by decide +kernel
theorem dX10_meets_85 : decode mX10_meets.2.1 85 = .ok (.invokevirtual 459, 3) := by decide +kernel
theorem dX10_meets_88 : decode mX10_meets.2.1 88 = .ok (.aload_n 0, 1) := by decide +kernel
theorem dX10_meets_89 : decode mX10_meets.2.1 89 = .ok (.iload_n 3, 1) := by decide +kernel
theorem dX10_meets_90 : decode mX10_meets.2.1 90 = .ok (.iload_n 2, 1) := by decide +kernel
theorem dX10_meets_91 : decode mX10_meets.2.1 91 = .ok (.invokevirtual 459, 3) := by decide +kernel
theorem dX10_meets_94 : decode mX10_meets.2.1 94 = .ok (.return_, 1) := by decide +kernel
theorem bX10_meets_0 {E : px_E} {d : Nat} {w : pw_W} {Q : Option Value → pw_W → Prop} {t : ct_T} (hw : w.1 = cs t) {x1 : Int32}  (j1 : Nat) (hj1 : x1 = nI j1) (hl1 : j1 < 9) (j2 : Nat) (hj2 : (pw_I w 83 j1) = nI j2) (hl2 : j2 < 15) (j3 : Nat) (hj3 : (pw_I w 84 j1) = nI j3) (hl3 : j3 < 15) (j4 : Nat) (hj4 : (6 + (pw_I w 83 j1)) = nI j4) (hl4 : j4 < 15)
    (k1 : px_Call E d 0 0 mX10_touchOf [.ref 61, .int (pw_I w 90 j2), .int (pw_I w 90 j3), .int (pw_I w 90 j4)] w (fun v w' => px_W E mX10_meets (d + 1) 0 0 39 [.ref 61, .null, .int (pw_I w 83 j1), .int (pw_I w 84 j1), .null, .null] (v.toList ++ []) w' Q)) :
    px_W E mX10_meets (d + 1) 0 0 0 [.ref 61, .int x1, .null, .null, .null, .null] [] w Q := by
  refine px_aload_n dX10_meets_0 rfl rfl ?_
  refine px_getR (v := 83) dX10_meets_1 fr_10_78 rfl (px_sh1 hw sh_61) (px_rf hw rf_61_39) (by decide) ?_
  refine px_iload_n dX10_meets_4 rfl rfl ?_
  refine px_iald dX10_meets_5 (px_sh2 hw sh_83) (by decide) j1 hj1 hl1 ?_
  refine px_istore_n (ls' := [.ref 61, .int x1, .int (pw_I w 83 j1), .null, .null, .null]) dX10_meets_6 rfl ⟨by decide, rfl⟩ rfl ?_
  refine px_aload_n dX10_meets_7 rfl rfl ?_
  refine px_getR (v := 84) dX10_meets_8 fr_10_81 rfl (px_sh1 hw sh_61) (px_rf hw rf_61_40) (by decide) ?_
  refine px_iload_n dX10_meets_11 rfl rfl ?_
  refine px_iald dX10_meets_12 (px_sh2 hw sh_84) (by decide) j1 hj1 hl1 ?_
  refine px_istore_n (ls' := [.ref 61, .int x1, .int (pw_I w 83 j1), .int (pw_I w 84 j1), .null, .null]) dX10_meets_13 rfl ⟨by decide, rfl⟩ rfl ?_
  refine px_aload_n dX10_meets_14 rfl rfl ?_
  refine px_aload_n dX10_meets_15 rfl rfl ?_
  refine px_getR (v := 90) dX10_meets_16 fr_10_102 rfl (px_sh1 hw sh_61) (px_rf hw rf_61_61) (by decide) ?_
  refine px_iload_n dX10_meets_19 rfl rfl ?_
  refine px_iald dX10_meets_20 (px_sh2 hw sh_90) (by decide) j2 hj2 hl2 ?_
  refine px_aload_n dX10_meets_21 rfl rfl ?_
  refine px_getR (v := 90) dX10_meets_22 fr_10_102 rfl (px_sh1 hw sh_61) (px_rf hw rf_61_61) (by decide) ?_
  refine px_iload_n dX10_meets_25 rfl rfl ?_
  refine px_iald dX10_meets_26 (px_sh2 hw sh_90) (by decide) j3 hj3 hl3 ?_
  refine px_aload_n dX10_meets_27 rfl rfl ?_
  refine px_getR (v := 90) dX10_meets_28 fr_10_102 rfl (px_sh1 hw sh_61) (px_rf hw rf_61_61) (by decide) ?_
  refine px_bipush dX10_meets_31 bp_6 ?_
  refine px_iload_n dX10_meets_33 rfl rfl ?_
  refine px_iadd dX10_meets_34 ?_
  refine px_iald dX10_meets_35 (px_sh2 hw sh_90) (by decide) j4 hj4 hl4 ?_
  refine px_forget (ls' := [.ref 61, .null, .int (pw_I w 83 j1), .int (pw_I w 84 j1), .null, .null]) ?_ ⟨Or.inr rfl, Or.inl rfl, Or.inr rfl, Or.inr rfl, Or.inl rfl, Or.inl rfl, trivial⟩
  exact px_callV (As := [.int (pw_I w 90 j2), .int (pw_I w 90 j3), .int (pw_I w 90 j4)]) (st := []) (rc := 0) (rs := 0) (mc := 0) (ms := 0) dX10_meets_36 lk_10_453 (px_sh1 hw sh_61) rfl rfl (Nat.le_of_ble_eq_true rfl) k1
theorem eX10_meets {E : px_E} {d : Nat} {w : pw_W} {Q : Option Value → pw_W → Prop} {t : ct_T} (hw : w.1 = cs t) {x1 : Int32}  (j1 : Nat) (hj1 : x1 = nI j1) (hl1 : j1 < 9) (j2 : Nat) (hj2 : (pw_I w 83 j1) = nI j2) (hl2 : j2 < 15) (j3 : Nat) (hj3 : (pw_I w 84 j1) = nI j3) (hl3 : j3 < 15) (j4 : Nat) (hj4 : (6 + (pw_I w 83 j1)) = nI j4) (hl4 : j4 < 15)
    (k1 : px_Call E d 0 0 mX10_touchOf [.ref 61, .int (pw_I w 90 j2), .int (pw_I w 90 j3), .int (pw_I w 90 j4)] w (fun v w' => px_W E mX10_meets (d + 1) 0 0 39 [.ref 61, .null, .int (pw_I w 83 j1), .int (pw_I w 84 j1), .null, .null] (v.toList ++ []) w' Q)) :
    px_Call E (d + 1) 0 0 mX10_meets [.ref 61, .int x1] w Q :=
  px_enter (k := 4) (by decide) (Nat.le_of_ble_eq_true rfl) rfl (px_forget (bX10_meets_0 hw j1 hj1 hl1 j2 hj2 hl2 j3 hj3 hl3 j4 hj4 hl4 k1) ⟨Or.inr rfl, Or.inr rfl, Or.inl rfl, Or.inl rfl, Or.inl rfl, Or.inl rfl, trivial⟩)
theorem bX10_meets_39 {E : px_E} {d : Nat} {w : pw_W} {Q : Option Value → pw_W → Prop} {t : ct_T} (hw : w.1 = cs t) {x2 x3 y0 : Int32}  (j1 : Nat) (hj1 : x3 = nI j1) (hl1 : j1 < 15) (j2 : Nat) (hj2 : x2 = nI j2) (hl2 : j2 < 15) (j3 : Nat) (hj3 : (6 + x3) = nI j3) (hl3 : j3 < 15)
    (k1 : px_Call E d 0 0 mX10_touchOf [.ref 61, .int (pw_I w 90 j1), .int (pw_I w 90 j2), .int (pw_I w 90 j3)] w (fun v w' => px_W E mX10_meets (d + 1) 0 0 66 [.ref 61, .null, .int x2, .int x3, .int y0, .null] (v.toList ++ []) w' Q)) :
    px_W E mX10_meets (d + 1) 0 0 39 [.ref 61, .null, .int x2, .int x3, .null, .null] [.int y0] w Q := by
  refine px_istore (ls' := [.ref 61, .null, .int x2, .int x3, .int y0, .null]) dX10_meets_39 ⟨by decide, rfl⟩ rfl ?_
  refine px_aload_n dX10_meets_41 rfl rfl ?_
  refine px_aload_n dX10_meets_42 rfl rfl ?_
  refine px_getR (v := 90) dX10_meets_43 fr_10_102 rfl (px_sh1 hw sh_61) (px_rf hw rf_61_61) (by decide) ?_
  refine px_iload_n dX10_meets_46 rfl rfl ?_
  refine px_iald dX10_meets_47 (px_sh2 hw sh_90) (by decide) j1 hj1 hl1 ?_
  refine px_aload_n dX10_meets_48 rfl rfl ?_
  refine px_getR (v := 90) dX10_meets_49 fr_10_102 rfl (px_sh1 hw sh_61) (px_rf hw rf_61_61) (by decide) ?_
  refine px_iload_n dX10_meets_52 rfl rfl ?_
  refine px_iald dX10_meets_53 (px_sh2 hw sh_90) (by decide) j2 hj2 hl2 ?_
  refine px_aload_n dX10_meets_54 rfl rfl ?_
  refine px_getR (v := 90) dX10_meets_55 fr_10_102 rfl (px_sh1 hw sh_61) (px_rf hw rf_61_61) (by decide) ?_
  refine px_bipush dX10_meets_58 bp_6 ?_
  refine px_iload_n dX10_meets_60 rfl rfl ?_
  refine px_iadd dX10_meets_61 ?_
  refine px_iald dX10_meets_62 (px_sh2 hw sh_90) (by decide) j3 hj3 hl3 ?_
  exact px_callV (As := [.int (pw_I w 90 j1), .int (pw_I w 90 j2), .int (pw_I w 90 j3)]) (st := []) (rc := 0) (rs := 0) (mc := 0) (ms := 0) dX10_meets_63 lk_10_453 (px_sh1 hw sh_61) rfl rfl (Nat.le_of_ble_eq_true rfl) k1
theorem bX10_meets_66 {E : px_E} {d : Nat} {w : pw_W} {Q : Option Value → pw_W → Prop} {t : ct_T} (hw : w.1 = cs t) {x2 x3 x4 y0 : Int32}  
    (k1 : px_Call E d 0 0 mX10_swells [.ref 61, .int x2, .int x4] w (fun v w' => px_W E mX10_meets (d + 1) 0 0 75 [.ref 61, .null, .int x2, .int x3, .null, .int y0] (v.toList ++ []) w' Q)) :
    px_W E mX10_meets (d + 1) 0 0 66 [.ref 61, .null, .int x2, .int x3, .int x4, .null] [.int y0] w Q := by
  refine px_istore (ls' := [.ref 61, .null, .int x2, .int x3, .int x4, .int y0]) dX10_meets_66 ⟨by decide, rfl⟩ rfl ?_
  refine px_aload_n dX10_meets_68 rfl rfl ?_
  refine px_iload_n dX10_meets_69 rfl rfl ?_
  refine px_iload dX10_meets_70 rfl ?_
  refine px_forget (ls' := [.ref 61, .null, .int x2, .int x3, .null, .int y0]) ?_ ⟨Or.inr rfl, Or.inl rfl, Or.inr rfl, Or.inr rfl, Or.inl rfl, Or.inr rfl, trivial⟩
  exact px_callV (As := [.int x2, .int x4]) (st := []) (rc := 0) (rs := 0) (mc := 0) (ms := 0) dX10_meets_72 lk_10_456 (px_sh1 hw sh_61) rfl rfl (Nat.le_of_ble_eq_true rfl) k1
theorem bX10_meets_75 {E : px_E} {d : Nat} {w : pw_W} {Q : Option Value → pw_W → Prop} {t : ct_T} (hw : w.1 = cs t) {x2 x3 x5 : Int32}  
    (k1 : px_Call E d 0 0 mX10_swells [.ref 61, .int x3, .int x5] w (fun v w' => px_W E mX10_meets (d + 1) 0 0 82 [.ref 61, .null, .int x2, .int x3, .null, .null] (v.toList ++ []) w' Q)) :
    px_W E mX10_meets (d + 1) 0 0 75 [.ref 61, .null, .int x2, .int x3, .null, .int x5] [] w Q := by
  refine px_aload_n dX10_meets_75 rfl rfl ?_
  refine px_iload_n dX10_meets_76 rfl rfl ?_
  refine px_iload dX10_meets_77 rfl ?_
  refine px_forget (ls' := [.ref 61, .null, .int x2, .int x3, .null, .null]) ?_ ⟨Or.inr rfl, Or.inl rfl, Or.inr rfl, Or.inr rfl, Or.inl rfl, Or.inl rfl, trivial⟩
  exact px_callV (As := [.int x3, .int x5]) (st := []) (rc := 0) (rs := 0) (mc := 0) (ms := 0) dX10_meets_79 lk_10_456 (px_sh1 hw sh_61) rfl rfl (Nat.le_of_ble_eq_true rfl) k1
theorem bX10_meets_82 {E : px_E} {d : Nat} {w : pw_W} {Q : Option Value → pw_W → Prop} {t : ct_T} (hw : w.1 = cs t) {x2 x3 : Int32}  
    (k1 : px_Call E d 0 0 mX10_learn [.ref 61, .int x2, .int x3] w (fun v w' => px_W E mX10_meets (d + 1) 0 0 88 [.ref 61, .null, .int x2, .int x3, .null, .null] (v.toList ++ []) w' Q)) :
    px_W E mX10_meets (d + 1) 0 0 82 [.ref 61, .null, .int x2, .int x3, .null, .null] [] w Q := by
  refine px_aload_n dX10_meets_82 rfl rfl ?_
  refine px_iload_n dX10_meets_83 rfl rfl ?_
  refine px_iload_n dX10_meets_84 rfl rfl ?_
  exact px_callV (As := [.int x2, .int x3]) (st := []) (rc := 0) (rs := 0) (mc := 0) (ms := 0) dX10_meets_85 lk_10_459 (px_sh1 hw sh_61) rfl rfl (Nat.le_of_ble_eq_true rfl) k1
theorem bX10_meets_88 {E : px_E} {d : Nat} {w : pw_W} {Q : Option Value → pw_W → Prop} {t : ct_T} (hw : w.1 = cs t) {x2 x3 : Int32}  
    (k1 : px_Call E d 0 0 mX10_learn [.ref 61, .int x3, .int x2] w (fun v w' => px_W E mX10_meets (d + 1) 0 0 94 [.null, .null, .null, .null, .null, .null] (v.toList ++ []) w' Q)) :
    px_W E mX10_meets (d + 1) 0 0 88 [.ref 61, .null, .int x2, .int x3, .null, .null] [] w Q := by
  refine px_aload_n dX10_meets_88 rfl rfl ?_
  refine px_iload_n dX10_meets_89 rfl rfl ?_
  refine px_iload_n dX10_meets_90 rfl rfl ?_
  refine px_forget (ls' := [.null, .null, .null, .null, .null, .null]) ?_ ⟨Or.inl rfl, Or.inl rfl, Or.inl rfl, Or.inl rfl, Or.inl rfl, Or.inl rfl, trivial⟩
  exact px_callV (As := [.int x3, .int x2]) (st := []) (rc := 0) (rs := 0) (mc := 0) (ms := 0) dX10_meets_91 lk_10_459 (px_sh1 hw sh_61) rfl rfl (Nat.le_of_ble_eq_true rfl) k1
theorem bX10_meets_94 {E : px_E} {d : Nat} {w : pw_W} {Q : Option Value → pw_W → Prop} {t : ct_T} (hw : w.1 = cs t)  
    (k1 : Q none w) :
    px_W E mX10_meets (d + 1) 0 0 94 [.null, .null, .null, .null, .null, .null] [] w Q := by
  exact px_return dX10_meets_94 rfl k1
theorem dX10_soothes_0 : decode mX10_soothes.2.1 0 = .ok (.aload_n 0, 1) := by decide +kernel
theorem dX10_soothes_1 : decode mX10_soothes.2.1 1 = .ok (.getfield 102, 3) := by decide +kernel
theorem dX10_soothes_4 : decode mX10_soothes.2.1 4 = .ok (.bipush 6, 2) := by decide +kernel
theorem dX10_soothes_6 : decode mX10_soothes.2.1 6 = .ok (.iload_n 2, 1) := by decide +kernel
theorem dX10_soothes_7 : decode mX10_soothes.2.1 7 = .ok (.iadd, 1) := by decide +kernel
theorem dX10_soothes_8 : decode mX10_soothes.2.1 8 = .ok (.iconst 0, 1) := by decide +kernel
theorem dX10_soothes_9 : decode mX10_soothes.2.1 9 = .ok (.aload_n 0, 1) := by decide +kernel
theorem dX10_soothes_10 : decode mX10_soothes.2.1 10 = .ok (.getfield 102, 3) := by decide +kernel
theorem dX10_soothes_13 : decode mX10_soothes.2.1 13 = .ok (.bipush 6, 2) := by decide +kernel
theorem dX10_soothes_15 : decode mX10_soothes.2.1 15 = .ok (.iload_n 2, 1) := by decide +kernel
theorem dX10_soothes_16 : decode mX10_soothes.2.1 16 = .ok (.iadd, 1) := by decide +kernel
theorem dX10_soothes_17 : decode mX10_soothes.2.1 17 = .ok (.iaload, 1) := by decide +kernel
theorem dX10_soothes_18 : decode mX10_soothes.2.1 18 = .ok (.aload_n 0, 1) := by decide +kernel
theorem dX10_soothes_19 : decode mX10_soothes.2.1 19 = .ok (.getfield 87, 3) := by decide +kernel
theorem dX10_soothes_22 : decode mX10_soothes.2.1 22 = .ok (.iload_n 1, 1) := by decide +kernel
theorem dX10_soothes_23 : decode mX10_soothes.2.1 23 = .ok (.iaload, 1) := by decide +kernel
theorem dX10_soothes_24 : decode mX10_soothes.2.1 24 = .ok (.isub, 1) := by decide +kernel
theorem dX10_soothes_25 : decode mX10_soothes.2.1 25 = .ok (.invokestatic 462, 3) := by decide +kernel
theorem dX10_soothes_28 : decode mX10_soothes.2.1 28 = .ok (.iastore, 1) := by decide +kernel
theorem dX10_soothes_29 : decode mX10_soothes.2.1 29 = .ok (.return_, 1) := by decide +kernel
theorem bX10_soothes_0 {E : px_E} {d : Nat} {w : pw_W} {Q : Option Value → pw_W → Prop} {t : ct_T} (hw : w.1 = cs t) {x1 x2 : Int32}  (j1 : Nat) (hj1 : (6 + x2) = nI j1) (hl1 : j1 < 15) (j2 : Nat) (hj2 : x1 = nI j2) (hl2 : j2 < 2)
    (k1 : Q none (pw_sI w 90 j1 (hX10_greater 0 ((pw_I w 90 j1) - (pw_I w 86 j2))))) :
    px_W E mX10_soothes (d + 2) 0 0 0 [.ref 61, .int x1, .int x2] [] w Q := by
  refine px_aload_n dX10_soothes_0 rfl rfl ?_
  refine px_getR (v := 90) dX10_soothes_1 fr_10_102 rfl (px_sh1 hw sh_61) (px_rf hw rf_61_61) (by decide) ?_
  refine px_bipush dX10_soothes_4 bp_6 ?_
  refine px_iload_n dX10_soothes_6 rfl rfl ?_
  refine px_iadd dX10_soothes_7 ?_
  refine px_iconst dX10_soothes_8 ic_0 ?_
  refine px_aload_n dX10_soothes_9 rfl rfl ?_
  refine px_getR (v := 90) dX10_soothes_10 fr_10_102 rfl (px_sh1 hw sh_61) (px_rf hw rf_61_61) (by decide) ?_
  refine px_bipush dX10_soothes_13 bp_6 ?_
  refine px_iload_n dX10_soothes_15 rfl rfl ?_
  refine px_iadd dX10_soothes_16 ?_
  refine px_iald dX10_soothes_17 (px_sh2 hw sh_90) (by decide) j1 hj1 hl1 ?_
  refine px_aload_n dX10_soothes_18 rfl rfl ?_
  refine px_getR (v := 86) dX10_soothes_19 fr_10_87 rfl (px_sh1 hw sh_61) (px_rf hw rf_61_42) (by decide) ?_
  refine px_iload_n dX10_soothes_22 rfl rfl ?_
  refine px_iald dX10_soothes_23 (px_sh2 hw sh_86) (by decide) j2 hj2 hl2 ?_
  refine px_isub dX10_soothes_24 ?_
  refine px_forget (ls' := [.null, .null, .null]) ?_ ⟨Or.inl rfl, Or.inl rfl, Or.inl rfl, trivial⟩
  refine px_callS (As := [.int 0, .int ((pw_I w 90 j1) - (pw_I w 86 j2))]) (st := [.int (6 + x2), .ref 90]) (rc := 0) (rs := 0) (mc := 0) (ms := 0) dX10_soothes_25 lk_10_462 rfl rfl (Nat.le_of_ble_eq_true rfl) (sX10_greater ?_)
  show px_W E mX10_soothes (d + 2) 0 0 28 [.null, .null, .null] [.int (hX10_greater 0 ((pw_I w 90 j1) - (pw_I w 86 j2))), .int (6 + x2), .ref 90] w Q
  refine px_iast dX10_soothes_28 (px_sh2 hw sh_90) (by decide) j1 hj1 hl1 (by omega) ?_
  exact px_return dX10_soothes_29 rfl k1
theorem eX10_soothes {E : px_E} {d : Nat} {w : pw_W} {Q : Option Value → pw_W → Prop} {t : ct_T} (hw : w.1 = cs t) {x1 x2 : Int32}  (j1 : Nat) (hj1 : (6 + x2) = nI j1) (hl1 : j1 < 15) (j2 : Nat) (hj2 : x1 = nI j2) (hl2 : j2 < 2)
    (k1 : Q none (pw_sI w 90 j1 (hX10_greater 0 ((pw_I w 90 j1) - (pw_I w 86 j2))))) :
    px_Call E (d + 2) 0 0 mX10_soothes [.ref 61, .int x1, .int x2] w Q :=
  px_enter (k := 0) (by decide) (Nat.le_of_ble_eq_true rfl) rfl (px_forget (bX10_soothes_0 hw j1 hj1 hl1 j2 hj2 hl2 k1) ⟨Or.inr rfl, Or.inr rfl, Or.inr rfl, trivial⟩)
theorem dX10_flaresUp_0 : decode mX10_flaresUp.2.1 0 = .ok (.iconst 0, 1) := by decide +kernel
theorem dX10_flaresUp_1 : decode mX10_flaresUp.2.1 1 = .ok (.istore_n 1, 1) := by decide +kernel
theorem dX10_flaresUp_2 : decode mX10_flaresUp.2.1 2 = .ok (.iload_n 1, 1) := by decide +kernel
theorem dX10_flaresUp_3 : decode mX10_flaresUp.2.1 3 = .ok (.aload_n 0, 1) := by decide +kernel
theorem dX10_flaresUp_4 : decode mX10_flaresUp.2.1 4 = .ok (.getfield 404, 3) := by decide +kernel
theorem dX10_flaresUp_7 : decode mX10_flaresUp.2.1 7 = .ok (.if_icmp .ge 72, 3) := by decide +kernel
theorem dX10_flaresUp_10 : decode mX10_flaresUp.2.1 10 = .ok (.aload_n 0, 1) := by decide +kernel
theorem dX10_flaresUp_11 : decode mX10_flaresUp.2.1 11 = .ok (.getfield 102, 3) := by decide +kernel
theorem dX10_flaresUp_14 : decode mX10_flaresUp.2.1 14 = .ok (.bipush 6, 2) := by decide +kernel
theorem dX10_flaresUp_16 : decode mX10_flaresUp.2.1 16 = .ok (.iload_n 1, 1) := by decide +kernel
theorem dX10_flaresUp_17 : decode mX10_flaresUp.2.1 17 = .ok (.iadd, 1) := by decide +kernel
theorem dX10_flaresUp_18 : decode mX10_flaresUp.2.1 18 = .ok (.iaload, 1) := by decide +kernel
theorem dX10_flaresUp_19 : decode mX10_flaresUp.2.1 19 = .ok (.ifCond .ne 6, 3) := by decide +kernel
theorem dX10_flaresUp_22 : decode mX10_flaresUp.2.1 22 = .ok (.goto 51, 3) := by decide +kernel
theorem dX10_flaresUp_25 : decode mX10_flaresUp.2.1 25 = .ok (.aload_n 0, 1) := by decide +kernel
theorem dX10_flaresUp_26 : decode mX10_flaresUp.2.1 26 = .ok (.getfield 102, 3) := by decide +kernel
theorem dX10_flaresUp_29 : decode mX10_flaresUp.2.1 29 = .ok (.bipush 14, 2) := by decide +kernel
theorem dX10_flaresUp_31 : decode mX10_flaresUp.2.1 31 = .ok (.aload_n 0, 1) := by decide +kernel
theorem dX10_flaresUp_32 : decode mX10_flaresUp.2.1 32 = .ok (.getfield 102, 3) := by decide +kernel
theorem dX10_flaresUp_35 : decode mX10_flaresUp.2.1 35 = .ok (.bipush 14, 2) := by decide +kernel
theorem dX10_flaresUp_37 : decode mX10_flaresUp.2.1 37 = .ok (.iaload, 1) := by decide +kernel
theorem dX10_flaresUp_38 : decode mX10_flaresUp.2.1 38 = .ok (.sipush 137, 3) := by decide +kernel
theorem dX10_flaresUp_41 : decode mX10_flaresUp.2.1 41 = .ok (.imul, 1) := by decide +kernel
theorem dX10_flaresUp_42 : decode mX10_flaresUp.2.1 42 = .ok (.bipush 71, 2) := by decide +kernel
theorem dX10_flaresUp_44 : decode mX10_flaresUp.2.1 44 = .ok (.iadd, 1) := by decide +kernel
theorem dX10_flaresUp_45 : decode mX10_flaresUp.2.1 45 = .ok (.sipush 1000, 3) := by decide +kernel
theorem dX10_flaresUp_48 : decode mX10_flaresUp.2.1 48 = .ok (.irem, 1) := by decide +kernel
theorem dX10_flaresUp_49 : decode mX10_flaresUp.2.1 49 = .ok (.iastore, 1) := by decide +kernel
theorem dX10_flaresUp_50 : decode mX10_flaresUp.2.1 50 = .ok (.aload_n 0, 1) := by decide +kernel
theorem dX10_flaresUp_51 : decode mX10_flaresUp.2.1 51 = .ok (.getfield 102, 3) := by decide +kernel
theorem dX10_flaresUp_54 : decode mX10_flaresUp.2.1 54 = .ok (.bipush 14, 2) := by decide +kernel
theorem dX10_flaresUp_56 : decode mX10_flaresUp.2.1 56 = .ok (.iaload, 1) := by decide +kernel
theorem dX10_flaresUp_57 : decode mX10_flaresUp.2.1 57 = .ok (.bipush 100, 2) := by decide +kernel
theorem dX10_flaresUp_59 : decode mX10_flaresUp.2.1 59 = .ok (.irem, 1) := by decide +kernel
theorem dX10_flaresUp_60 : decode mX10_flaresUp.2.1 60 = .ok (.aload_n 0, 1) := by decide +kernel
theorem dX10_flaresUp_61 : decode mX10_flaresUp.2.1 61 = .ok (.getfield 413, 3) := by decide +kernel
theorem dX10_flaresUp_64 : decode mX10_flaresUp.2.1 64 = .ok (.if_icmp .ge 9, 3) := by decide +kernel
theorem dX10_flaresUp_67 : decode mX10_flaresUp.2.1 67 = .ok (.aload_n 0, 1) := by decide +kernel
theorem dX10_flaresUp_68 : decode mX10_flaresUp.2.1 68 = .ok (.iload_n 1, 1) := by decide +kernel
theorem dX10_flaresUp_69 : decode mX10_flaresUp.2.1 69 = .ok (.iconst 1, 1) := by decide +kernel
theorem dX10_flaresUp_70 : decode mX10_flaresUp.2.1 70 = .ok (.invokevirtual 456, 3) := by decide +kernel
theorem dX10_flaresUp_73 : decode mX10_flaresUp.2.1 73 = .ok (.iinc 1 1, 3) := by decide +kernel
theorem dX10_flaresUp_76 : decode mX10_flaresUp.2.1 76 = .ok (.goto (-74), 3) := by decide +kernel
theorem dX10_flaresUp_79 : decode mX10_flaresUp.2.1 79 = .ok (.return_, 1) := by decide +kernel
theorem bX10_flaresUp_0 {E : px_E} {d : Nat} {w : pw_W} {Q : Option Value → pw_W → Prop} {t : ct_T} (hw : w.1 = cs t)  
    (k1 : px_W E mX10_flaresUp (d + 1) 0 0 2 [.ref 61, .int 0] [] w Q) :
    px_W E mX10_flaresUp (d + 1) 0 0 0 [.ref 61, .null] [] w Q := by
  refine px_iconst dX10_flaresUp_0 ic_0 ?_
  refine px_istore_n (ls' := [.ref 61, .int 0]) dX10_flaresUp_1 rfl ⟨by decide, rfl⟩ rfl ?_
  exact k1
theorem eX10_flaresUp {E : px_E} {d : Nat} {w : pw_W} {Q : Option Value → pw_W → Prop} {t : ct_T} (hw : w.1 = cs t)  
    (k1 : px_W E mX10_flaresUp (d + 1) 0 0 2 [.ref 61, .int 0] [] w Q) :
    px_Call E (d + 1) 0 0 mX10_flaresUp [.ref 61] w Q :=
  px_enter (k := 1) (by decide) (Nat.le_of_ble_eq_true rfl) rfl (px_forget (bX10_flaresUp_0 hw k1) ⟨Or.inr rfl, Or.inl rfl, trivial⟩)
theorem bX10_flaresUp_2 {E : px_E} {d : Nat} {w : pw_W} {Q : Option Value → pw_W → Prop} {t : ct_T} (hw : w.1 = cs t) {x1 : Int32}  
    (k1 : (pw_I w 61 51) ≤ x1 → Q none w)
    (k2 : ¬ (pw_I w 61 51) ≤ x1 → px_W E mX10_flaresUp (d + 1) 0 0 10 [.ref 61, .int x1] [] w Q) :
    px_W E mX10_flaresUp (d + 1) 0 0 2 [.ref 61, .int x1] [] w Q := by
  refine px_iload_n dX10_flaresUp_2 rfl rfl ?_
  refine px_aload_n dX10_flaresUp_3 rfl rfl ?_
  refine px_getI dX10_flaresUp_4 fr_10_404 rfl (px_sh1 hw sh_61) ?_
  refine px_icmp_ge (tgt := 79) dX10_flaresUp_7 (by decide) (fun h1 => ?_) (fun h1 => ?_)
  ·
    exact px_return dX10_flaresUp_79 rfl (k1 h1)
  ·
    exact (k2 h1)
theorem bX10_flaresUp_10 {E : px_E} {d : Nat} {w : pw_W} {Q : Option Value → pw_W → Prop} {t : ct_T} (hw : w.1 = cs t) {x1 : Int32}  (j1 : Nat) (hj1 : (6 + x1) = nI j1) (hl1 : j1 < 15)
    (k1 : ¬ (pw_I w 90 j1) = 0 → px_W E mX10_flaresUp (d + 1) 0 0 25 [.ref 61, .int x1] [] w Q)
    (k2 : (pw_I w 90 j1) = 0 → px_W E mX10_flaresUp (d + 1) 0 0 73 [.ref 61, .int x1] [] w Q) :
    px_W E mX10_flaresUp (d + 1) 0 0 10 [.ref 61, .int x1] [] w Q := by
  refine px_aload_n dX10_flaresUp_10 rfl rfl ?_
  refine px_getR (v := 90) dX10_flaresUp_11 fr_10_102 rfl (px_sh1 hw sh_61) (px_rf hw rf_61_61) (by decide) ?_
  refine px_bipush dX10_flaresUp_14 bp_6 ?_
  refine px_iload_n dX10_flaresUp_16 rfl rfl ?_
  refine px_iadd dX10_flaresUp_17 ?_
  refine px_iald dX10_flaresUp_18 (px_sh2 hw sh_90) (by decide) j1 hj1 hl1 ?_
  refine px_if_ne (tgt := 25) dX10_flaresUp_19 (by decide) (fun h1 => ?_) (fun h1 => ?_)
  ·
    exact (k1 h1)
  ·
    refine px_goto (tgt := 73) dX10_flaresUp_22 (by decide) ?_
    exact (k2 h1)
theorem bX10_flaresUp_25 {E : px_E} {d : Nat} {w : pw_W} {Q : Option Value → pw_W → Prop} {t : ct_T} (hw : w.1 = cs t) {x1 : Int32}  
    (k1 : (pw_I w 61 55) ≤ (js_rem (js_rem (((pw_I w 90 14) * 137) + 71) 1000) 100) → px_W E mX10_flaresUp (d + 1) 0 0 73 [.ref 61, .int x1] [] (pw_sI w 90 14 (js_rem (((pw_I w 90 14) * 137) + 71) 1000)) Q)
    (k2 : ¬ (pw_I w 61 55) ≤ (js_rem (js_rem (((pw_I w 90 14) * 137) + 71) 1000) 100) → px_Call E d 0 0 mX10_swells [.ref 61, .int x1, .int 1] (pw_sI w 90 14 (js_rem (((pw_I w 90 14) * 137) + 71) 1000)) (fun v w' => px_W E mX10_flaresUp (d + 1) 0 0 73 [.ref 61, .int x1] (v.toList ++ []) w' Q)) :
    px_W E mX10_flaresUp (d + 1) 0 0 25 [.ref 61, .int x1] [] w Q := by
  refine px_aload_n dX10_flaresUp_25 rfl rfl ?_
  refine px_getR (v := 90) dX10_flaresUp_26 fr_10_102 rfl (px_sh1 hw sh_61) (px_rf hw rf_61_61) (by decide) ?_
  refine px_bipush dX10_flaresUp_29 bp_14 ?_
  refine px_aload_n dX10_flaresUp_31 rfl rfl ?_
  refine px_getR (v := 90) dX10_flaresUp_32 fr_10_102 rfl (px_sh1 hw sh_61) (px_rf hw rf_61_61) (by decide) ?_
  refine px_bipush dX10_flaresUp_35 bp_14 ?_
  refine px_iald dX10_flaresUp_37 (px_sh2 hw sh_90) (by decide) 14 rfl (by decide) ?_
  refine px_sipush dX10_flaresUp_38 sp_137 ?_
  refine px_imul dX10_flaresUp_41 ?_
  refine px_bipush dX10_flaresUp_42 bp_71 ?_
  refine px_iadd dX10_flaresUp_44 ?_
  refine px_sipush dX10_flaresUp_45 sp_1000 ?_
  refine px_irem dX10_flaresUp_48 (by decide) ?_
  refine px_iast dX10_flaresUp_49 (px_sh2 hw sh_90) (by decide) 14 rfl (by decide) (by omega) ?_
  refine px_aload_n dX10_flaresUp_50 rfl rfl ?_
  refine px_getR (v := 90) dX10_flaresUp_51 fr_10_102 rfl (px_sh1 (hI hw) sh_61) (px_rf (hI hw) rf_61_61) (by decide) ?_
  refine px_bipush dX10_flaresUp_54 bp_14 ?_
  refine px_ialdv (v := (js_rem (((pw_I w 90 14) * 137) + 71) 1000)) dX10_flaresUp_56 (px_sh2 (hI hw) sh_90) (by decide) 14 rfl (by decide) rfl ?_
  refine px_bipush dX10_flaresUp_57 bp_100 ?_
  refine px_irem dX10_flaresUp_59 (by decide) ?_
  refine px_aload_n dX10_flaresUp_60 rfl rfl ?_
  refine px_getIv (v := (pw_I w 61 55)) dX10_flaresUp_61 fr_10_413 rfl (px_sh1 (hI hw) sh_61) rfl ?_
  refine px_icmp_ge (tgt := 73) dX10_flaresUp_64 (by decide) (fun h1 => ?_) (fun h1 => ?_)
  ·
    exact (k1 h1)
  ·
    refine px_aload_n dX10_flaresUp_67 rfl rfl ?_
    refine px_iload_n dX10_flaresUp_68 rfl rfl ?_
    refine px_iconst dX10_flaresUp_69 ic_1 ?_
    exact px_callV (As := [.int x1, .int 1]) (st := []) (rc := 0) (rs := 0) (mc := 0) (ms := 0) dX10_flaresUp_70 lk_10_456 (px_sh1 (hI hw) sh_61) rfl rfl (Nat.le_of_ble_eq_true rfl) (k2 h1)
theorem bX10_flaresUp_73 {E : px_E} {d : Nat} {w : pw_W} {Q : Option Value → pw_W → Prop} {t : ct_T} (hw : w.1 = cs t) {x1 : Int32}  
    (k1 : px_W E mX10_flaresUp (d + 1) 0 0 2 [.ref 61, .int (x1 + 1)] [] w Q) :
    px_W E mX10_flaresUp (d + 1) 0 0 73 [.ref 61, .int x1] [] w Q := by
  refine px_iinc (ls' := [.ref 61, .int (x1 + 1)]) dX10_flaresUp_73 ⟨by decide, rfl⟩ rfl rfl rfl ?_
  refine px_goto (tgt := 2) dX10_flaresUp_76 (by decide) ?_
  exact k1
theorem dX10_goDay_0 : decode mX10_goDay.2.1 0 = .ok (.iconst 0, 1) := by decide +kernel
theorem dX10_goDay_1 : decode mX10_goDay.2.1 1 = .ok (.istore_n 2, 1) := by decide +kernel
theorem dX10_goDay_2 : decode mX10_goDay.2.1 2 = .ok (.iconst 0, 1) := by decide +kernel
theorem dX10_goDay_3 : decode mX10_goDay.2.1 3 = .ok (.istore_n 3, 1) := by decide +kernel
theorem dX10_goDay_4 : decode mX10_goDay.2.1 4 = .ok (.iload_n 3, 1) := by decide +kernel
theorem dX10_goDay_5 : decode mX10_goDay.2.1 5 = .ok (.aload_n 0, 1) := by decide +kernel
theorem dX10_goDay_6 : decode mX10_goDay.2.1 6 = .ok (.getfield 407, 3) := by decide +kernel
theorem dX10_goDay_9 : decode mX10_goDay.2.1 9 = .ok (.if_icmp .ge 31, 3) := by decide +kernel
theorem dX10_goDay_12 : decode mX10_goDay.2.1 12 = .ok (.aload_n 0, 1) := by decide +kernel
theorem dX10_goDay_13 : decode mX10_goDay.2.1 13 = .ok (.iload_n 3, 1) := by decide +kernel
theorem dX10_goDay_14 : decode mX10_goDay.2.1 14 = .ok (.invokevirtual 465, 3) := by decide +kernel
theorem dX10_goDay_17 : decode mX10_goDay.2.1 17 = .ok (.ifCond .ne 6, 3) := by decide +kernel
theorem dX10_goDay_20 : decode mX10_goDay.2.1 20 = .ok (.goto 14, 3) := by decide +kernel
theorem dX10_goDay_23 : decode mX10_goDay.2.1 23 = .ok (.aload_n 0, 1) := by decide +kernel
theorem dX10_goDay_24 : decode mX10_goDay.2.1 24 = .ok (.iload_n 3, 1) := by decide +kernel
theorem dX10_goDay_25 : decode mX10_goDay.2.1 25 = .ok (.invokevirtual 468, 3) := by decide +kernel
theorem dX10_goDay_28 : decode mX10_goDay.2.1 28 = .ok (.iload_n 2, 1) := by decide +kernel
theorem dX10_goDay_29 : decode mX10_goDay.2.1 29 = .ok (.iconst 1, 1) := by decide +kernel
theorem dX10_goDay_30 : decode mX10_goDay.2.1 30 = .ok (.iload_n 3, 1) := by decide +kernel
theorem dX10_goDay_31 : decode mX10_goDay.2.1 31 = .ok (.ishl, 1) := by decide +kernel
theorem dX10_goDay_32 : decode mX10_goDay.2.1 32 = .ok (.ior, 1) := by decide +kernel
theorem dX10_goDay_33 : decode mX10_goDay.2.1 33 = .ok (.istore_n 2, 1) := by decide +kernel
theorem dX10_goDay_34 : decode mX10_goDay.2.1 34 = .ok (.iinc 3 1, 3) := by decide +kernel
theorem dX10_goDay_37 : decode mX10_goDay.2.1 37 = .ok (.goto (-33), 3) := by decide +kernel
theorem dX10_goDay_40 : decode mX10_goDay.2.1 40 = .ok (.iconst 0, 1) := by decide +kernel
theorem dX10_goDay_41 : decode mX10_goDay.2.1 41 = .ok (.istore_n 3, 1) := by decide +kernel
theorem dX10_goDay_42 : decode mX10_goDay.2.1 42 = .ok (.iload_n 3, 1) := by decide +kernel
theorem dX10_goDay_43 : decode mX10_goDay.2.1 43 = .ok (.aload_n 0, 1) := by decide +kernel
theorem dX10_goDay_44 : decode mX10_goDay.2.1 44 = .ok (.getfield 410, 3) := by decide +kernel
theorem dX10_goDay_47 : decode mX10_goDay.2.1 47 = .ok (.if_icmp .ge 38, 3) := by decide +kernel
theorem dX10_goDay_50 : decode mX10_goDay.2.1 50 = .ok (.aload_n 0, 1) := by decide +kernel
theorem dX10_goDay_51 : decode mX10_goDay.2.1 51 = .ok (.iload_n 3, 1) := by decide +kernel
theorem dX10_goDay_52 : decode mX10_goDay.2.1 52 = .ok (.aload_n 0, 1) := by decide +kernel
theorem dX10_goDay_53 : decode mX10_goDay.2.1 53 = .ok (.getfield 90, 3) := by decide +kernel
theorem dX10_goDay_56 : decode mX10_goDay.2.1 56 = .ok (.bipush 6, 2) := by decide +kernel
theorem dX10_goDay_58 : decode mX10_goDay.2.1 58 = .ok (.iload_n 3, 1) := by decide +kernel
theorem dX10_goDay_59 : decode mX10_goDay.2.1 59 = .ok (.imul, 1) := by decide +kernel
theorem dX10_goDay_60 : decode mX10_goDay.2.1 60 = .ok (.aload_n 0, 1) := by decide +kernel
theorem dX10_goDay_61 : decode mX10_goDay.2.1 61 = .ok (.getfield 102, 3) := by decide +kernel
theorem dX10_goDay_64 : decode mX10_goDay.2.1 64 = .ok (.bipush 13, 2) := by decide +kernel
theorem dX10_goDay_66 : decode mX10_goDay.2.1 66 = .ok (.iaload, 1) := by decide +kernel
theorem dX10_goDay_67 : decode mX10_goDay.2.1 67 = .ok (.aload_n 0, 1) := by decide +kernel
theorem dX10_goDay_68 : decode mX10_goDay.2.1 68 = .ok (.getfield 93, 3) := by decide +kernel
theorem dX10_goDay_71 : decode mX10_goDay.2.1 71 = .ok (.iload_n 3, 1) := by decide +kernel
theorem dX10_goDay_72 : decode mX10_goDay.2.1 72 = .ok (.iaload, 1) := by decide +kernel
theorem dX10_goDay_73 : decode mX10_goDay.2.1 73 = .ok (.irem, 1) := by decide +kernel
theorem dX10_goDay_74 : decode mX10_goDay.2.1 74 = .ok (.iadd, 1) := by decide +kernel
theorem dX10_goDay_75 : decode mX10_goDay.2.1 75 = .ok (.iaload, 1) := by decide +kernel
theorem dX10_goDay_76 : decode mX10_goDay.2.1 76 = .ok (.invokevirtual 471, 3) := by decide +kernel
theorem dX10_goDay_79 : decode mX10_goDay.2.1 79 = .ok (.iinc 3 1, 3) := by decide +kernel
theorem dX10_goDay_82 : decode mX10_goDay.2.1 82 = .ok (.goto (-40), 3) := by decide +kernel
theorem dX10_goDay_85 : decode mX10_goDay.2.1 85 = .ok (.iload_n 1, 1) := by decide +kernel
theorem dX10_goDay_86 : decode mX10_goDay.2.1 86 = .ok (.ifCond .eq 7, 3) := by decide +kernel
theorem dX10_goDay_89 : decode mX10_goDay.2.1 89 = .ok (.aload_n 0, 1) := by decide +kernel
theorem dX10_goDay_90 : decode mX10_goDay.2.1 90 = .ok (.invokevirtual 474, 3) := by decide +kernel
theorem dX10_goDay_93 : decode mX10_goDay.2.1 93 = .ok (.aload_n 0, 1) := by decide +kernel
theorem dX10_goDay_94 : decode mX10_goDay.2.1 94 = .ok (.getfield 102, 3) := by decide +kernel
theorem dX10_goDay_97 : decode mX10_goDay.2.1 97 = .ok (.bipush 13, 2) := by decide +kernel
theorem dX10_goDay_99 : decode mX10_goDay.2.1 99 = .ok (.dup2, 1) := by decide +kernel
theorem dX10_goDay_100 : decode mX10_goDay.2.1 100 = .ok (.iaload, 1) := by decide +kernel
theorem dX10_goDay_101 : decode mX10_goDay.2.1 101 = .ok (.iconst 1, 1) := by decide +kernel
theorem dX10_goDay_102 : decode mX10_goDay.2.1 102 = .ok (.iadd, 1) := by decide +kernel
theorem dX10_goDay_103 : decode mX10_goDay.2.1 103 = .ok (.iastore, 1) := by decide +kernel
theorem dX10_goDay_104 : decode mX10_goDay.2.1 104 = .ok (.iload_n 2, 1) := by decide +kernel
theorem dX10_goDay_105 : decode mX10_goDay.2.1 105 = .ok (.ireturn, 1) := by decide +kernel
theorem bX10_goDay_0 {E : px_E} {d : Nat} {w : pw_W} {Q : Option Value → pw_W → Prop} {t : ct_T} (hw : w.1 = cs t) {x1 : Int32}  
    (k1 : px_W E mX10_goDay (d + 1) 0 0 4 [.ref 61, .int x1, .int 0, .int 0] [] w Q) :
    px_W E mX10_goDay (d + 1) 0 0 0 [.ref 61, .int x1, .null, .null] [] w Q := by
  refine px_iconst dX10_goDay_0 ic_0 ?_
  refine px_istore_n (ls' := [.ref 61, .int x1, .int 0, .null]) dX10_goDay_1 rfl ⟨by decide, rfl⟩ rfl ?_
  refine px_iconst dX10_goDay_2 ic_0 ?_
  refine px_istore_n (ls' := [.ref 61, .int x1, .int 0, .int 0]) dX10_goDay_3 rfl ⟨by decide, rfl⟩ rfl ?_
  exact k1
theorem eX10_goDay {E : px_E} {d : Nat} {w : pw_W} {Q : Option Value → pw_W → Prop} {t : ct_T} (hw : w.1 = cs t) {x1 : Int32}  
    (k1 : px_W E mX10_goDay (d + 1) 0 0 4 [.ref 61, .int x1, .int 0, .int 0] [] w Q) :
    px_Call E (d + 1) 0 0 mX10_goDay [.ref 61, .int x1] w Q :=
  px_enter (k := 2) (by decide) (Nat.le_of_ble_eq_true rfl) rfl (px_forget (bX10_goDay_0 hw k1) ⟨Or.inr rfl, Or.inr rfl, Or.inl rfl, Or.inl rfl, trivial⟩)
theorem bX10_goDay_4 {E : px_E} {d : Nat} {w : pw_W} {Q : Option Value → pw_W → Prop} {t : ct_T} (hw : w.1 = cs t) {x1 x2 x3 : Int32}  
    (k1 : (pw_I w 61 52) ≤ x3 → px_W E mX10_goDay (d + 1) 0 0 42 [.ref 61, .int x1, .int x2, .int 0] [] w Q)
    (k2 : ¬ (pw_I w 61 52) ≤ x3 → px_Call E d 0 0 mX10_takesPlace [.ref 61, .int x3] w (fun v w' => px_W E mX10_goDay (d + 1) 0 0 17 [.ref 61, .int x1, .int x2, .int x3] (v.toList ++ []) w' Q)) :
    px_W E mX10_goDay (d + 1) 0 0 4 [.ref 61, .int x1, .int x2, .int x3] [] w Q := by
  refine px_iload_n dX10_goDay_4 rfl rfl ?_
  refine px_aload_n dX10_goDay_5 rfl rfl ?_
  refine px_getI dX10_goDay_6 fr_10_407 rfl (px_sh1 hw sh_61) ?_
  refine px_icmp_ge (tgt := 40) dX10_goDay_9 (by decide) (fun h1 => ?_) (fun h1 => ?_)
  ·
    refine px_iconst dX10_goDay_40 ic_0 ?_
    refine px_istore_n (ls' := [.ref 61, .int x1, .int x2, .int 0]) dX10_goDay_41 rfl ⟨by decide, rfl⟩ rfl ?_
    exact (k1 h1)
  ·
    refine px_aload_n dX10_goDay_12 rfl rfl ?_
    refine px_iload_n dX10_goDay_13 rfl rfl ?_
    exact px_callV (As := [.int x3]) (st := []) (rc := 0) (rs := 0) (mc := 0) (ms := 0) dX10_goDay_14 lk_10_465 (px_sh1 hw sh_61) rfl rfl (Nat.le_of_ble_eq_true rfl) (k2 h1)
theorem bX10_goDay_17 {E : px_E} {d : Nat} {w : pw_W} {Q : Option Value → pw_W → Prop} {t : ct_T} (hw : w.1 = cs t) {x1 x2 x3 y0 : Int32}  
    (k1 : ¬ y0 = 0 → px_Call E d 0 0 mX10_meets [.ref 61, .int x3] w (fun v w' => px_W E mX10_goDay (d + 1) 0 0 28 [.ref 61, .int x1, .int x2, .int x3] (v.toList ++ []) w' Q))
    (k2 : y0 = 0 → px_W E mX10_goDay (d + 1) 0 0 34 [.ref 61, .int x1, .int x2, .int x3] [] w Q) :
    px_W E mX10_goDay (d + 1) 0 0 17 [.ref 61, .int x1, .int x2, .int x3] [.int y0] w Q := by
  refine px_if_ne (tgt := 23) dX10_goDay_17 (by decide) (fun h1 => ?_) (fun h1 => ?_)
  ·
    refine px_aload_n dX10_goDay_23 rfl rfl ?_
    refine px_iload_n dX10_goDay_24 rfl rfl ?_
    exact px_callV (As := [.int x3]) (st := []) (rc := 0) (rs := 0) (mc := 0) (ms := 0) dX10_goDay_25 lk_10_468 (px_sh1 hw sh_61) rfl rfl (Nat.le_of_ble_eq_true rfl) (k1 h1)
  ·
    refine px_goto (tgt := 34) dX10_goDay_20 (by decide) ?_
    exact (k2 h1)
theorem bX10_goDay_28 {E : px_E} {d : Nat} {w : pw_W} {Q : Option Value → pw_W → Prop} {t : ct_T} (hw : w.1 = cs t) {x1 x2 x3 : Int32}  
    (k1 : px_W E mX10_goDay (d + 1) 0 0 34 [.ref 61, .int x1, .int (x2 ||| (js_shl 1 x3)), .int x3] [] w Q) :
    px_W E mX10_goDay (d + 1) 0 0 28 [.ref 61, .int x1, .int x2, .int x3] [] w Q := by
  refine px_iload_n dX10_goDay_28 rfl rfl ?_
  refine px_iconst dX10_goDay_29 ic_1 ?_
  refine px_iload_n dX10_goDay_30 rfl rfl ?_
  refine px_ishl dX10_goDay_31 ?_
  refine px_ior dX10_goDay_32 ?_
  refine px_istore_n (ls' := [.ref 61, .int x1, .int (x2 ||| (js_shl 1 x3)), .int x3]) dX10_goDay_33 rfl ⟨by decide, rfl⟩ rfl ?_
  exact k1
theorem bX10_goDay_34 {E : px_E} {d : Nat} {w : pw_W} {Q : Option Value → pw_W → Prop} {t : ct_T} (hw : w.1 = cs t) {x1 x2 x3 : Int32}  
    (k1 : px_W E mX10_goDay (d + 1) 0 0 4 [.ref 61, .int x1, .int x2, .int (x3 + 1)] [] w Q) :
    px_W E mX10_goDay (d + 1) 0 0 34 [.ref 61, .int x1, .int x2, .int x3] [] w Q := by
  refine px_iinc (ls' := [.ref 61, .int x1, .int x2, .int (x3 + 1)]) dX10_goDay_34 ⟨by decide, rfl⟩ rfl rfl rfl ?_
  refine px_goto (tgt := 4) dX10_goDay_37 (by decide) ?_
  exact k1
theorem bX10_goDay_42 {E : px_E} {d : Nat} {w : pw_W} {Q : Option Value → pw_W → Prop} {t : ct_T} (hw : w.1 = cs t) {x1 x2 x3 : Int32}  
    (k1 : (pw_I w 61 53) ≤ x3 → x1 = 0 → px_W E mX10_goDay (d + 1) 0 0 93 [.ref 61, .null, .int x2, .null] [] w Q)
    (k2 : (pw_I w 61 53) ≤ x3 → ¬ x1 = 0 → px_Call E d 0 0 mX10_flaresUp [.ref 61] w (fun v w' => px_W E mX10_goDay (d + 1) 0 0 93 [.ref 61, .null, .int x2, .null] (v.toList ++ []) w' Q))
    (k3 : ¬ (pw_I w 61 53) ≤ x3 → px_W E mX10_goDay (d + 1) 0 0 50 [.ref 61, .int x1, .int x2, .int x3] [] w Q) :
    px_W E mX10_goDay (d + 1) 0 0 42 [.ref 61, .int x1, .int x2, .int x3] [] w Q := by
  refine px_iload_n dX10_goDay_42 rfl rfl ?_
  refine px_aload_n dX10_goDay_43 rfl rfl ?_
  refine px_getI dX10_goDay_44 fr_10_410 rfl (px_sh1 hw sh_61) ?_
  refine px_icmp_ge (tgt := 85) dX10_goDay_47 (by decide) (fun h1 => ?_) (fun h1 => ?_)
  ·
    refine px_iload_n dX10_goDay_85 rfl rfl ?_
    refine px_if_eq (tgt := 93) dX10_goDay_86 (by decide) (fun h2 => ?_) (fun h2 => ?_)
    ·
      exact px_forget (k1 h1 h2) ⟨Or.inr rfl, Or.inl rfl, Or.inr rfl, Or.inl rfl, trivial⟩
    ·
      refine px_aload_n dX10_goDay_89 rfl rfl ?_
      refine px_forget (ls' := [.ref 61, .null, .int x2, .null]) ?_ ⟨Or.inr rfl, Or.inl rfl, Or.inr rfl, Or.inl rfl, trivial⟩
      exact px_callV (As := []) (st := []) (rc := 0) (rs := 0) (mc := 0) (ms := 0) dX10_goDay_90 lk_10_474 (px_sh1 hw sh_61) rfl rfl (Nat.le_of_ble_eq_true rfl) (k2 h1 h2)
  ·
    exact (k3 h1)
theorem bX10_goDay_50 {E : px_E} {d : Nat} {w : pw_W} {Q : Option Value → pw_W → Prop} {t : ct_T} (hw : w.1 = cs t) {x1 x2 x3 : Int32}  (j1 : Nat) (hj1 : x3 = nI j1) (hl1 : j1 < 2) (hz2 : ¬ (pw_I w 88 j1) = 0) (j2 : Nat) (hj2 : ((6 * x3) + (js_rem (pw_I w 90 13) (pw_I w 88 j1))) = nI j2) (hl2 : j2 < 12)
    (k1 : px_Call E d 0 0 mX10_soothes [.ref 61, .int x3, .int (pw_I w 87 j2)] w (fun v w' => px_W E mX10_goDay (d + 1) 0 0 79 [.ref 61, .int x1, .int x2, .int x3] (v.toList ++ []) w' Q)) :
    px_W E mX10_goDay (d + 1) 0 0 50 [.ref 61, .int x1, .int x2, .int x3] [] w Q := by
  refine px_aload_n dX10_goDay_50 rfl rfl ?_
  refine px_iload_n dX10_goDay_51 rfl rfl ?_
  refine px_aload_n dX10_goDay_52 rfl rfl ?_
  refine px_getR (v := 87) dX10_goDay_53 fr_10_90 rfl (px_sh1 hw sh_61) (px_rf hw rf_61_43) (by decide) ?_
  refine px_bipush dX10_goDay_56 bp_6 ?_
  refine px_iload_n dX10_goDay_58 rfl rfl ?_
  refine px_imul dX10_goDay_59 ?_
  refine px_aload_n dX10_goDay_60 rfl rfl ?_
  refine px_getR (v := 90) dX10_goDay_61 fr_10_102 rfl (px_sh1 hw sh_61) (px_rf hw rf_61_61) (by decide) ?_
  refine px_bipush dX10_goDay_64 bp_13 ?_
  refine px_iald dX10_goDay_66 (px_sh2 hw sh_90) (by decide) 13 rfl (by decide) ?_
  refine px_aload_n dX10_goDay_67 rfl rfl ?_
  refine px_getR (v := 88) dX10_goDay_68 fr_10_93 rfl (px_sh1 hw sh_61) (px_rf hw rf_61_44) (by decide) ?_
  refine px_iload_n dX10_goDay_71 rfl rfl ?_
  refine px_iald dX10_goDay_72 (px_sh2 hw sh_88) (by decide) j1 hj1 hl1 ?_
  refine px_irem dX10_goDay_73 hz2 ?_
  refine px_iadd dX10_goDay_74 ?_
  refine px_iald dX10_goDay_75 (px_sh2 hw sh_87) (by decide) j2 hj2 hl2 ?_
  exact px_callV (As := [.int x3, .int (pw_I w 87 j2)]) (st := []) (rc := 0) (rs := 0) (mc := 0) (ms := 0) dX10_goDay_76 lk_10_471 (px_sh1 hw sh_61) rfl rfl (Nat.le_of_ble_eq_true rfl) k1
theorem bX10_goDay_79 {E : px_E} {d : Nat} {w : pw_W} {Q : Option Value → pw_W → Prop} {t : ct_T} (hw : w.1 = cs t) {x1 x2 x3 : Int32}  
    (k1 : px_W E mX10_goDay (d + 1) 0 0 42 [.ref 61, .int x1, .int x2, .int (x3 + 1)] [] w Q) :
    px_W E mX10_goDay (d + 1) 0 0 79 [.ref 61, .int x1, .int x2, .int x3] [] w Q := by
  refine px_iinc (ls' := [.ref 61, .int x1, .int x2, .int (x3 + 1)]) dX10_goDay_79 ⟨by decide, rfl⟩ rfl rfl rfl ?_
  refine px_goto (tgt := 42) dX10_goDay_82 (by decide) ?_
  exact k1
theorem bX10_goDay_93 {E : px_E} {d : Nat} {w : pw_W} {Q : Option Value → pw_W → Prop} {t : ct_T} (hw : w.1 = cs t) {x2 : Int32}  
    (k1 : Q (some (.int x2)) (pw_sI w 90 13 ((pw_I w 90 13) + 1))) :
    px_W E mX10_goDay (d + 1) 0 0 93 [.ref 61, .null, .int x2, .null] [] w Q := by
  refine px_aload_n dX10_goDay_93 rfl rfl ?_
  refine px_getR (v := 90) dX10_goDay_94 fr_10_102 rfl (px_sh1 hw sh_61) (px_rf hw rf_61_61) (by decide) ?_
  refine px_bipush dX10_goDay_97 bp_13 ?_
  refine px_dup2 dX10_goDay_99 rfl rfl ?_
  refine px_iald dX10_goDay_100 (px_sh2 hw sh_90) (by decide) 13 rfl (by decide) ?_
  refine px_iconst dX10_goDay_101 ic_1 ?_
  refine px_iadd dX10_goDay_102 ?_
  refine px_iast dX10_goDay_103 (px_sh2 hw sh_90) (by decide) 13 rfl (by decide) (by omega) ?_
  refine px_iload_n dX10_goDay_104 rfl rfl ?_
  exact px_ireturn dX10_goDay_105 rfl rfl k1
theorem dX10_person_0 : decode mX10_person.2.1 0 = .ok (.aload_n 0, 1) := by decide +kernel
theorem dX10_person_1 : decode mX10_person.2.1 1 = .ok (.iload_n 1, 1) := by decide +kernel
theorem dX10_person_2 : decode mX10_person.2.1 2 = .ok (.invokevirtual 477, 3) := by decide +kernel
theorem dX10_person_5 : decode mX10_person.2.1 5 = .ok (.ifCond .ne 5, 3) := by decide +kernel
theorem dX10_person_8 : decode mX10_person.2.1 8 = .ok (.iconst (-1), 1) := by decide +kernel
theorem dX10_person_9 : decode mX10_person.2.1 9 = .ok (.ireturn, 1) := by decide +kernel
theorem dX10_person_10 : decode mX10_person.2.1 10 = .ok (.aload_n 0, 1) := by decide +kernel
theorem dX10_person_11 : decode mX10_person.2.1 11 = .ok (.invokevirtual 480, 3) := by decide +kernel
theorem dX10_person_14 : decode mX10_person.2.1 14 = .ok (.iload_n 2, 1) := by decide +kernel
theorem dX10_person_15 : decode mX10_person.2.1 15 = .ok (.tableswitch 62 0 3 #[29, 36, 43, 53], 29) := by decide +kernel
theorem dX10_person_44 : decode mX10_person.2.1 44 = .ok (.aload_n 0, 1) := by decide +kernel
theorem dX10_person_45 : decode mX10_person.2.1 45 = .ok (.getfield 102, 3) := by decide +kernel
theorem dX10_person_48 : decode mX10_person.2.1 48 = .ok (.iload_n 1, 1) := by decide +kernel
theorem dX10_person_49 : decode mX10_person.2.1 49 = .ok (.iaload, 1) := by decide +kernel
theorem dX10_person_50 : decode mX10_person.2.1 50 = .ok (.ireturn, 1) := by decide +kernel
theorem dX10_person_51 : decode mX10_person.2.1 51 = .ok (.aload_n 0, 1) := by decide +kernel
theorem dX10_person_52 : decode mX10_person.2.1 52 = .ok (.getfield 72, 3) := by decide +kernel
theorem dX10_person_55 : decode mX10_person.2.1 55 = .ok (.iload_n 1, 1) := by decide +kernel
theorem dX10_person_56 : decode mX10_person.2.1 56 = .ok (.iaload, 1) := by decide +kernel
theorem dX10_person_57 : decode mX10_person.2.1 57 = .ok (.ireturn, 1) := by decide +kernel
theorem dX10_person_58 : decode mX10_person.2.1 58 = .ok (.aload_n 0, 1) := by decide +kernel
theorem dX10_person_59 : decode mX10_person.2.1 59 = .ok (.getfield 102, 3) := by decide +kernel
theorem dX10_person_62 : decode mX10_person.2.1 62 = .ok (.bipush 6, 2) := by decide +kernel
theorem dX10_person_64 : decode mX10_person.2.1 64 = .ok (.iload_n 1, 1) := by decide +kernel
theorem dX10_person_65 : decode mX10_person.2.1 65 = .ok (.iadd, 1) := by decide +kernel
theorem dX10_person_66 : decode mX10_person.2.1 66 = .ok (.iaload, 1) := by decide +kernel
theorem dX10_person_67 : decode mX10_person.2.1 67 = .ok (.ireturn, 1) := by decide +kernel
theorem dX10_person_68 : decode mX10_person.2.1 68 = .ok (.aload_n 0, 1) := by decide +kernel
theorem dX10_person_69 : decode mX10_person.2.1 69 = .ok (.iload_n 1, 1) := by decide +kernel
theorem dX10_person_70 : decode mX10_person.2.1 70 = .ok (.invokevirtual 444, 3) := by decide +kernel
theorem dX10_person_73 : decode mX10_person.2.1 73 = .ok (.invokestatic 332, 3) := by decide +kernel
theorem dX10_person_76 : decode mX10_person.2.1 76 = .ok (.ireturn, 1) := by decide +kernel
theorem dX10_person_77 : decode mX10_person.2.1 77 = .ok (.iconst (-1), 1) := by decide +kernel
theorem dX10_person_78 : decode mX10_person.2.1 78 = .ok (.ireturn, 1) := by decide +kernel
theorem bX10_person_0 {E : px_E} {d : Nat} {w : pw_W} {Q : Option Value → pw_W → Prop} {t : ct_T} (hw : w.1 = cs t) {x1 x2 : Int32}  
    (k1 : (pX10_isPerson w x1) → px_Call E (d + 2) 0 0 mX10_fill [.ref 61] w (fun v w' => px_W E mX10_person (d + 3) 0 0 14 [.ref 61, .int x1, .int x2] (v.toList ++ []) w' Q))
    (k2 : ¬ (pX10_isPerson w x1) → Q (some (.int (-1))) w) :
    px_W E mX10_person (d + 3) 0 0 0 [.ref 61, .int x1, .int x2] [] w Q := by
  refine px_aload_n dX10_person_0 rfl rfl ?_
  refine px_iload_n dX10_person_1 rfl rfl ?_
  refine px_callV (As := [.int x1]) (st := []) (rc := 0) (rs := 0) (mc := 0) (ms := 0) dX10_person_2 lk_10_477 (px_sh1 hw sh_61) rfl rfl (Nat.le_of_ble_eq_true rfl) (sX10_isPerson (w := w) hw ?_)
  show px_W E mX10_person (d + 3) 0 0 5 [.ref 61, .int x1, .int x2] [.int (jb (pX10_isPerson w x1))] w Q
  refine px_jb_ne (tgt := 10) dX10_person_5 (by decide) (fun h1 => ?_) (fun h1 => ?_)
  ·
    refine px_aload_n dX10_person_10 rfl rfl ?_
    exact px_callV (As := []) (st := []) (rc := 0) (rs := 0) (mc := 0) (ms := 0) dX10_person_11 lk_10_480 (px_sh1 hw sh_61) rfl rfl (Nat.le_of_ble_eq_true rfl) (k1 h1)
  ·
    refine px_iconst dX10_person_8 ic_m1 ?_
    exact px_ireturn dX10_person_9 rfl rfl (k2 h1)
theorem eX10_person {E : px_E} {d : Nat} {w : pw_W} {Q : Option Value → pw_W → Prop} {t : ct_T} (hw : w.1 = cs t) {x1 x2 : Int32}  
    (k1 : (pX10_isPerson w x1) → px_Call E (d + 2) 0 0 mX10_fill [.ref 61] w (fun v w' => px_W E mX10_person (d + 3) 0 0 14 [.ref 61, .int x1, .int x2] (v.toList ++ []) w' Q))
    (k2 : ¬ (pX10_isPerson w x1) → Q (some (.int (-1))) w) :
    px_Call E (d + 3) 0 0 mX10_person [.ref 61, .int x1, .int x2] w Q :=
  px_enter (k := 0) (by decide) (Nat.le_of_ble_eq_true rfl) rfl (px_forget (bX10_person_0 hw k1 k2) ⟨Or.inr rfl, Or.inr rfl, Or.inr rfl, trivial⟩)
theorem bX10_person_14 {E : px_E} {d : Nat} {w : pw_W} {Q : Option Value → pw_W → Prop} {t : ct_T} (hw : w.1 = cs t) {x1 x2 : Int32}  
    (k1 : x2 = 0 → px_W E mX10_person (d + 3) 0 0 44 [.ref 61, .int x1, .null] [] w Q)
    (k2 : ¬ x2 = 0 → x2 = 1 → px_W E mX10_person (d + 3) 0 0 51 [.ref 61, .int x1, .null] [] w Q)
    (k3 : ¬ x2 = 0 → ¬ x2 = 1 → x2 = 2 → px_W E mX10_person (d + 3) 0 0 58 [.ref 61, .int x1, .null] [] w Q)
    (k4 : ¬ x2 = 0 → ¬ x2 = 1 → ¬ x2 = 2 → x2 = 3 → px_W E mX10_person (d + 3) 0 0 68 [.ref 61, .int x1, .null] [] w Q)
    (k5 : ¬ x2 = 0 → ¬ x2 = 1 → ¬ x2 = 2 → ¬ x2 = 3 → Q (some (.int (-1))) w) :
    px_W E mX10_person (d + 3) 0 0 14 [.ref 61, .int x1, .int x2] [] w Q := by
  refine px_iload_n dX10_person_14 rfl rfl ?_
  by_cases h1 : x2 = 0
  ·
    refine px_table (tgt := 44) dX10_person_15 29 (by rw [h1]; decide) (by decide) ?_
    exact px_forget (k1 h1) ⟨Or.inr rfl, Or.inr rfl, Or.inl rfl, trivial⟩
  by_cases h2 : x2 = 1
  ·
    refine px_table (tgt := 51) dX10_person_15 36 (by rw [h2]; decide) (by decide) ?_
    exact px_forget (k2 h1 h2) ⟨Or.inr rfl, Or.inr rfl, Or.inl rfl, trivial⟩
  by_cases h3 : x2 = 2
  ·
    refine px_table (tgt := 58) dX10_person_15 43 (by rw [h3]; decide) (by decide) ?_
    exact px_forget (k3 h1 h2 h3) ⟨Or.inr rfl, Or.inr rfl, Or.inl rfl, trivial⟩
  by_cases h4 : x2 = 3
  ·
    refine px_table (tgt := 68) dX10_person_15 53 (by rw [h4]; decide) (by decide) ?_
    exact px_forget (k4 h1 h2 h3 h4) ⟨Or.inr rfl, Or.inr rfl, Or.inl rfl, trivial⟩
  refine px_table (tgt := 77) dX10_person_15 62 (by have a0 := lv_neT h1 (show (0 : Int32).toInt = 0 from by decide); have a1 := lv_neT h2 (show (1 : Int32).toInt = 1 from by decide); have a2 := lv_neT h3 (show (2 : Int32).toInt = 2 from by decide); have a3 := lv_neT h4 (show (3 : Int32).toInt = 3 from by decide); rw [if_pos (by omega)]) (by decide) ?_
  refine px_iconst dX10_person_77 ic_m1 ?_
  exact px_ireturn dX10_person_78 rfl rfl (k5 h1 h2 h3 h4)
theorem bX10_person_44 {E : px_E} {d : Nat} {w : pw_W} {Q : Option Value → pw_W → Prop} {t : ct_T} (hw : w.1 = cs t) {x1 : Int32}  (j1 : Nat) (hj1 : x1 = nI j1) (hl1 : j1 < 15)
    (k1 : Q (some (.int (pw_I w 90 j1))) w) :
    px_W E mX10_person (d + 3) 0 0 44 [.ref 61, .int x1, .null] [] w Q := by
  refine px_aload_n dX10_person_44 rfl rfl ?_
  refine px_getR (v := 90) dX10_person_45 fr_10_102 rfl (px_sh1 hw sh_61) (px_rf hw rf_61_61) (by decide) ?_
  refine px_iload_n dX10_person_48 rfl rfl ?_
  refine px_iald dX10_person_49 (px_sh2 hw sh_90) (by decide) j1 hj1 hl1 ?_
  exact px_ireturn dX10_person_50 rfl rfl k1
theorem bX10_person_51 {E : px_E} {d : Nat} {w : pw_W} {Q : Option Value → pw_W → Prop} {t : ct_T} (hw : w.1 = cs t) {x1 : Int32}  (j1 : Nat) (hj1 : x1 = nI j1) (hl1 : j1 < 6)
    (k1 : Q (some (.int (pw_I w 81 j1))) w) :
    px_W E mX10_person (d + 3) 0 0 51 [.ref 61, .int x1, .null] [] w Q := by
  refine px_aload_n dX10_person_51 rfl rfl ?_
  refine px_getR (v := 81) dX10_person_52 fr_10_72 rfl (px_sh1 hw sh_61) (px_rf hw rf_61_37) (by decide) ?_
  refine px_iload_n dX10_person_55 rfl rfl ?_
  refine px_iald dX10_person_56 (px_sh2 hw sh_81) (by decide) j1 hj1 hl1 ?_
  exact px_ireturn dX10_person_57 rfl rfl k1
theorem bX10_person_58 {E : px_E} {d : Nat} {w : pw_W} {Q : Option Value → pw_W → Prop} {t : ct_T} (hw : w.1 = cs t) {x1 : Int32}  (j1 : Nat) (hj1 : (6 + x1) = nI j1) (hl1 : j1 < 15)
    (k1 : Q (some (.int (pw_I w 90 j1))) w) :
    px_W E mX10_person (d + 3) 0 0 58 [.ref 61, .int x1, .null] [] w Q := by
  refine px_aload_n dX10_person_58 rfl rfl ?_
  refine px_getR (v := 90) dX10_person_59 fr_10_102 rfl (px_sh1 hw sh_61) (px_rf hw rf_61_61) (by decide) ?_
  refine px_bipush dX10_person_62 bp_6 ?_
  refine px_iload_n dX10_person_64 rfl rfl ?_
  refine px_iadd dX10_person_65 ?_
  refine px_iald dX10_person_66 (px_sh2 hw sh_90) (by decide) j1 hj1 hl1 ?_
  exact px_ireturn dX10_person_67 rfl rfl k1
theorem bX10_person_68 {E : px_E} {d : Nat} {w : pw_W} {Q : Option Value → pw_W → Prop} {t : ct_T} (hw : w.1 = cs t) {x1 : Int32}  (j1 : Nat) (hj1 : (6 + x1) = nI j1) (hl1 : j1 < 15)
    (k1 : Q (some (.int (hX10_truth (jb (pX10_isAbed w x1 j1))))) w) :
    px_W E mX10_person (d + 3) 0 0 68 [.ref 61, .int x1, .null] [] w Q := by
  refine px_aload_n dX10_person_68 rfl rfl ?_
  refine px_iload_n dX10_person_69 rfl rfl ?_
  refine px_forget (ls' := [.null, .null, .null]) ?_ ⟨Or.inl rfl, Or.inl rfl, Or.inl rfl, trivial⟩
  refine px_callV (As := [.int x1]) (st := []) (rc := 0) (rs := 0) (mc := 0) (ms := 0) dX10_person_70 lk_10_444 (px_sh1 hw sh_61) rfl rfl (Nat.le_of_ble_eq_true rfl) (sX10_isAbed (w := w) hw j1 hj1 hl1 ?_)
  show px_W E mX10_person (d + 3) 0 0 73 [.null, .null, .null] [.int (jb (pX10_isAbed w x1 j1))] w Q
  refine px_callS (As := [.int (jb (pX10_isAbed w x1 j1))]) (st := []) (rc := 0) (rs := 0) (mc := 0) (ms := 0) dX10_person_73 lk_10_332 rfl rfl (Nat.le_of_ble_eq_true rfl) (sX10_truth ?_)
  show px_W E mX10_person (d + 3) 0 0 76 [.null, .null, .null] [.int (hX10_truth (jb (pX10_isAbed w x1 j1)))] w Q
  exact px_ireturn dX10_person_76 rfl rfl k1
theorem dX10_meeting_0 : decode mX10_meeting.2.1 0 = .ok (.aload_n 0, 1) := by decide +kernel
theorem dX10_meeting_1 : decode mX10_meeting.2.1 1 = .ok (.iload_n 1, 1) := by decide +kernel
theorem dX10_meeting_2 : decode mX10_meeting.2.1 2 = .ok (.invokevirtual 483, 3) := by decide +kernel
theorem dX10_meeting_5 : decode mX10_meeting.2.1 5 = .ok (.ifCond .ne 5, 3) := by decide +kernel
theorem dX10_meeting_8 : decode mX10_meeting.2.1 8 = .ok (.iconst (-1), 1) := by decide +kernel
theorem dX10_meeting_9 : decode mX10_meeting.2.1 9 = .ok (.ireturn, 1) := by decide +kernel
theorem dX10_meeting_10 : decode mX10_meeting.2.1 10 = .ok (.iload_n 2, 1) := by decide +kernel
theorem dX10_meeting_11 : decode mX10_meeting.2.1 11 = .ok (.tableswitch 62 0 3 #[29, 36, 43, 50], 29) := by decide +kernel
theorem dX10_meeting_40 : decode mX10_meeting.2.1 40 = .ok (.aload_n 0, 1) := by decide +kernel
theorem dX10_meeting_41 : decode mX10_meeting.2.1 41 = .ok (.getfield 78, 3) := by decide +kernel
theorem dX10_meeting_44 : decode mX10_meeting.2.1 44 = .ok (.iload_n 1, 1) := by decide +kernel
theorem dX10_meeting_45 : decode mX10_meeting.2.1 45 = .ok (.iaload, 1) := by decide +kernel
theorem dX10_meeting_46 : decode mX10_meeting.2.1 46 = .ok (.ireturn, 1) := by decide +kernel
theorem dX10_meeting_47 : decode mX10_meeting.2.1 47 = .ok (.aload_n 0, 1) := by decide +kernel
theorem dX10_meeting_48 : decode mX10_meeting.2.1 48 = .ok (.getfield 81, 3) := by decide +kernel
theorem dX10_meeting_51 : decode mX10_meeting.2.1 51 = .ok (.iload_n 1, 1) := by decide +kernel
theorem dX10_meeting_52 : decode mX10_meeting.2.1 52 = .ok (.iaload, 1) := by decide +kernel
theorem dX10_meeting_53 : decode mX10_meeting.2.1 53 = .ok (.ireturn, 1) := by decide +kernel
theorem dX10_meeting_54 : decode mX10_meeting.2.1 54 = .ok (.aload_n 0, 1) := by decide +kernel
theorem dX10_meeting_55 : decode mX10_meeting.2.1 55 = .ok (.getfield 84, 3) := by decide +kernel
theorem dX10_meeting_58 : decode mX10_meeting.2.1 58 = .ok (.iload_n 1, 1) := by decide +kernel
theorem dX10_meeting_59 : decode mX10_meeting.2.1 59 = .ok (.iaload, 1) := by decide +kernel
theorem dX10_meeting_60 : decode mX10_meeting.2.1 60 = .ok (.ireturn, 1) := by decide +kernel
theorem dX10_meeting_61 : decode mX10_meeting.2.1 61 = .ok (.aload_n 0, 1) := by decide +kernel
theorem dX10_meeting_62 : decode mX10_meeting.2.1 62 = .ok (.getfield 99, 3) := by decide +kernel
theorem dX10_meeting_65 : decode mX10_meeting.2.1 65 = .ok (.bipush 12, 2) := by decide +kernel
theorem dX10_meeting_67 : decode mX10_meeting.2.1 67 = .ok (.iaload, 1) := by decide +kernel
theorem dX10_meeting_68 : decode mX10_meeting.2.1 68 = .ok (.iload_n 1, 1) := by decide +kernel
theorem dX10_meeting_69 : decode mX10_meeting.2.1 69 = .ok (.ishr, 1) := by decide +kernel
theorem dX10_meeting_70 : decode mX10_meeting.2.1 70 = .ok (.iconst 1, 1) := by decide +kernel
theorem dX10_meeting_71 : decode mX10_meeting.2.1 71 = .ok (.iand, 1) := by decide +kernel
theorem dX10_meeting_72 : decode mX10_meeting.2.1 72 = .ok (.ireturn, 1) := by decide +kernel
theorem dX10_meeting_73 : decode mX10_meeting.2.1 73 = .ok (.iconst (-1), 1) := by decide +kernel
theorem dX10_meeting_74 : decode mX10_meeting.2.1 74 = .ok (.ireturn, 1) := by decide +kernel
theorem bX10_meeting_0 {E : px_E} {d : Nat} {w : pw_W} {Q : Option Value → pw_W → Prop} {t : ct_T} (hw : w.1 = cs t) {x1 x2 : Int32}  
    (k1 : (pX10_isMeeting w x1) → x2 = 0 → px_W E mX10_meeting (d + 3) 0 0 40 [.ref 61, .int x1, .null] [] w Q)
    (k2 : (pX10_isMeeting w x1) → ¬ x2 = 0 → x2 = 1 → px_W E mX10_meeting (d + 3) 0 0 47 [.ref 61, .int x1, .null] [] w Q)
    (k3 : (pX10_isMeeting w x1) → ¬ x2 = 0 → ¬ x2 = 1 → x2 = 2 → px_W E mX10_meeting (d + 3) 0 0 54 [.ref 61, .int x1, .null] [] w Q)
    (k4 : (pX10_isMeeting w x1) → ¬ x2 = 0 → ¬ x2 = 1 → ¬ x2 = 2 → x2 = 3 → px_W E mX10_meeting (d + 3) 0 0 61 [.ref 61, .int x1, .null] [] w Q)
    (k5 : (pX10_isMeeting w x1) → ¬ x2 = 0 → ¬ x2 = 1 → ¬ x2 = 2 → ¬ x2 = 3 → Q (some (.int (-1))) w)
    (k6 : ¬ (pX10_isMeeting w x1) → Q (some (.int (-1))) w) :
    px_W E mX10_meeting (d + 3) 0 0 0 [.ref 61, .int x1, .int x2] [] w Q := by
  refine px_aload_n dX10_meeting_0 rfl rfl ?_
  refine px_iload_n dX10_meeting_1 rfl rfl ?_
  refine px_callV (As := [.int x1]) (st := []) (rc := 0) (rs := 0) (mc := 0) (ms := 0) dX10_meeting_2 lk_10_483 (px_sh1 hw sh_61) rfl rfl (Nat.le_of_ble_eq_true rfl) (sX10_isMeeting (w := w) hw ?_)
  show px_W E mX10_meeting (d + 3) 0 0 5 [.ref 61, .int x1, .int x2] [.int (jb (pX10_isMeeting w x1))] w Q
  refine px_jb_ne (tgt := 10) dX10_meeting_5 (by decide) (fun h1 => ?_) (fun h1 => ?_)
  ·
    refine px_iload_n dX10_meeting_10 rfl rfl ?_
    by_cases h2 : x2 = 0
    ·
      refine px_table (tgt := 40) dX10_meeting_11 29 (by rw [h2]; decide) (by decide) ?_
      exact px_forget (k1 h1 h2) ⟨Or.inr rfl, Or.inr rfl, Or.inl rfl, trivial⟩
    by_cases h3 : x2 = 1
    ·
      refine px_table (tgt := 47) dX10_meeting_11 36 (by rw [h3]; decide) (by decide) ?_
      exact px_forget (k2 h1 h2 h3) ⟨Or.inr rfl, Or.inr rfl, Or.inl rfl, trivial⟩
    by_cases h4 : x2 = 2
    ·
      refine px_table (tgt := 54) dX10_meeting_11 43 (by rw [h4]; decide) (by decide) ?_
      exact px_forget (k3 h1 h2 h3 h4) ⟨Or.inr rfl, Or.inr rfl, Or.inl rfl, trivial⟩
    by_cases h5 : x2 = 3
    ·
      refine px_table (tgt := 61) dX10_meeting_11 50 (by rw [h5]; decide) (by decide) ?_
      exact px_forget (k4 h1 h2 h3 h4 h5) ⟨Or.inr rfl, Or.inr rfl, Or.inl rfl, trivial⟩
    refine px_table (tgt := 73) dX10_meeting_11 62 (by have a0 := lv_neT h2 (show (0 : Int32).toInt = 0 from by decide); have a1 := lv_neT h3 (show (1 : Int32).toInt = 1 from by decide); have a2 := lv_neT h4 (show (2 : Int32).toInt = 2 from by decide); have a3 := lv_neT h5 (show (3 : Int32).toInt = 3 from by decide); rw [if_pos (by omega)]) (by decide) ?_
    refine px_iconst dX10_meeting_73 ic_m1 ?_
    exact px_ireturn dX10_meeting_74 rfl rfl (k5 h1 h2 h3 h4 h5)
  ·
    refine px_iconst dX10_meeting_8 ic_m1 ?_
    exact px_ireturn dX10_meeting_9 rfl rfl (k6 h1)
theorem eX10_meeting {E : px_E} {d : Nat} {w : pw_W} {Q : Option Value → pw_W → Prop} {t : ct_T} (hw : w.1 = cs t) {x1 x2 : Int32}  
    (k1 : (pX10_isMeeting w x1) → x2 = 0 → px_W E mX10_meeting (d + 3) 0 0 40 [.ref 61, .int x1, .null] [] w Q)
    (k2 : (pX10_isMeeting w x1) → ¬ x2 = 0 → x2 = 1 → px_W E mX10_meeting (d + 3) 0 0 47 [.ref 61, .int x1, .null] [] w Q)
    (k3 : (pX10_isMeeting w x1) → ¬ x2 = 0 → ¬ x2 = 1 → x2 = 2 → px_W E mX10_meeting (d + 3) 0 0 54 [.ref 61, .int x1, .null] [] w Q)
    (k4 : (pX10_isMeeting w x1) → ¬ x2 = 0 → ¬ x2 = 1 → ¬ x2 = 2 → x2 = 3 → px_W E mX10_meeting (d + 3) 0 0 61 [.ref 61, .int x1, .null] [] w Q)
    (k5 : (pX10_isMeeting w x1) → ¬ x2 = 0 → ¬ x2 = 1 → ¬ x2 = 2 → ¬ x2 = 3 → Q (some (.int (-1))) w)
    (k6 : ¬ (pX10_isMeeting w x1) → Q (some (.int (-1))) w) :
    px_Call E (d + 3) 0 0 mX10_meeting [.ref 61, .int x1, .int x2] w Q :=
  px_enter (k := 0) (by decide) (Nat.le_of_ble_eq_true rfl) rfl (px_forget (bX10_meeting_0 hw k1 k2 k3 k4 k5 k6) ⟨Or.inr rfl, Or.inr rfl, Or.inr rfl, trivial⟩)
theorem bX10_meeting_40 {E : px_E} {d : Nat} {w : pw_W} {Q : Option Value → pw_W → Prop} {t : ct_T} (hw : w.1 = cs t) {x1 : Int32}  (j1 : Nat) (hj1 : x1 = nI j1) (hl1 : j1 < 9)
    (k1 : Q (some (.int (pw_I w 83 j1))) w) :
    px_W E mX10_meeting (d + 3) 0 0 40 [.ref 61, .int x1, .null] [] w Q := by
  refine px_aload_n dX10_meeting_40 rfl rfl ?_
  refine px_getR (v := 83) dX10_meeting_41 fr_10_78 rfl (px_sh1 hw sh_61) (px_rf hw rf_61_39) (by decide) ?_
  refine px_iload_n dX10_meeting_44 rfl rfl ?_
  refine px_iald dX10_meeting_45 (px_sh2 hw sh_83) (by decide) j1 hj1 hl1 ?_
  exact px_ireturn dX10_meeting_46 rfl rfl k1
theorem bX10_meeting_47 {E : px_E} {d : Nat} {w : pw_W} {Q : Option Value → pw_W → Prop} {t : ct_T} (hw : w.1 = cs t) {x1 : Int32}  (j1 : Nat) (hj1 : x1 = nI j1) (hl1 : j1 < 9)
    (k1 : Q (some (.int (pw_I w 84 j1))) w) :
    px_W E mX10_meeting (d + 3) 0 0 47 [.ref 61, .int x1, .null] [] w Q := by
  refine px_aload_n dX10_meeting_47 rfl rfl ?_
  refine px_getR (v := 84) dX10_meeting_48 fr_10_81 rfl (px_sh1 hw sh_61) (px_rf hw rf_61_40) (by decide) ?_
  refine px_iload_n dX10_meeting_51 rfl rfl ?_
  refine px_iald dX10_meeting_52 (px_sh2 hw sh_84) (by decide) j1 hj1 hl1 ?_
  exact px_ireturn dX10_meeting_53 rfl rfl k1
theorem bX10_meeting_54 {E : px_E} {d : Nat} {w : pw_W} {Q : Option Value → pw_W → Prop} {t : ct_T} (hw : w.1 = cs t) {x1 : Int32}  (j1 : Nat) (hj1 : x1 = nI j1) (hl1 : j1 < 9)
    (k1 : Q (some (.int (pw_I w 85 j1))) w) :
    px_W E mX10_meeting (d + 3) 0 0 54 [.ref 61, .int x1, .null] [] w Q := by
  refine px_aload_n dX10_meeting_54 rfl rfl ?_
  refine px_getR (v := 85) dX10_meeting_55 fr_10_84 rfl (px_sh1 hw sh_61) (px_rf hw rf_61_41) (by decide) ?_
  refine px_iload_n dX10_meeting_58 rfl rfl ?_
  refine px_iald dX10_meeting_59 (px_sh2 hw sh_85) (by decide) j1 hj1 hl1 ?_
  exact px_ireturn dX10_meeting_60 rfl rfl k1
theorem bX10_meeting_61 {E : px_E} {d : Nat} {w : pw_W} {Q : Option Value → pw_W → Prop} {t : ct_T} (hw : w.1 = cs t) {x1 : Int32}  
    (k1 : Q (some (.int ((js_shr (pw_I w 89 12) x1) &&& 1))) w) :
    px_W E mX10_meeting (d + 3) 0 0 61 [.ref 61, .int x1, .null] [] w Q := by
  refine px_aload_n dX10_meeting_61 rfl rfl ?_
  refine px_getR (v := 89) dX10_meeting_62 fr_10_99 rfl (px_sh1 hw sh_61) (px_rf hw rf_61_60) (by decide) ?_
  refine px_bipush dX10_meeting_65 bp_12 ?_
  refine px_iald dX10_meeting_67 (px_sh2 hw sh_89) (by decide) 12 rfl (by decide) ?_
  refine px_iload_n dX10_meeting_68 rfl rfl ?_
  refine px_ishr dX10_meeting_69 ?_
  refine px_iconst dX10_meeting_70 ic_1 ?_
  refine px_iand dX10_meeting_71 ?_
  exact px_ireturn dX10_meeting_72 rfl rfl k1
theorem dX10_brother_0 : decode mX10_brother.2.1 0 = .ok (.aload_n 0, 1) := by decide +kernel
theorem dX10_brother_1 : decode mX10_brother.2.1 1 = .ok (.iload_n 1, 1) := by decide +kernel
theorem dX10_brother_2 : decode mX10_brother.2.1 2 = .ok (.invokevirtual 486, 3) := by decide +kernel
theorem dX10_brother_5 : decode mX10_brother.2.1 5 = .ok (.ifCond .ne 7, 3) := by decide +kernel
theorem dX10_brother_8 : decode mX10_brother.2.1 8 = .ok (.iconst (-1), 1) := by decide +kernel
theorem dX10_brother_9 : decode mX10_brother.2.1 9 = .ok (.goto 31, 3) := by decide +kernel
theorem dX10_brother_12 : decode mX10_brother.2.1 12 = .ok (.iload_n 2, 1) := by decide +kernel
theorem dX10_brother_13 : decode mX10_brother.2.1 13 = .ok (.ifCond .ne 12, 3) := by decide +kernel
theorem dX10_brother_16 : decode mX10_brother.2.1 16 = .ok (.aload_n 0, 1) := by decide +kernel
theorem dX10_brother_17 : decode mX10_brother.2.1 17 = .ok (.getfield 87, 3) := by decide +kernel
theorem dX10_brother_20 : decode mX10_brother.2.1 20 = .ok (.iload_n 1, 1) := by decide +kernel
theorem dX10_brother_21 : decode mX10_brother.2.1 21 = .ok (.iaload, 1) := by decide +kernel
theorem dX10_brother_22 : decode mX10_brother.2.1 22 = .ok (.goto 18, 3) := by decide +kernel
theorem dX10_brother_25 : decode mX10_brother.2.1 25 = .ok (.iload_n 2, 1) := by decide +kernel
theorem dX10_brother_26 : decode mX10_brother.2.1 26 = .ok (.iconst 1, 1) := by decide +kernel
theorem dX10_brother_27 : decode mX10_brother.2.1 27 = .ok (.if_icmp .ne 12, 3) := by decide +kernel
theorem dX10_brother_30 : decode mX10_brother.2.1 30 = .ok (.aload_n 0, 1) := by decide +kernel
theorem dX10_brother_31 : decode mX10_brother.2.1 31 = .ok (.getfield 93, 3) := by decide +kernel
theorem dX10_brother_34 : decode mX10_brother.2.1 34 = .ok (.iload_n 1, 1) := by decide +kernel
theorem dX10_brother_35 : decode mX10_brother.2.1 35 = .ok (.iaload, 1) := by decide +kernel
theorem dX10_brother_36 : decode mX10_brother.2.1 36 = .ok (.goto 4, 3) := by decide +kernel
theorem dX10_brother_39 : decode mX10_brother.2.1 39 = .ok (.iconst (-1), 1) := by decide +kernel
theorem dX10_brother_40 : decode mX10_brother.2.1 40 = .ok (.ireturn, 1) := by decide +kernel
theorem bX10_brother_0 {E : px_E} {d : Nat} {w : pw_W} {Q : Option Value → pw_W → Prop} {t : ct_T} (hw : w.1 = cs t) {x1 x2 : Int32}  
    (k1 : (pX10_isBrother w x1) → ¬ x2 = 0 → ¬ x2 = 1 → px_W E mX10_brother (d + 3) 0 0 40 [.null, .null, .null] [.int (-1)] w Q)
    (k2 : (pX10_isBrother w x1) → ¬ x2 = 0 → x2 = 1 → px_W E mX10_brother (d + 3) 0 0 30 [.ref 61, .int x1, .null] [] w Q)
    (k3 : (pX10_isBrother w x1) → x2 = 0 → px_W E mX10_brother (d + 3) 0 0 16 [.ref 61, .int x1, .null] [] w Q)
    (k4 : ¬ (pX10_isBrother w x1) → px_W E mX10_brother (d + 3) 0 0 40 [.null, .null, .null] [.int (-1)] w Q) :
    px_W E mX10_brother (d + 3) 0 0 0 [.ref 61, .int x1, .int x2] [] w Q := by
  refine px_aload_n dX10_brother_0 rfl rfl ?_
  refine px_iload_n dX10_brother_1 rfl rfl ?_
  refine px_callV (As := [.int x1]) (st := []) (rc := 0) (rs := 0) (mc := 0) (ms := 0) dX10_brother_2 lk_10_486 (px_sh1 hw sh_61) rfl rfl (Nat.le_of_ble_eq_true rfl) (sX10_isBrother (w := w) hw ?_)
  show px_W E mX10_brother (d + 3) 0 0 5 [.ref 61, .int x1, .int x2] [.int (jb (pX10_isBrother w x1))] w Q
  refine px_jb_ne (tgt := 12) dX10_brother_5 (by decide) (fun h1 => ?_) (fun h1 => ?_)
  ·
    refine px_iload_n dX10_brother_12 rfl rfl ?_
    refine px_if_ne (tgt := 25) dX10_brother_13 (by decide) (fun h2 => ?_) (fun h2 => ?_)
    ·
      refine px_iload_n dX10_brother_25 rfl rfl ?_
      refine px_iconst dX10_brother_26 ic_1 ?_
      refine px_icmp_ne (tgt := 39) dX10_brother_27 (by decide) (fun h3 => ?_) (fun h3 => ?_)
      ·
        refine px_iconst dX10_brother_39 ic_m1 ?_
        exact px_forget (k1 h1 h2 h3) ⟨Or.inl rfl, Or.inl rfl, Or.inl rfl, trivial⟩
      ·
        exact px_forget (k2 h1 h2 h3) ⟨Or.inr rfl, Or.inr rfl, Or.inl rfl, trivial⟩
    ·
      exact px_forget (k3 h1 h2) ⟨Or.inr rfl, Or.inr rfl, Or.inl rfl, trivial⟩
  ·
    refine px_iconst dX10_brother_8 ic_m1 ?_
    refine px_goto (tgt := 40) dX10_brother_9 (by decide) ?_
    exact px_forget (k4 h1) ⟨Or.inl rfl, Or.inl rfl, Or.inl rfl, trivial⟩
theorem eX10_brother {E : px_E} {d : Nat} {w : pw_W} {Q : Option Value → pw_W → Prop} {t : ct_T} (hw : w.1 = cs t) {x1 x2 : Int32}  
    (k1 : (pX10_isBrother w x1) → ¬ x2 = 0 → ¬ x2 = 1 → px_W E mX10_brother (d + 3) 0 0 40 [.null, .null, .null] [.int (-1)] w Q)
    (k2 : (pX10_isBrother w x1) → ¬ x2 = 0 → x2 = 1 → px_W E mX10_brother (d + 3) 0 0 30 [.ref 61, .int x1, .null] [] w Q)
    (k3 : (pX10_isBrother w x1) → x2 = 0 → px_W E mX10_brother (d + 3) 0 0 16 [.ref 61, .int x1, .null] [] w Q)
    (k4 : ¬ (pX10_isBrother w x1) → px_W E mX10_brother (d + 3) 0 0 40 [.null, .null, .null] [.int (-1)] w Q) :
    px_Call E (d + 3) 0 0 mX10_brother [.ref 61, .int x1, .int x2] w Q :=
  px_enter (k := 0) (by decide) (Nat.le_of_ble_eq_true rfl) rfl (px_forget (bX10_brother_0 hw k1 k2 k3 k4) ⟨Or.inr rfl, Or.inr rfl, Or.inr rfl, trivial⟩)
theorem bX10_brother_16 {E : px_E} {d : Nat} {w : pw_W} {Q : Option Value → pw_W → Prop} {t : ct_T} (hw : w.1 = cs t) {x1 : Int32}  (j1 : Nat) (hj1 : x1 = nI j1) (hl1 : j1 < 2)
    (k1 : px_W E mX10_brother (d + 3) 0 0 40 [.null, .null, .null] [.int (pw_I w 86 j1)] w Q) :
    px_W E mX10_brother (d + 3) 0 0 16 [.ref 61, .int x1, .null] [] w Q := by
  refine px_aload_n dX10_brother_16 rfl rfl ?_
  refine px_getR (v := 86) dX10_brother_17 fr_10_87 rfl (px_sh1 hw sh_61) (px_rf hw rf_61_42) (by decide) ?_
  refine px_iload_n dX10_brother_20 rfl rfl ?_
  refine px_iald dX10_brother_21 (px_sh2 hw sh_86) (by decide) j1 hj1 hl1 ?_
  refine px_goto (tgt := 40) dX10_brother_22 (by decide) ?_
  exact px_forget k1 ⟨Or.inl rfl, Or.inl rfl, Or.inl rfl, trivial⟩
theorem bX10_brother_30 {E : px_E} {d : Nat} {w : pw_W} {Q : Option Value → pw_W → Prop} {t : ct_T} (hw : w.1 = cs t) {x1 : Int32}  (j1 : Nat) (hj1 : x1 = nI j1) (hl1 : j1 < 2)
    (k1 : px_W E mX10_brother (d + 3) 0 0 40 [.null, .null, .null] [.int (pw_I w 88 j1)] w Q) :
    px_W E mX10_brother (d + 3) 0 0 30 [.ref 61, .int x1, .null] [] w Q := by
  refine px_aload_n dX10_brother_30 rfl rfl ?_
  refine px_getR (v := 88) dX10_brother_31 fr_10_93 rfl (px_sh1 hw sh_61) (px_rf hw rf_61_44) (by decide) ?_
  refine px_iload_n dX10_brother_34 rfl rfl ?_
  refine px_iald dX10_brother_35 (px_sh2 hw sh_88) (by decide) j1 hj1 hl1 ?_
  refine px_goto (tgt := 40) dX10_brother_36 (by decide) ?_
  exact px_forget k1 ⟨Or.inl rfl, Or.inl rfl, Or.inl rfl, trivial⟩
theorem bX10_brother_40 {E : px_E} {d : Nat} {w : pw_W} {Q : Option Value → pw_W → Prop} {t : ct_T} (hw : w.1 = cs t) {y0 : Int32}  
    (k1 : Q (some (.int y0)) w) :
    px_W E mX10_brother (d + 3) 0 0 40 [.null, .null, .null] [.int y0] w Q := by
  exact px_ireturn dX10_brother_40 rfl rfl k1
theorem dX10_round_0 : decode mX10_round.2.1 0 = .ok (.aload_n 0, 1) := by decide +kernel
theorem dX10_round_1 : decode mX10_round.2.1 1 = .ok (.iload_n 1, 1) := by decide +kernel
theorem dX10_round_2 : decode mX10_round.2.1 2 = .ok (.invokevirtual 486, 3) := by decide +kernel
theorem dX10_round_5 : decode mX10_round.2.1 5 = .ok (.ifCond .eq 33, 3) := by decide +kernel
theorem dX10_round_8 : decode mX10_round.2.1 8 = .ok (.iload_n 2, 1) := by decide +kernel
theorem dX10_round_9 : decode mX10_round.2.1 9 = .ok (.iconst 0, 1) := by decide +kernel
theorem dX10_round_10 : decode mX10_round.2.1 10 = .ok (.aload_n 0, 1) := by decide +kernel
theorem dX10_round_11 : decode mX10_round.2.1 11 = .ok (.getfield 93, 3) := by decide +kernel
theorem dX10_round_14 : decode mX10_round.2.1 14 = .ok (.iload_n 1, 1) := by decide +kernel
theorem dX10_round_15 : decode mX10_round.2.1 15 = .ok (.iaload, 1) := by decide +kernel
theorem dX10_round_16 : decode mX10_round.2.1 16 = .ok (.iconst 1, 1) := by decide +kernel
theorem dX10_round_17 : decode mX10_round.2.1 17 = .ok (.isub, 1) := by decide +kernel
theorem dX10_round_18 : decode mX10_round.2.1 18 = .ok (.invokestatic 440, 3) := by decide +kernel
theorem dX10_round_21 : decode mX10_round.2.1 21 = .ok (.ifCond .eq 17, 3) := by decide +kernel
theorem dX10_round_24 : decode mX10_round.2.1 24 = .ok (.aload_n 0, 1) := by decide +kernel
theorem dX10_round_25 : decode mX10_round.2.1 25 = .ok (.getfield 90, 3) := by decide +kernel
theorem dX10_round_28 : decode mX10_round.2.1 28 = .ok (.bipush 6, 2) := by decide +kernel
theorem dX10_round_30 : decode mX10_round.2.1 30 = .ok (.iload_n 1, 1) := by decide +kernel
theorem dX10_round_31 : decode mX10_round.2.1 31 = .ok (.imul, 1) := by decide +kernel
theorem dX10_round_32 : decode mX10_round.2.1 32 = .ok (.iload_n 2, 1) := by decide +kernel
theorem dX10_round_33 : decode mX10_round.2.1 33 = .ok (.iadd, 1) := by decide +kernel
theorem dX10_round_34 : decode mX10_round.2.1 34 = .ok (.iaload, 1) := by decide +kernel
theorem dX10_round_35 : decode mX10_round.2.1 35 = .ok (.goto 4, 3) := by decide +kernel
theorem dX10_round_38 : decode mX10_round.2.1 38 = .ok (.iconst (-1), 1) := by decide +kernel
theorem dX10_round_39 : decode mX10_round.2.1 39 = .ok (.ireturn, 1) := by decide +kernel
theorem bX10_round_0 {E : px_E} {d : Nat} {w : pw_W} {Q : Option Value → pw_W → Prop} {t : ct_T} (hw : w.1 = cs t) {x1 x2 : Int32}  
    (k1 : ¬ (pX10_isBrother w x1) → px_W E mX10_round (d + 3) 0 0 38 [.null, .null, .null] [] w Q)
    (k2 : (pX10_isBrother w x1) → px_W E mX10_round (d + 3) 0 0 8 [.ref 61, .int x1, .int x2] [] w Q) :
    px_W E mX10_round (d + 3) 0 0 0 [.ref 61, .int x1, .int x2] [] w Q := by
  refine px_aload_n dX10_round_0 rfl rfl ?_
  refine px_iload_n dX10_round_1 rfl rfl ?_
  refine px_callV (As := [.int x1]) (st := []) (rc := 0) (rs := 0) (mc := 0) (ms := 0) dX10_round_2 lk_10_486 (px_sh1 hw sh_61) rfl rfl (Nat.le_of_ble_eq_true rfl) (sX10_isBrother (w := w) hw ?_)
  show px_W E mX10_round (d + 3) 0 0 5 [.ref 61, .int x1, .int x2] [.int (jb (pX10_isBrother w x1))] w Q
  refine px_jb_eq (tgt := 38) dX10_round_5 (by decide) (fun h1 => ?_) (fun h1 => ?_)
  ·
    exact px_forget (k1 h1) ⟨Or.inl rfl, Or.inl rfl, Or.inl rfl, trivial⟩
  ·
    exact (k2 h1)
theorem eX10_round {E : px_E} {d : Nat} {w : pw_W} {Q : Option Value → pw_W → Prop} {t : ct_T} (hw : w.1 = cs t) {x1 x2 : Int32}  
    (k1 : ¬ (pX10_isBrother w x1) → px_W E mX10_round (d + 3) 0 0 38 [.null, .null, .null] [] w Q)
    (k2 : (pX10_isBrother w x1) → px_W E mX10_round (d + 3) 0 0 8 [.ref 61, .int x1, .int x2] [] w Q) :
    px_Call E (d + 3) 0 0 mX10_round [.ref 61, .int x1, .int x2] w Q :=
  px_enter (k := 0) (by decide) (Nat.le_of_ble_eq_true rfl) rfl (px_forget (bX10_round_0 hw k1 k2) ⟨Or.inr rfl, Or.inr rfl, Or.inr rfl, trivial⟩)
theorem bX10_round_8 {E : px_E} {d : Nat} {w : pw_W} {Q : Option Value → pw_W → Prop} {t : ct_T} (hw : w.1 = cs t) {x1 x2 : Int32}  (j1 : Nat) (hj1 : x1 = nI j1) (hl1 : j1 < 2)
    (k1 : ¬ (pX10_isIn x2 0 ((pw_I w 88 j1) - 1)) → px_W E mX10_round (d + 3) 0 0 38 [.null, .null, .null] [] w Q)
    (k2 : (pX10_isIn x2 0 ((pw_I w 88 j1) - 1)) → px_W E mX10_round (d + 3) 0 0 24 [.ref 61, .int x1, .int x2] [] w Q) :
    px_W E mX10_round (d + 3) 0 0 8 [.ref 61, .int x1, .int x2] [] w Q := by
  refine px_iload_n dX10_round_8 rfl rfl ?_
  refine px_iconst dX10_round_9 ic_0 ?_
  refine px_aload_n dX10_round_10 rfl rfl ?_
  refine px_getR (v := 88) dX10_round_11 fr_10_93 rfl (px_sh1 hw sh_61) (px_rf hw rf_61_44) (by decide) ?_
  refine px_iload_n dX10_round_14 rfl rfl ?_
  refine px_iald dX10_round_15 (px_sh2 hw sh_88) (by decide) j1 hj1 hl1 ?_
  refine px_iconst dX10_round_16 ic_1 ?_
  refine px_isub dX10_round_17 ?_
  refine px_callS (As := [.int x2, .int 0, .int ((pw_I w 88 j1) - 1)]) (st := []) (rc := 0) (rs := 0) (mc := 0) (ms := 0) dX10_round_18 lk_10_440 rfl rfl (Nat.le_of_ble_eq_true rfl) (sX10_isIn ?_)
  show px_W E mX10_round (d + 3) 0 0 21 [.ref 61, .int x1, .int x2] [.int (jb (pX10_isIn x2 0 ((pw_I w 88 j1) - 1)))] w Q
  refine px_jb_eq (tgt := 38) dX10_round_21 (by decide) (fun h1 => ?_) (fun h1 => ?_)
  ·
    exact px_forget (k1 h1) ⟨Or.inl rfl, Or.inl rfl, Or.inl rfl, trivial⟩
  ·
    exact (k2 h1)
theorem bX10_round_24 {E : px_E} {d : Nat} {w : pw_W} {Q : Option Value → pw_W → Prop} {t : ct_T} (hw : w.1 = cs t) {x1 x2 : Int32}  (j1 : Nat) (hj1 : ((6 * x1) + x2) = nI j1) (hl1 : j1 < 12)
    (k1 : px_W E mX10_round (d + 3) 0 0 39 [.null, .null, .null] [.int (pw_I w 87 j1)] w Q) :
    px_W E mX10_round (d + 3) 0 0 24 [.ref 61, .int x1, .int x2] [] w Q := by
  refine px_aload_n dX10_round_24 rfl rfl ?_
  refine px_getR (v := 87) dX10_round_25 fr_10_90 rfl (px_sh1 hw sh_61) (px_rf hw rf_61_43) (by decide) ?_
  refine px_bipush dX10_round_28 bp_6 ?_
  refine px_iload_n dX10_round_30 rfl rfl ?_
  refine px_imul dX10_round_31 ?_
  refine px_iload_n dX10_round_32 rfl rfl ?_
  refine px_iadd dX10_round_33 ?_
  refine px_iald dX10_round_34 (px_sh2 hw sh_87) (by decide) j1 hj1 hl1 ?_
  refine px_goto (tgt := 39) dX10_round_35 (by decide) ?_
  exact px_forget k1 ⟨Or.inl rfl, Or.inl rfl, Or.inl rfl, trivial⟩
theorem bX10_round_38 {E : px_E} {d : Nat} {w : pw_W} {Q : Option Value → pw_W → Prop} {t : ct_T} (hw : w.1 = cs t)  
    (k1 : px_W E mX10_round (d + 3) 0 0 39 [.null, .null, .null] [.int (-1)] w Q) :
    px_W E mX10_round (d + 3) 0 0 38 [.null, .null, .null] [] w Q := by
  refine px_iconst dX10_round_38 ic_m1 ?_
  exact k1
theorem bX10_round_39 {E : px_E} {d : Nat} {w : pw_W} {Q : Option Value → pw_W → Prop} {t : ct_T} (hw : w.1 = cs t) {y0 : Int32}  
    (k1 : Q (some (.int y0)) w) :
    px_W E mX10_round (d + 3) 0 0 39 [.null, .null, .null] [.int y0] w Q := by
  exact px_ireturn dX10_round_39 rfl rfl k1
theorem dX10_touch_0 : decode mX10_touch.2.1 0 = .ok (.aload_n 0, 1) := by decide +kernel
theorem dX10_touch_1 : decode mX10_touch.2.1 1 = .ok (.iload_n 1, 1) := by decide +kernel
theorem dX10_touch_2 : decode mX10_touch.2.1 2 = .ok (.invokevirtual 483, 3) := by decide +kernel
theorem dX10_touch_5 : decode mX10_touch.2.1 5 = .ok (.ifCond .eq 12, 3) := by decide +kernel
theorem dX10_touch_8 : decode mX10_touch.2.1 8 = .ok (.iload_n 2, 1) := by decide +kernel
theorem dX10_touch_9 : decode mX10_touch.2.1 9 = .ok (.iconst 0, 1) := by decide +kernel
theorem dX10_touch_10 : decode mX10_touch.2.1 10 = .ok (.iconst 1, 1) := by decide +kernel
theorem dX10_touch_11 : decode mX10_touch.2.1 11 = .ok (.invokestatic 440, 3) := by decide +kernel
theorem dX10_touch_14 : decode mX10_touch.2.1 14 = .ok (.ifCond .ne 5, 3) := by decide +kernel
theorem dX10_touch_17 : decode mX10_touch.2.1 17 = .ok (.iconst (-1), 1) := by decide +kernel
theorem dX10_touch_18 : decode mX10_touch.2.1 18 = .ok (.ireturn, 1) := by decide +kernel
theorem dX10_touch_19 : decode mX10_touch.2.1 19 = .ok (.aload_n 0, 1) := by decide +kernel
theorem dX10_touch_20 : decode mX10_touch.2.1 20 = .ok (.invokevirtual 480, 3) := by decide +kernel
theorem dX10_touch_23 : decode mX10_touch.2.1 23 = .ok (.iload_n 2, 1) := by decide +kernel
theorem dX10_touch_24 : decode mX10_touch.2.1 24 = .ok (.ifCond .ne 12, 3) := by decide +kernel
theorem dX10_touch_27 : decode mX10_touch.2.1 27 = .ok (.aload_n 0, 1) := by decide +kernel
theorem dX10_touch_28 : decode mX10_touch.2.1 28 = .ok (.getfield 78, 3) := by decide +kernel
theorem dX10_touch_31 : decode mX10_touch.2.1 31 = .ok (.iload_n 1, 1) := by decide +kernel
theorem dX10_touch_32 : decode mX10_touch.2.1 32 = .ok (.iaload, 1) := by decide +kernel
theorem dX10_touch_33 : decode mX10_touch.2.1 33 = .ok (.goto 9, 3) := by decide +kernel
theorem dX10_touch_36 : decode mX10_touch.2.1 36 = .ok (.aload_n 0, 1) := by decide +kernel
theorem dX10_touch_37 : decode mX10_touch.2.1 37 = .ok (.getfield 81, 3) := by decide +kernel
theorem dX10_touch_40 : decode mX10_touch.2.1 40 = .ok (.iload_n 1, 1) := by decide +kernel
theorem dX10_touch_41 : decode mX10_touch.2.1 41 = .ok (.iaload, 1) := by decide +kernel
theorem dX10_touch_42 : decode mX10_touch.2.1 42 = .ok (.istore_n 3, 1) := by decide +kernel
theorem dX10_touch_43 : decode mX10_touch.2.1 43 = .ok (.iload_n 2, 1) := by decide +kernel
theorem dX10_touch_44 : decode mX10_touch.2.1 44 = .ok (.ifCond .ne 12, 3) := by decide +kernel
theorem dX10_touch_47 : decode mX10_touch.2.1 47 = .ok (.aload_n 0, 1) := by decide +kernel
theorem dX10_touch_48 : decode mX10_touch.2.1 48 = .ok (.getfield 81, 3) := by decide +kernel
theorem dX10_touch_51 : decode mX10_touch.2.1 51 = .ok (.iload_n 1, 1) := by decide +kernel
theorem dX10_touch_52 : decode mX10_touch.2.1 52 = .ok (.iaload, 1) := by decide +kernel
theorem dX10_touch_53 : decode mX10_touch.2.1 53 = .ok (.goto 9, 3) := by decide +kernel
theorem dX10_touch_56 : decode mX10_touch.2.1 56 = .ok (.aload_n 0, 1) := by decide +kernel
theorem dX10_touch_57 : decode mX10_touch.2.1 57 = .ok (.getfield 78, 3) := by decide +kernel
theorem dX10_touch_60 : decode mX10_touch.2.1 60 = .ok (.iload_n 1, 1) := by decide +kernel
theorem dX10_touch_61 : decode mX10_touch.2.1 61 = .ok (.iaload, 1) := by decide +kernel
theorem dX10_touch_62 : decode mX10_touch.2.1 62 = .ok (.istore 4, 2) := by decide +kernel
theorem dX10_touch_64 : decode mX10_touch.2.1 64 = .ok (.aload_n 0, 1) := by decide +kernel
theorem dX10_touch_65 : decode mX10_touch.2.1 65 = .ok (.aload_n 0, 1) := by decide +kernel
theorem dX10_touch_66 : decode mX10_touch.2.1 66 = .ok (.getfield 102, 3) := by decide +kernel
theorem dX10_touch_69 : decode mX10_touch.2.1 69 = .ok (.iload_n 3, 1) := by decide +kernel
theorem dX10_touch_70 : decode mX10_touch.2.1 70 = .ok (.iaload, 1) := by decide +kernel
theorem dX10_touch_71 : decode mX10_touch.2.1 71 = .ok (.aload_n 0, 1) := by decide +kernel
theorem dX10_touch_72 : decode mX10_touch.2.1 72 = .ok (.getfield 102, 3) := by decide +kernel
theorem dX10_touch_75 : decode mX10_touch.2.1 75 = .ok (.iload 4, 2) := by decide +kernel
theorem dX10_touch_77 : decode mX10_touch.2.1 77 = .ok (.iaload, 1) := by decide +kernel
theorem dX10_touch_78 : decode mX10_touch.2.1 78 = .ok (.aload_n 0, 1) := by decide +kernel
theorem dX10_touch_79 : decode mX10_touch.2.1 79 = .ok (.getfield 102, 3) := by decide +kernel
theorem dX10_touch_82 : decode mX10_touch.2.1 82 = .ok (.bipush 6, 2) := by decide +kernel
theorem dX10_touch_84 : decode mX10_touch.2.1 84 = .ok (.iload_n 3, 1) := by decide +kernel
theorem dX10_touch_85 : decode mX10_touch.2.1 85 = .ok (.iadd, 1) := by decide +kernel
theorem dX10_touch_86 : decode mX10_touch.2.1 86 = .ok (.iaload, 1) := by decide +kernel
theorem dX10_touch_87 : decode mX10_touch.2.1 87 = .ok (.invokevirtual 453, 3) := by decide +kernel
theorem dX10_touch_90 : decode mX10_touch.2.1 90 = .ok (.ireturn, 1) := by decide +kernel
theorem bX10_touch_0 {E : px_E} {d : Nat} {w : pw_W} {Q : Option Value → pw_W → Prop} {t : ct_T} (hw : w.1 = cs t) {x1 x2 : Int32}  
    (k1 : ¬ (pX10_isMeeting w x1) → px_W E mX10_touch (d + 3) 0 0 17 [.null, .null, .null, .null, .null] [] w Q)
    (k2 : (pX10_isMeeting w x1) → (pX10_isIn x2 0 1) → px_Call E (d + 2) 0 0 mX10_fill [.ref 61] w (fun v w' => px_W E mX10_touch (d + 3) 0 0 23 [.ref 61, .int x1, .int x2, .null, .null] (v.toList ++ []) w' Q))
    (k3 : (pX10_isMeeting w x1) → ¬ (pX10_isIn x2 0 1) → px_W E mX10_touch (d + 3) 0 0 17 [.null, .null, .null, .null, .null] [] w Q) :
    px_W E mX10_touch (d + 3) 0 0 0 [.ref 61, .int x1, .int x2, .null, .null] [] w Q := by
  refine px_aload_n dX10_touch_0 rfl rfl ?_
  refine px_iload_n dX10_touch_1 rfl rfl ?_
  refine px_callV (As := [.int x1]) (st := []) (rc := 0) (rs := 0) (mc := 0) (ms := 0) dX10_touch_2 lk_10_483 (px_sh1 hw sh_61) rfl rfl (Nat.le_of_ble_eq_true rfl) (sX10_isMeeting (w := w) hw ?_)
  show px_W E mX10_touch (d + 3) 0 0 5 [.ref 61, .int x1, .int x2, .null, .null] [.int (jb (pX10_isMeeting w x1))] w Q
  refine px_jb_eq (tgt := 17) dX10_touch_5 (by decide) (fun h1 => ?_) (fun h1 => ?_)
  ·
    exact px_forget (k1 h1) ⟨Or.inl rfl, Or.inl rfl, Or.inl rfl, Or.inl rfl, Or.inl rfl, trivial⟩
  ·
    refine px_iload_n dX10_touch_8 rfl rfl ?_
    refine px_iconst dX10_touch_9 ic_0 ?_
    refine px_iconst dX10_touch_10 ic_1 ?_
    refine px_callS (As := [.int x2, .int 0, .int 1]) (st := []) (rc := 0) (rs := 0) (mc := 0) (ms := 0) dX10_touch_11 lk_10_440 rfl rfl (Nat.le_of_ble_eq_true rfl) (sX10_isIn ?_)
    show px_W E mX10_touch (d + 3) 0 0 14 [.ref 61, .int x1, .int x2, .null, .null] [.int (jb (pX10_isIn x2 0 1))] w Q
    refine px_jb_ne (tgt := 19) dX10_touch_14 (by decide) (fun h2 => ?_) (fun h2 => ?_)
    ·
      refine px_aload_n dX10_touch_19 rfl rfl ?_
      exact px_callV (As := []) (st := []) (rc := 0) (rs := 0) (mc := 0) (ms := 0) dX10_touch_20 lk_10_480 (px_sh1 hw sh_61) rfl rfl (Nat.le_of_ble_eq_true rfl) (k2 h1 h2)
    ·
      exact px_forget (k3 h1 h2) ⟨Or.inl rfl, Or.inl rfl, Or.inl rfl, Or.inl rfl, Or.inl rfl, trivial⟩
theorem eX10_touch {E : px_E} {d : Nat} {w : pw_W} {Q : Option Value → pw_W → Prop} {t : ct_T} (hw : w.1 = cs t) {x1 x2 : Int32}  
    (k1 : ¬ (pX10_isMeeting w x1) → px_W E mX10_touch (d + 3) 0 0 17 [.null, .null, .null, .null, .null] [] w Q)
    (k2 : (pX10_isMeeting w x1) → (pX10_isIn x2 0 1) → px_Call E (d + 2) 0 0 mX10_fill [.ref 61] w (fun v w' => px_W E mX10_touch (d + 3) 0 0 23 [.ref 61, .int x1, .int x2, .null, .null] (v.toList ++ []) w' Q))
    (k3 : (pX10_isMeeting w x1) → ¬ (pX10_isIn x2 0 1) → px_W E mX10_touch (d + 3) 0 0 17 [.null, .null, .null, .null, .null] [] w Q) :
    px_Call E (d + 3) 0 0 mX10_touch [.ref 61, .int x1, .int x2] w Q :=
  px_enter (k := 2) (by decide) (Nat.le_of_ble_eq_true rfl) rfl (px_forget (bX10_touch_0 hw k1 k2 k3) ⟨Or.inr rfl, Or.inr rfl, Or.inr rfl, Or.inl rfl, Or.inl rfl, trivial⟩)
theorem bX10_touch_17 {E : px_E} {d : Nat} {w : pw_W} {Q : Option Value → pw_W → Prop} {t : ct_T} (hw : w.1 = cs t)  
    (k1 : Q (some (.int (-1))) w) :
    px_W E mX10_touch (d + 3) 0 0 17 [.null, .null, .null, .null, .null] [] w Q := by
  refine px_iconst dX10_touch_17 ic_m1 ?_
  exact px_ireturn dX10_touch_18 rfl rfl k1
theorem bX10_touch_23 {E : px_E} {d : Nat} {w : pw_W} {Q : Option Value → pw_W → Prop} {t : ct_T} (hw : w.1 = cs t) {x1 x2 : Int32}  
    (k1 : ¬ x2 = 0 → px_W E mX10_touch (d + 3) 0 0 36 [.ref 61, .int x1, .int x2, .null, .null] [] w Q)
    (k2 : x2 = 0 → px_W E mX10_touch (d + 3) 0 0 27 [.ref 61, .int x1, .int x2, .null, .null] [] w Q) :
    px_W E mX10_touch (d + 3) 0 0 23 [.ref 61, .int x1, .int x2, .null, .null] [] w Q := by
  refine px_iload_n dX10_touch_23 rfl rfl ?_
  refine px_if_ne (tgt := 36) dX10_touch_24 (by decide) (fun h1 => ?_) (fun h1 => ?_)
  ·
    exact (k1 h1)
  ·
    exact (k2 h1)
theorem bX10_touch_27 {E : px_E} {d : Nat} {w : pw_W} {Q : Option Value → pw_W → Prop} {t : ct_T} (hw : w.1 = cs t) {x1 x2 : Int32}  (j1 : Nat) (hj1 : x1 = nI j1) (hl1 : j1 < 9)
    (k1 : px_W E mX10_touch (d + 3) 0 0 42 [.ref 61, .int x1, .int x2, .null, .null] [.int (pw_I w 83 j1)] w Q) :
    px_W E mX10_touch (d + 3) 0 0 27 [.ref 61, .int x1, .int x2, .null, .null] [] w Q := by
  refine px_aload_n dX10_touch_27 rfl rfl ?_
  refine px_getR (v := 83) dX10_touch_28 fr_10_78 rfl (px_sh1 hw sh_61) (px_rf hw rf_61_39) (by decide) ?_
  refine px_iload_n dX10_touch_31 rfl rfl ?_
  refine px_iald dX10_touch_32 (px_sh2 hw sh_83) (by decide) j1 hj1 hl1 ?_
  refine px_goto (tgt := 42) dX10_touch_33 (by decide) ?_
  exact k1
theorem bX10_touch_36 {E : px_E} {d : Nat} {w : pw_W} {Q : Option Value → pw_W → Prop} {t : ct_T} (hw : w.1 = cs t) {x1 x2 : Int32}  (j1 : Nat) (hj1 : x1 = nI j1) (hl1 : j1 < 9)
    (k1 : px_W E mX10_touch (d + 3) 0 0 42 [.ref 61, .int x1, .int x2, .null, .null] [.int (pw_I w 84 j1)] w Q) :
    px_W E mX10_touch (d + 3) 0 0 36 [.ref 61, .int x1, .int x2, .null, .null] [] w Q := by
  refine px_aload_n dX10_touch_36 rfl rfl ?_
  refine px_getR (v := 84) dX10_touch_37 fr_10_81 rfl (px_sh1 hw sh_61) (px_rf hw rf_61_40) (by decide) ?_
  refine px_iload_n dX10_touch_40 rfl rfl ?_
  refine px_iald dX10_touch_41 (px_sh2 hw sh_84) (by decide) j1 hj1 hl1 ?_
  exact k1
theorem bX10_touch_42 {E : px_E} {d : Nat} {w : pw_W} {Q : Option Value → pw_W → Prop} {t : ct_T} (hw : w.1 = cs t) {x1 x2 y0 : Int32}  
    (k1 : ¬ x2 = 0 → px_W E mX10_touch (d + 3) 0 0 56 [.ref 61, .int x1, .null, .int y0, .null] [] w Q)
    (k2 : x2 = 0 → px_W E mX10_touch (d + 3) 0 0 47 [.ref 61, .int x1, .null, .int y0, .null] [] w Q) :
    px_W E mX10_touch (d + 3) 0 0 42 [.ref 61, .int x1, .int x2, .null, .null] [.int y0] w Q := by
  refine px_istore_n (ls' := [.ref 61, .int x1, .int x2, .int y0, .null]) dX10_touch_42 rfl ⟨by decide, rfl⟩ rfl ?_
  refine px_iload_n dX10_touch_43 rfl rfl ?_
  refine px_if_ne (tgt := 56) dX10_touch_44 (by decide) (fun h1 => ?_) (fun h1 => ?_)
  ·
    exact px_forget (k1 h1) ⟨Or.inr rfl, Or.inr rfl, Or.inl rfl, Or.inr rfl, Or.inl rfl, trivial⟩
  ·
    exact px_forget (k2 h1) ⟨Or.inr rfl, Or.inr rfl, Or.inl rfl, Or.inr rfl, Or.inl rfl, trivial⟩
theorem bX10_touch_47 {E : px_E} {d : Nat} {w : pw_W} {Q : Option Value → pw_W → Prop} {t : ct_T} (hw : w.1 = cs t) {x1 x3 : Int32}  (j1 : Nat) (hj1 : x1 = nI j1) (hl1 : j1 < 9)
    (k1 : px_W E mX10_touch (d + 3) 0 0 62 [.ref 61, .null, .null, .int x3, .null] [.int (pw_I w 84 j1)] w Q) :
    px_W E mX10_touch (d + 3) 0 0 47 [.ref 61, .int x1, .null, .int x3, .null] [] w Q := by
  refine px_aload_n dX10_touch_47 rfl rfl ?_
  refine px_getR (v := 84) dX10_touch_48 fr_10_81 rfl (px_sh1 hw sh_61) (px_rf hw rf_61_40) (by decide) ?_
  refine px_iload_n dX10_touch_51 rfl rfl ?_
  refine px_iald dX10_touch_52 (px_sh2 hw sh_84) (by decide) j1 hj1 hl1 ?_
  refine px_goto (tgt := 62) dX10_touch_53 (by decide) ?_
  exact px_forget k1 ⟨Or.inr rfl, Or.inl rfl, Or.inl rfl, Or.inr rfl, Or.inl rfl, trivial⟩
theorem bX10_touch_56 {E : px_E} {d : Nat} {w : pw_W} {Q : Option Value → pw_W → Prop} {t : ct_T} (hw : w.1 = cs t) {x1 x3 : Int32}  (j1 : Nat) (hj1 : x1 = nI j1) (hl1 : j1 < 9)
    (k1 : px_W E mX10_touch (d + 3) 0 0 62 [.ref 61, .null, .null, .int x3, .null] [.int (pw_I w 83 j1)] w Q) :
    px_W E mX10_touch (d + 3) 0 0 56 [.ref 61, .int x1, .null, .int x3, .null] [] w Q := by
  refine px_aload_n dX10_touch_56 rfl rfl ?_
  refine px_getR (v := 83) dX10_touch_57 fr_10_78 rfl (px_sh1 hw sh_61) (px_rf hw rf_61_39) (by decide) ?_
  refine px_iload_n dX10_touch_60 rfl rfl ?_
  refine px_iald dX10_touch_61 (px_sh2 hw sh_83) (by decide) j1 hj1 hl1 ?_
  exact px_forget k1 ⟨Or.inr rfl, Or.inl rfl, Or.inl rfl, Or.inr rfl, Or.inl rfl, trivial⟩
theorem bX10_touch_62 {E : px_E} {d : Nat} {w : pw_W} {Q : Option Value → pw_W → Prop} {t : ct_T} (hw : w.1 = cs t) {x3 y0 : Int32}  (j1 : Nat) (hj1 : x3 = nI j1) (hl1 : j1 < 15) (j2 : Nat) (hj2 : y0 = nI j2) (hl2 : j2 < 15) (j3 : Nat) (hj3 : (6 + x3) = nI j3) (hl3 : j3 < 15)
    (k1 : px_Call E (d + 2) 0 0 mX10_touchOf [.ref 61, .int (pw_I w 90 j1), .int (pw_I w 90 j2), .int (pw_I w 90 j3)] w (fun v w' => px_W E mX10_touch (d + 3) 0 0 90 [.null, .null, .null, .null, .null] (v.toList ++ []) w' Q)) :
    px_W E mX10_touch (d + 3) 0 0 62 [.ref 61, .null, .null, .int x3, .null] [.int y0] w Q := by
  refine px_istore (ls' := [.ref 61, .null, .null, .int x3, .int y0]) dX10_touch_62 ⟨by decide, rfl⟩ rfl ?_
  refine px_aload_n dX10_touch_64 rfl rfl ?_
  refine px_aload_n dX10_touch_65 rfl rfl ?_
  refine px_getR (v := 90) dX10_touch_66 fr_10_102 rfl (px_sh1 hw sh_61) (px_rf hw rf_61_61) (by decide) ?_
  refine px_iload_n dX10_touch_69 rfl rfl ?_
  refine px_iald dX10_touch_70 (px_sh2 hw sh_90) (by decide) j1 hj1 hl1 ?_
  refine px_aload_n dX10_touch_71 rfl rfl ?_
  refine px_getR (v := 90) dX10_touch_72 fr_10_102 rfl (px_sh1 hw sh_61) (px_rf hw rf_61_61) (by decide) ?_
  refine px_iload dX10_touch_75 rfl ?_
  refine px_iald dX10_touch_77 (px_sh2 hw sh_90) (by decide) j2 hj2 hl2 ?_
  refine px_aload_n dX10_touch_78 rfl rfl ?_
  refine px_getR (v := 90) dX10_touch_79 fr_10_102 rfl (px_sh1 hw sh_61) (px_rf hw rf_61_61) (by decide) ?_
  refine px_bipush dX10_touch_82 bp_6 ?_
  refine px_iload_n dX10_touch_84 rfl rfl ?_
  refine px_iadd dX10_touch_85 ?_
  refine px_iald dX10_touch_86 (px_sh2 hw sh_90) (by decide) j3 hj3 hl3 ?_
  refine px_forget (ls' := [.null, .null, .null, .null, .null]) ?_ ⟨Or.inl rfl, Or.inl rfl, Or.inl rfl, Or.inl rfl, Or.inl rfl, trivial⟩
  exact px_callV (As := [.int (pw_I w 90 j1), .int (pw_I w 90 j2), .int (pw_I w 90 j3)]) (st := []) (rc := 0) (rs := 0) (mc := 0) (ms := 0) dX10_touch_87 lk_10_453 (px_sh1 hw sh_61) rfl rfl (Nat.le_of_ble_eq_true rfl) k1
theorem bX10_touch_90 {E : px_E} {d : Nat} {w : pw_W} {Q : Option Value → pw_W → Prop} {t : ct_T} (hw : w.1 = cs t) {y0 : Int32}  
    (k1 : Q (some (.int y0)) w) :
    px_W E mX10_touch (d + 3) 0 0 90 [.null, .null, .null, .null, .null] [.int y0] w Q := by
  exact px_ireturn dX10_touch_90 rfl rfl k1
theorem dX10_abed_0 : decode mX10_abed.2.1 0 = .ok (.aload_n 0, 1) := by decide +kernel
theorem dX10_abed_1 : decode mX10_abed.2.1 1 = .ok (.invokevirtual 480, 3) := by decide +kernel
theorem dX10_abed_4 : decode mX10_abed.2.1 4 = .ok (.aload_n 0, 1) := by decide +kernel
theorem dX10_abed_5 : decode mX10_abed.2.1 5 = .ok (.invokevirtual 489, 3) := by decide +kernel
theorem dX10_abed_8 : decode mX10_abed.2.1 8 = .ok (.ireturn, 1) := by decide +kernel
theorem bX10_abed_0 {E : px_E} {d : Nat} {w : pw_W} {Q : Option Value → pw_W → Prop} {t : ct_T} (hw : w.1 = cs t)  
    (k1 : px_Call E d 0 0 mX10_fill [.ref 61] w (fun v w' => px_W E mX10_abed (d + 1) 0 0 4 [.ref 61] (v.toList ++ []) w' Q)) :
    px_W E mX10_abed (d + 1) 0 0 0 [.ref 61] [] w Q := by
  refine px_aload_n dX10_abed_0 rfl rfl ?_
  exact px_callV (As := []) (st := []) (rc := 0) (rs := 0) (mc := 0) (ms := 0) dX10_abed_1 lk_10_480 (px_sh1 hw sh_61) rfl rfl (Nat.le_of_ble_eq_true rfl) k1
theorem eX10_abed {E : px_E} {d : Nat} {w : pw_W} {Q : Option Value → pw_W → Prop} {t : ct_T} (hw : w.1 = cs t)  
    (k1 : px_Call E d 0 0 mX10_fill [.ref 61] w (fun v w' => px_W E mX10_abed (d + 1) 0 0 4 [.ref 61] (v.toList ++ []) w' Q)) :
    px_Call E (d + 1) 0 0 mX10_abed [.ref 61] w Q :=
  px_enter (k := 0) (by decide) (Nat.le_of_ble_eq_true rfl) rfl (px_forget (bX10_abed_0 hw k1) ⟨Or.inr rfl, trivial⟩)
theorem bX10_abed_4 {E : px_E} {d : Nat} {w : pw_W} {Q : Option Value → pw_W → Prop} {t : ct_T} (hw : w.1 = cs t)  
    (k1 : px_Call E d 0 0 mX10_abedOnes [.ref 61] w (fun v w' => px_W E mX10_abed (d + 1) 0 0 8 [.null] (v.toList ++ []) w' Q)) :
    px_W E mX10_abed (d + 1) 0 0 4 [.ref 61] [] w Q := by
  refine px_aload_n dX10_abed_4 rfl rfl ?_
  refine px_forget (ls' := [.null]) ?_ ⟨Or.inl rfl, trivial⟩
  exact px_callV (As := []) (st := []) (rc := 0) (rs := 0) (mc := 0) (ms := 0) dX10_abed_5 lk_10_489 (px_sh1 hw sh_61) rfl rfl (Nat.le_of_ble_eq_true rfl) k1
theorem bX10_abed_8 {E : px_E} {d : Nat} {w : pw_W} {Q : Option Value → pw_W → Prop} {t : ct_T} (hw : w.1 = cs t) {y0 : Int32}  
    (k1 : Q (some (.int y0)) w) :
    px_W E mX10_abed (d + 1) 0 0 8 [.null] [.int y0] w Q := by
  exact px_ireturn dX10_abed_8 rfl rfl k1
theorem dX10_act_0 : decode mX10_act.2.1 0 = .ok (.aload_n 0, 1) := by decide +kernel
theorem dX10_act_1 : decode mX10_act.2.1 1 = .ok (.getfield 428, 3) := by decide +kernel
theorem dX10_act_4 : decode mX10_act.2.1 4 = .ok (.bipush 40, 2) := by decide +kernel
theorem dX10_act_6 : decode mX10_act.2.1 6 = .ok (.if_icmp .ne 43, 3) := by decide +kernel
theorem dX10_act_9 : decode mX10_act.2.1 9 = .ok (.iconst 0, 1) := by decide +kernel
theorem dX10_act_10 : decode mX10_act.2.1 10 = .ok (.istore_n 1, 1) := by decide +kernel
theorem dX10_act_11 : decode mX10_act.2.1 11 = .ok (.iload_n 1, 1) := by decide +kernel
theorem dX10_act_12 : decode mX10_act.2.1 12 = .ok (.sipush 585, 3) := by decide +kernel
theorem dX10_act_15 : decode mX10_act.2.1 15 = .ok (.if_icmp .ge 24, 3) := by decide +kernel
theorem dX10_act_18 : decode mX10_act.2.1 18 = .ok (.aload_n 0, 1) := by decide +kernel
theorem dX10_act_19 : decode mX10_act.2.1 19 = .ok (.getfield 105, 3) := by decide +kernel
theorem dX10_act_22 : decode mX10_act.2.1 22 = .ok (.iload_n 1, 1) := by decide +kernel
theorem dX10_act_23 : decode mX10_act.2.1 23 = .ok (.aload_n 0, 1) := by decide +kernel
theorem dX10_act_24 : decode mX10_act.2.1 24 = .ok (.getfield 105, 3) := by decide +kernel
theorem dX10_act_27 : decode mX10_act.2.1 27 = .ok (.bipush 15, 2) := by decide +kernel
theorem dX10_act_29 : decode mX10_act.2.1 29 = .ok (.iload_n 1, 1) := by decide +kernel
theorem dX10_act_30 : decode mX10_act.2.1 30 = .ok (.iadd, 1) := by decide +kernel
theorem dX10_act_31 : decode mX10_act.2.1 31 = .ok (.iaload, 1) := by decide +kernel
theorem dX10_act_32 : decode mX10_act.2.1 32 = .ok (.iastore, 1) := by decide +kernel
theorem dX10_act_33 : decode mX10_act.2.1 33 = .ok (.iinc 1 1, 3) := by decide +kernel
theorem dX10_act_36 : decode mX10_act.2.1 36 = .ok (.goto (-25), 3) := by decide +kernel
theorem dX10_act_39 : decode mX10_act.2.1 39 = .ok (.aload_n 0, 1) := by decide +kernel
theorem dX10_act_40 : decode mX10_act.2.1 40 = .ok (.dup, 1) := by decide +kernel
theorem dX10_act_41 : decode mX10_act.2.1 41 = .ok (.getfield 428, 3) := by decide +kernel
theorem dX10_act_44 : decode mX10_act.2.1 44 = .ok (.iconst 1, 1) := by decide +kernel
theorem dX10_act_45 : decode mX10_act.2.1 45 = .ok (.isub, 1) := by decide +kernel
theorem dX10_act_46 : decode mX10_act.2.1 46 = .ok (.putfield 428, 3) := by decide +kernel
theorem dX10_act_49 : decode mX10_act.2.1 49 = .ok (.iconst 0, 1) := by decide +kernel
theorem dX10_act_50 : decode mX10_act.2.1 50 = .ok (.istore_n 1, 1) := by decide +kernel
theorem dX10_act_51 : decode mX10_act.2.1 51 = .ok (.iload_n 1, 1) := by decide +kernel
theorem dX10_act_52 : decode mX10_act.2.1 52 = .ok (.bipush 15, 2) := by decide +kernel
theorem dX10_act_54 : decode mX10_act.2.1 54 = .ok (.if_icmp .ge 29, 3) := by decide +kernel
theorem dX10_act_57 : decode mX10_act.2.1 57 = .ok (.aload_n 0, 1) := by decide +kernel
theorem dX10_act_58 : decode mX10_act.2.1 58 = .ok (.getfield 105, 3) := by decide +kernel
theorem dX10_act_61 : decode mX10_act.2.1 61 = .ok (.bipush 15, 2) := by decide +kernel
theorem dX10_act_63 : decode mX10_act.2.1 63 = .ok (.aload_n 0, 1) := by decide +kernel
theorem dX10_act_64 : decode mX10_act.2.1 64 = .ok (.getfield 428, 3) := by decide +kernel
theorem dX10_act_67 : decode mX10_act.2.1 67 = .ok (.imul, 1) := by decide +kernel
theorem dX10_act_68 : decode mX10_act.2.1 68 = .ok (.iload_n 1, 1) := by decide +kernel
theorem dX10_act_69 : decode mX10_act.2.1 69 = .ok (.iadd, 1) := by decide +kernel
theorem dX10_act_70 : decode mX10_act.2.1 70 = .ok (.aload_n 0, 1) := by decide +kernel
theorem dX10_act_71 : decode mX10_act.2.1 71 = .ok (.getfield 99, 3) := by decide +kernel
theorem dX10_act_74 : decode mX10_act.2.1 74 = .ok (.iload_n 1, 1) := by decide +kernel
theorem dX10_act_75 : decode mX10_act.2.1 75 = .ok (.iaload, 1) := by decide +kernel
theorem dX10_act_76 : decode mX10_act.2.1 76 = .ok (.iastore, 1) := by decide +kernel
theorem dX10_act_77 : decode mX10_act.2.1 77 = .ok (.iinc 1 1, 3) := by decide +kernel
theorem dX10_act_80 : decode mX10_act.2.1 80 = .ok (.goto (-29), 3) := by decide +kernel
theorem dX10_act_83 : decode mX10_act.2.1 83 = .ok (.aload_n 0, 1) := by decide +kernel
theorem dX10_act_84 : decode mX10_act.2.1 84 = .ok (.dup, 1) := by decide +kernel
theorem dX10_act_85 : decode mX10_act.2.1 85 = .ok (.getfield 428, 3) := by decide +kernel
theorem dX10_act_88 : decode mX10_act.2.1 88 = .ok (.iconst 1, 1) := by decide +kernel
theorem dX10_act_89 : decode mX10_act.2.1 89 = .ok (.iadd, 1) := by decide +kernel
theorem dX10_act_90 : decode mX10_act.2.1 90 = .ok (.putfield 428, 3) := by decide +kernel
theorem dX10_act_93 : decode mX10_act.2.1 93 = .ok (.aload_n 0, 1) := by decide +kernel
theorem dX10_act_94 : decode mX10_act.2.1 94 = .ok (.iconst 0, 1) := by decide +kernel
theorem dX10_act_95 : decode mX10_act.2.1 95 = .ok (.putfield 431, 3) := by decide +kernel
theorem dX10_act_98 : decode mX10_act.2.1 98 = .ok (.aload_n 0, 1) := by decide +kernel
theorem dX10_act_99 : decode mX10_act.2.1 99 = .ok (.invokevirtual 480, 3) := by decide +kernel
theorem dX10_act_102 : decode mX10_act.2.1 102 = .ok (.return_, 1) := by decide +kernel
theorem bX10_act_0 {E : px_E} {d : Nat} {w : pw_W} {Q : Option Value → pw_W → Prop} {t : ct_T} (hw : w.1 = cs t)  
    (k1 : ¬ (pw_I w 61 63) = 40 → px_W E mX10_act (d + 1) 0 0 49 [.ref 61, .null] [] w Q)
    (k2 : (pw_I w 61 63) = 40 → px_W E mX10_act (d + 1) 0 0 11 [.ref 61, .int 0] [] w Q) :
    px_W E mX10_act (d + 1) 0 0 0 [.ref 61, .null] [] w Q := by
  refine px_aload_n dX10_act_0 rfl rfl ?_
  refine px_getI dX10_act_1 fr_10_428 rfl (px_sh1 hw sh_61) ?_
  refine px_bipush dX10_act_4 bp_40 ?_
  refine px_icmp_ne (tgt := 49) dX10_act_6 (by decide) (fun h1 => ?_) (fun h1 => ?_)
  ·
    exact (k1 h1)
  ·
    refine px_iconst dX10_act_9 ic_0 ?_
    refine px_istore_n (ls' := [.ref 61, .int 0]) dX10_act_10 rfl ⟨by decide, rfl⟩ rfl ?_
    exact (k2 h1)
theorem eX10_act {E : px_E} {d : Nat} {w : pw_W} {Q : Option Value → pw_W → Prop} {t : ct_T} (hw : w.1 = cs t)  
    (k1 : ¬ (pw_I w 61 63) = 40 → px_W E mX10_act (d + 1) 0 0 49 [.ref 61, .null] [] w Q)
    (k2 : (pw_I w 61 63) = 40 → px_W E mX10_act (d + 1) 0 0 11 [.ref 61, .int 0] [] w Q) :
    px_Call E (d + 1) 0 0 mX10_act [.ref 61] w Q :=
  px_enter (k := 1) (by decide) (Nat.le_of_ble_eq_true rfl) rfl (px_forget (bX10_act_0 hw k1 k2) ⟨Or.inr rfl, Or.inl rfl, trivial⟩)
theorem bX10_act_11 {E : px_E} {d : Nat} {w : pw_W} {Q : Option Value → pw_W → Prop} {t : ct_T} (hw : w.1 = cs t) {x1 : Int32}  
    (k1 : 585 ≤ x1 → px_W E mX10_act (d + 1) 0 0 49 [.ref 61, .null] [] (pw_sI w 61 63 ((pw_I w 61 63) - 1)) Q)
    (k2 : ¬ 585 ≤ x1 → px_W E mX10_act (d + 1) 0 0 18 [.ref 61, .int x1] [] w Q) :
    px_W E mX10_act (d + 1) 0 0 11 [.ref 61, .int x1] [] w Q := by
  refine px_iload_n dX10_act_11 rfl rfl ?_
  refine px_sipush dX10_act_12 sp_585 ?_
  refine px_icmp_ge (tgt := 39) dX10_act_15 (by decide) (fun h1 => ?_) (fun h1 => ?_)
  ·
    refine px_aload_n dX10_act_39 rfl rfl ?_
    refine px_dup dX10_act_40 rfl ?_
    refine px_getI dX10_act_41 fr_10_428 rfl (px_sh1 hw sh_61) ?_
    refine px_iconst dX10_act_44 ic_1 ?_
    refine px_isub dX10_act_45 ?_
    refine px_putI dX10_act_46 fl_10_428 (Or.inl rfl) rfl (px_sh1 hw sh_61) rfl rfl (by omega) ?_
    exact px_forget (k1 h1) ⟨Or.inr rfl, Or.inl rfl, trivial⟩
  ·
    exact (k2 h1)
theorem bX10_act_18 {E : px_E} {d : Nat} {w : pw_W} {Q : Option Value → pw_W → Prop} {t : ct_T} (hw : w.1 = cs t) {x1 : Int32}  (j1 : Nat) (hj1 : (15 + x1) = nI j1) (hl1 : j1 < 600) (j2 : Nat) (hj2 : x1 = nI j2) (hl2 : j2 < 600)
    (k1 : px_W E mX10_act (d + 1) 0 0 11 [.ref 61, .int (x1 + 1)] [] (pw_sI w 91 j2 (pw_I w 91 j1)) Q) :
    px_W E mX10_act (d + 1) 0 0 18 [.ref 61, .int x1] [] w Q := by
  refine px_aload_n dX10_act_18 rfl rfl ?_
  refine px_getR (v := 91) dX10_act_19 fr_10_105 rfl (px_sh1 hw sh_61) (px_rf hw rf_61_62) (by decide) ?_
  refine px_iload_n dX10_act_22 rfl rfl ?_
  refine px_aload_n dX10_act_23 rfl rfl ?_
  refine px_getR (v := 91) dX10_act_24 fr_10_105 rfl (px_sh1 hw sh_61) (px_rf hw rf_61_62) (by decide) ?_
  refine px_bipush dX10_act_27 bp_15 ?_
  refine px_iload_n dX10_act_29 rfl rfl ?_
  refine px_iadd dX10_act_30 ?_
  refine px_iald dX10_act_31 (px_sh2 hw sh_91) (by decide) j1 hj1 hl1 ?_
  refine px_iast dX10_act_32 (px_sh2 hw sh_91) (by decide) j2 hj2 hl2 (by omega) ?_
  refine px_iinc (ls' := [.ref 61, .int (x1 + 1)]) dX10_act_33 ⟨by decide, rfl⟩ rfl rfl rfl ?_
  refine px_goto (tgt := 11) dX10_act_36 (by decide) ?_
  exact k1
theorem bX10_act_49 {E : px_E} {d : Nat} {w : pw_W} {Q : Option Value → pw_W → Prop} {t : ct_T} (hw : w.1 = cs t)  
    (k1 : px_W E mX10_act (d + 1) 0 0 51 [.ref 61, .int 0] [] w Q) :
    px_W E mX10_act (d + 1) 0 0 49 [.ref 61, .null] [] w Q := by
  refine px_iconst dX10_act_49 ic_0 ?_
  refine px_istore_n (ls' := [.ref 61, .int 0]) dX10_act_50 rfl ⟨by decide, rfl⟩ rfl ?_
  exact k1
theorem bX10_act_51 {E : px_E} {d : Nat} {w : pw_W} {Q : Option Value → pw_W → Prop} {t : ct_T} (hw : w.1 = cs t) {x1 : Int32}  
    (k1 : 15 ≤ x1 → px_Call E d 0 0 mX10_fill [.ref 61] (pw_sI (pw_sI w 61 63 ((pw_I w 61 63) + 1)) 61 64 0) (fun v w' => px_W E mX10_act (d + 1) 0 0 102 [.null, .null] (v.toList ++ []) w' Q))
    (k2 : ¬ 15 ≤ x1 → px_W E mX10_act (d + 1) 0 0 57 [.ref 61, .int x1] [] w Q) :
    px_W E mX10_act (d + 1) 0 0 51 [.ref 61, .int x1] [] w Q := by
  refine px_iload_n dX10_act_51 rfl rfl ?_
  refine px_bipush dX10_act_52 bp_15 ?_
  refine px_icmp_ge (tgt := 83) dX10_act_54 (by decide) (fun h1 => ?_) (fun h1 => ?_)
  ·
    refine px_aload_n dX10_act_83 rfl rfl ?_
    refine px_dup dX10_act_84 rfl ?_
    refine px_getI dX10_act_85 fr_10_428 rfl (px_sh1 hw sh_61) ?_
    refine px_iconst dX10_act_88 ic_1 ?_
    refine px_iadd dX10_act_89 ?_
    refine px_putI dX10_act_90 fl_10_428 (Or.inl rfl) rfl (px_sh1 hw sh_61) rfl rfl (by omega) ?_
    refine px_aload_n dX10_act_93 rfl rfl ?_
    refine px_iconst dX10_act_94 ic_0 ?_
    refine px_putI dX10_act_95 fl_10_431 (Or.inl rfl) rfl (px_sh1 (hI hw) sh_61) rfl rfl (by omega) ?_
    refine px_aload_n dX10_act_98 rfl rfl ?_
    refine px_forget (ls' := [.null, .null]) ?_ ⟨Or.inl rfl, Or.inl rfl, trivial⟩
    exact px_callV (As := []) (st := []) (rc := 0) (rs := 0) (mc := 0) (ms := 0) dX10_act_99 lk_10_480 (px_sh1 (hI (hI hw)) sh_61) rfl rfl (Nat.le_of_ble_eq_true rfl) (k1 h1)
  ·
    exact (k2 h1)
theorem bX10_act_57 {E : px_E} {d : Nat} {w : pw_W} {Q : Option Value → pw_W → Prop} {t : ct_T} (hw : w.1 = cs t) {x1 : Int32}  (j1 : Nat) (hj1 : x1 = nI j1) (hl1 : j1 < 15) (j2 : Nat) (hj2 : ((15 * (pw_I w 61 63)) + x1) = nI j2) (hl2 : j2 < 600)
    (k1 : px_W E mX10_act (d + 1) 0 0 51 [.ref 61, .int (x1 + 1)] [] (pw_sI w 91 j2 (pw_I w 89 j1)) Q) :
    px_W E mX10_act (d + 1) 0 0 57 [.ref 61, .int x1] [] w Q := by
  refine px_aload_n dX10_act_57 rfl rfl ?_
  refine px_getR (v := 91) dX10_act_58 fr_10_105 rfl (px_sh1 hw sh_61) (px_rf hw rf_61_62) (by decide) ?_
  refine px_bipush dX10_act_61 bp_15 ?_
  refine px_aload_n dX10_act_63 rfl rfl ?_
  refine px_getI dX10_act_64 fr_10_428 rfl (px_sh1 hw sh_61) ?_
  refine px_imul dX10_act_67 ?_
  refine px_iload_n dX10_act_68 rfl rfl ?_
  refine px_iadd dX10_act_69 ?_
  refine px_aload_n dX10_act_70 rfl rfl ?_
  refine px_getR (v := 89) dX10_act_71 fr_10_99 rfl (px_sh1 hw sh_61) (px_rf hw rf_61_60) (by decide) ?_
  refine px_iload_n dX10_act_74 rfl rfl ?_
  refine px_iald dX10_act_75 (px_sh2 hw sh_89) (by decide) j1 hj1 hl1 ?_
  refine px_iast dX10_act_76 (px_sh2 hw sh_91) (by decide) j2 hj2 hl2 (by omega) ?_
  refine px_iinc (ls' := [.ref 61, .int (x1 + 1)]) dX10_act_77 ⟨by decide, rfl⟩ rfl rfl rfl ?_
  refine px_goto (tgt := 51) dX10_act_80 (by decide) ?_
  exact k1
theorem bX10_act_102 {E : px_E} {d : Nat} {w : pw_W} {Q : Option Value → pw_W → Prop} {t : ct_T} (hw : w.1 = cs t)  
    (k1 : Q none w) :
    px_W E mX10_act (d + 1) 0 0 102 [.null, .null] [] w Q := by
  exact px_return dX10_act_102 rfl k1
theorem dX10_exchange_0 : decode mX10_exchange.2.1 0 = .ok (.iconst 0, 1) := by decide +kernel
theorem dX10_exchange_1 : decode mX10_exchange.2.1 1 = .ok (.istore_n 2, 1) := by decide +kernel
theorem dX10_exchange_2 : decode mX10_exchange.2.1 2 = .ok (.iload_n 2, 1) := by decide +kernel
theorem dX10_exchange_3 : decode mX10_exchange.2.1 3 = .ok (.bipush 15, 2) := by decide +kernel
theorem dX10_exchange_5 : decode mX10_exchange.2.1 5 = .ok (.if_icmp .ge 39, 3) := by decide +kernel
theorem dX10_exchange_8 : decode mX10_exchange.2.1 8 = .ok (.aload_n 0, 1) := by decide +kernel
theorem dX10_exchange_9 : decode mX10_exchange.2.1 9 = .ok (.getfield 105, 3) := by decide +kernel
theorem dX10_exchange_12 : decode mX10_exchange.2.1 12 = .ok (.iload_n 1, 1) := by decide +kernel
theorem dX10_exchange_13 : decode mX10_exchange.2.1 13 = .ok (.iload_n 2, 1) := by decide +kernel
theorem dX10_exchange_14 : decode mX10_exchange.2.1 14 = .ok (.iadd, 1) := by decide +kernel
theorem dX10_exchange_15 : decode mX10_exchange.2.1 15 = .ok (.iaload, 1) := by decide +kernel
theorem dX10_exchange_16 : decode mX10_exchange.2.1 16 = .ok (.istore_n 3, 1) := by decide +kernel
theorem dX10_exchange_17 : decode mX10_exchange.2.1 17 = .ok (.aload_n 0, 1) := by decide +kernel
theorem dX10_exchange_18 : decode mX10_exchange.2.1 18 = .ok (.getfield 105, 3) := by decide +kernel
theorem dX10_exchange_21 : decode mX10_exchange.2.1 21 = .ok (.iload_n 1, 1) := by decide +kernel
theorem dX10_exchange_22 : decode mX10_exchange.2.1 22 = .ok (.iload_n 2, 1) := by decide +kernel
theorem dX10_exchange_23 : decode mX10_exchange.2.1 23 = .ok (.iadd, 1) := by decide +kernel
theorem dX10_exchange_24 : decode mX10_exchange.2.1 24 = .ok (.aload_n 0, 1) := by decide +kernel
theorem dX10_exchange_25 : decode mX10_exchange.2.1 25 = .ok (.getfield 99, 3) := by decide +kernel
theorem dX10_exchange_28 : decode mX10_exchange.2.1 28 = .ok (.iload_n 2, 1) := by decide +kernel
theorem dX10_exchange_29 : decode mX10_exchange.2.1 29 = .ok (.iaload, 1) := by decide +kernel
theorem dX10_exchange_30 : decode mX10_exchange.2.1 30 = .ok (.iastore, 1) := by decide +kernel
theorem dX10_exchange_31 : decode mX10_exchange.2.1 31 = .ok (.aload_n 0, 1) := by decide +kernel
theorem dX10_exchange_32 : decode mX10_exchange.2.1 32 = .ok (.getfield 99, 3) := by decide +kernel
theorem dX10_exchange_35 : decode mX10_exchange.2.1 35 = .ok (.iload_n 2, 1) := by decide +kernel
theorem dX10_exchange_36 : decode mX10_exchange.2.1 36 = .ok (.iload_n 3, 1) := by decide +kernel
theorem dX10_exchange_37 : decode mX10_exchange.2.1 37 = .ok (.iastore, 1) := by decide +kernel
theorem dX10_exchange_38 : decode mX10_exchange.2.1 38 = .ok (.iinc 2 1, 3) := by decide +kernel
theorem dX10_exchange_41 : decode mX10_exchange.2.1 41 = .ok (.goto (-39), 3) := by decide +kernel
theorem dX10_exchange_44 : decode mX10_exchange.2.1 44 = .ok (.return_, 1) := by decide +kernel
theorem bX10_exchange_0 {E : px_E} {d : Nat} {w : pw_W} {Q : Option Value → pw_W → Prop} {t : ct_T} (hw : w.1 = cs t) {x1 : Int32}  
    (k1 : px_W E mX10_exchange (d + 1) 0 0 2 [.ref 61, .int x1, .int 0, .null] [] w Q) :
    px_W E mX10_exchange (d + 1) 0 0 0 [.ref 61, .int x1, .null, .null] [] w Q := by
  refine px_iconst dX10_exchange_0 ic_0 ?_
  refine px_istore_n (ls' := [.ref 61, .int x1, .int 0, .null]) dX10_exchange_1 rfl ⟨by decide, rfl⟩ rfl ?_
  exact k1
theorem eX10_exchange {E : px_E} {d : Nat} {w : pw_W} {Q : Option Value → pw_W → Prop} {t : ct_T} (hw : w.1 = cs t) {x1 : Int32}  
    (k1 : px_W E mX10_exchange (d + 1) 0 0 2 [.ref 61, .int x1, .int 0, .null] [] w Q) :
    px_Call E (d + 1) 0 0 mX10_exchange [.ref 61, .int x1] w Q :=
  px_enter (k := 2) (by decide) (Nat.le_of_ble_eq_true rfl) rfl (px_forget (bX10_exchange_0 hw k1) ⟨Or.inr rfl, Or.inr rfl, Or.inl rfl, Or.inl rfl, trivial⟩)
theorem bX10_exchange_2 {E : px_E} {d : Nat} {w : pw_W} {Q : Option Value → pw_W → Prop} {t : ct_T} (hw : w.1 = cs t) {x1 x2 : Int32}  
    (k1 : 15 ≤ x2 → Q none w)
    (k2 : ¬ 15 ≤ x2 → px_W E mX10_exchange (d + 1) 0 0 8 [.ref 61, .int x1, .int x2, .null] [] w Q) :
    px_W E mX10_exchange (d + 1) 0 0 2 [.ref 61, .int x1, .int x2, .null] [] w Q := by
  refine px_iload_n dX10_exchange_2 rfl rfl ?_
  refine px_bipush dX10_exchange_3 bp_15 ?_
  refine px_icmp_ge (tgt := 44) dX10_exchange_5 (by decide) (fun h1 => ?_) (fun h1 => ?_)
  ·
    exact px_return dX10_exchange_44 rfl (k1 h1)
  ·
    exact (k2 h1)
theorem bX10_exchange_8 {E : px_E} {d : Nat} {w : pw_W} {Q : Option Value → pw_W → Prop} {t : ct_T} (hw : w.1 = cs t) {x1 x2 : Int32}  (j1 : Nat) (hj1 : (x1 + x2) = nI j1) (hl1 : j1 < 600) (j2 : Nat) (hj2 : x2 = nI j2) (hl2 : j2 < 15)
    (k1 : px_W E mX10_exchange (d + 1) 0 0 2 [.ref 61, .int x1, .int (x2 + 1), .null] [] (pw_sI (pw_sI w 91 j1 (pw_I w 89 j2)) 89 j2 (pw_I w 91 j1)) Q) :
    px_W E mX10_exchange (d + 1) 0 0 8 [.ref 61, .int x1, .int x2, .null] [] w Q := by
  refine px_aload_n dX10_exchange_8 rfl rfl ?_
  refine px_getR (v := 91) dX10_exchange_9 fr_10_105 rfl (px_sh1 hw sh_61) (px_rf hw rf_61_62) (by decide) ?_
  refine px_iload_n dX10_exchange_12 rfl rfl ?_
  refine px_iload_n dX10_exchange_13 rfl rfl ?_
  refine px_iadd dX10_exchange_14 ?_
  refine px_iald dX10_exchange_15 (px_sh2 hw sh_91) (by decide) j1 hj1 hl1 ?_
  refine px_istore_n (ls' := [.ref 61, .int x1, .int x2, .int (pw_I w 91 j1)]) dX10_exchange_16 rfl ⟨by decide, rfl⟩ rfl ?_
  refine px_aload_n dX10_exchange_17 rfl rfl ?_
  refine px_getR (v := 91) dX10_exchange_18 fr_10_105 rfl (px_sh1 hw sh_61) (px_rf hw rf_61_62) (by decide) ?_
  refine px_iload_n dX10_exchange_21 rfl rfl ?_
  refine px_iload_n dX10_exchange_22 rfl rfl ?_
  refine px_iadd dX10_exchange_23 ?_
  refine px_aload_n dX10_exchange_24 rfl rfl ?_
  refine px_getR (v := 89) dX10_exchange_25 fr_10_99 rfl (px_sh1 hw sh_61) (px_rf hw rf_61_60) (by decide) ?_
  refine px_iload_n dX10_exchange_28 rfl rfl ?_
  refine px_iald dX10_exchange_29 (px_sh2 hw sh_89) (by decide) j2 hj2 hl2 ?_
  refine px_iast dX10_exchange_30 (px_sh2 hw sh_91) (by decide) j1 hj1 hl1 (by omega) ?_
  refine px_aload_n dX10_exchange_31 rfl rfl ?_
  refine px_getR (v := 89) dX10_exchange_32 fr_10_99 rfl (px_sh1 (hI hw) sh_61) (px_rf (hI hw) rf_61_60) (by decide) ?_
  refine px_iload_n dX10_exchange_35 rfl rfl ?_
  refine px_iload_n dX10_exchange_36 rfl rfl ?_
  refine px_iast dX10_exchange_37 (px_sh2 (hI hw) sh_89) (by decide) j2 hj2 hl2 (by omega) ?_
  refine px_iinc (ls' := [.ref 61, .int x1, .int (x2 + 1), .int (pw_I w 91 j1)]) dX10_exchange_38 ⟨by decide, rfl⟩ rfl rfl rfl ?_
  refine px_goto (tgt := 2) dX10_exchange_41 (by decide) ?_
  exact px_forget k1 ⟨Or.inr rfl, Or.inr rfl, Or.inr rfl, Or.inl rfl, trivial⟩
theorem dX10_day_0 : decode mX10_day.2.1 0 = .ok (.aload_n 0, 1) := by decide +kernel
theorem dX10_day_1 : decode mX10_day.2.1 1 = .ok (.getfield 99, 3) := by decide +kernel
theorem dX10_day_4 : decode mX10_day.2.1 4 = .ok (.bipush 13, 2) := by decide +kernel
theorem dX10_day_6 : decode mX10_day.2.1 6 = .ok (.iaload, 1) := by decide +kernel
theorem dX10_day_7 : decode mX10_day.2.1 7 = .ok (.sipush 999, 3) := by decide +kernel
theorem dX10_day_10 : decode mX10_day.2.1 10 = .ok (.if_icmp .ne 5, 3) := by decide +kernel
theorem dX10_day_13 : decode mX10_day.2.1 13 = .ok (.iconst (-1), 1) := by decide +kernel
theorem dX10_day_14 : decode mX10_day.2.1 14 = .ok (.ireturn, 1) := by decide +kernel
theorem dX10_day_15 : decode mX10_day.2.1 15 = .ok (.aload_n 0, 1) := by decide +kernel
theorem dX10_day_16 : decode mX10_day.2.1 16 = .ok (.invokevirtual 492, 3) := by decide +kernel
theorem dX10_day_19 : decode mX10_day.2.1 19 = .ok (.aload_n 0, 1) := by decide +kernel
theorem dX10_day_20 : decode mX10_day.2.1 20 = .ok (.iconst 1, 1) := by decide +kernel
theorem dX10_day_21 : decode mX10_day.2.1 21 = .ok (.invokevirtual 495, 3) := by decide +kernel
theorem dX10_day_24 : decode mX10_day.2.1 24 = .ok (.istore_n 1, 1) := by decide +kernel
theorem dX10_day_25 : decode mX10_day.2.1 25 = .ok (.aload_n 0, 1) := by decide +kernel
theorem dX10_day_26 : decode mX10_day.2.1 26 = .ok (.invokevirtual 425, 3) := by decide +kernel
theorem dX10_day_29 : decode mX10_day.2.1 29 = .ok (.iload_n 1, 1) := by decide +kernel
theorem dX10_day_30 : decode mX10_day.2.1 30 = .ok (.ireturn, 1) := by decide +kernel
theorem bX10_day_0 {E : px_E} {d : Nat} {w : pw_W} {Q : Option Value → pw_W → Prop} {t : ct_T} (hw : w.1 = cs t)  
    (k1 : ¬ (pw_I w 89 13) = 999 → px_Call E d 0 0 mX10_act [.ref 61] w (fun v w' => px_W E mX10_day (d + 1) 0 0 19 [.ref 61, .null] (v.toList ++ []) w' Q))
    (k2 : (pw_I w 89 13) = 999 → Q (some (.int (-1))) w) :
    px_W E mX10_day (d + 1) 0 0 0 [.ref 61, .null] [] w Q := by
  refine px_aload_n dX10_day_0 rfl rfl ?_
  refine px_getR (v := 89) dX10_day_1 fr_10_99 rfl (px_sh1 hw sh_61) (px_rf hw rf_61_60) (by decide) ?_
  refine px_bipush dX10_day_4 bp_13 ?_
  refine px_iald dX10_day_6 (px_sh2 hw sh_89) (by decide) 13 rfl (by decide) ?_
  refine px_sipush dX10_day_7 sp_999 ?_
  refine px_icmp_ne (tgt := 15) dX10_day_10 (by decide) (fun h1 => ?_) (fun h1 => ?_)
  ·
    refine px_aload_n dX10_day_15 rfl rfl ?_
    exact px_callV (As := []) (st := []) (rc := 0) (rs := 0) (mc := 0) (ms := 0) dX10_day_16 lk_10_492 (px_sh1 hw sh_61) rfl rfl (Nat.le_of_ble_eq_true rfl) (k1 h1)
  ·
    refine px_iconst dX10_day_13 ic_m1 ?_
    exact px_ireturn dX10_day_14 rfl rfl (k2 h1)
theorem eX10_day {E : px_E} {d : Nat} {w : pw_W} {Q : Option Value → pw_W → Prop} {t : ct_T} (hw : w.1 = cs t)  
    (k1 : ¬ (pw_I w 89 13) = 999 → px_Call E d 0 0 mX10_act [.ref 61] w (fun v w' => px_W E mX10_day (d + 1) 0 0 19 [.ref 61, .null] (v.toList ++ []) w' Q))
    (k2 : (pw_I w 89 13) = 999 → Q (some (.int (-1))) w) :
    px_Call E (d + 1) 0 0 mX10_day [.ref 61] w Q :=
  px_enter (k := 1) (by decide) (Nat.le_of_ble_eq_true rfl) rfl (px_forget (bX10_day_0 hw k1 k2) ⟨Or.inr rfl, Or.inl rfl, trivial⟩)
theorem bX10_day_19 {E : px_E} {d : Nat} {w : pw_W} {Q : Option Value → pw_W → Prop} {t : ct_T} (hw : w.1 = cs t)  
    (k1 : px_Call E d 0 0 mX10_goDay [.ref 61, .int 1] w (fun v w' => px_W E mX10_day (d + 1) 0 0 24 [.ref 61, .null] (v.toList ++ []) w' Q)) :
    px_W E mX10_day (d + 1) 0 0 19 [.ref 61, .null] [] w Q := by
  refine px_aload_n dX10_day_19 rfl rfl ?_
  refine px_iconst dX10_day_20 ic_1 ?_
  exact px_callV (As := [.int 1]) (st := []) (rc := 0) (rs := 0) (mc := 0) (ms := 0) dX10_day_21 lk_10_495 (px_sh1 hw sh_61) rfl rfl (Nat.le_of_ble_eq_true rfl) k1
theorem bX10_day_24 {E : px_E} {d : Nat} {w : pw_W} {Q : Option Value → pw_W → Prop} {t : ct_T} (hw : w.1 = cs t) {y0 : Int32}  
    (k1 : px_Call E d 0 0 mX10_keepAir [.ref 61] w (fun v w' => px_W E mX10_day (d + 1) 0 0 29 [.null, .int y0] (v.toList ++ []) w' Q)) :
    px_W E mX10_day (d + 1) 0 0 24 [.ref 61, .null] [.int y0] w Q := by
  refine px_istore_n (ls' := [.ref 61, .int y0]) dX10_day_24 rfl ⟨by decide, rfl⟩ rfl ?_
  refine px_aload_n dX10_day_25 rfl rfl ?_
  refine px_forget (ls' := [.null, .int y0]) ?_ ⟨Or.inl rfl, Or.inr rfl, trivial⟩
  exact px_callV (As := []) (st := []) (rc := 0) (rs := 0) (mc := 0) (ms := 0) dX10_day_26 lk_10_425 (px_sh1 hw sh_61) rfl rfl (Nat.le_of_ble_eq_true rfl) k1
theorem bX10_day_29 {E : px_E} {d : Nat} {w : pw_W} {Q : Option Value → pw_W → Prop} {t : ct_T} (hw : w.1 = cs t) {x1 : Int32}  
    (k1 : Q (some (.int x1)) w) :
    px_W E mX10_day (d + 1) 0 0 29 [.null, .int x1] [] w Q := by
  refine px_iload_n dX10_day_29 rfl rfl ?_
  exact px_ireturn dX10_day_30 rfl rfl k1
theorem dX10_lesson_0 : decode mX10_lesson.2.1 0 = .ok (.aload_n 0, 1) := by decide +kernel
theorem dX10_lesson_1 : decode mX10_lesson.2.1 1 = .ok (.iload_n 1, 1) := by decide +kernel
theorem dX10_lesson_2 : decode mX10_lesson.2.1 2 = .ok (.invokevirtual 477, 3) := by decide +kernel
theorem dX10_lesson_5 : decode mX10_lesson.2.1 5 = .ok (.ifCond .eq 14, 3) := by decide +kernel
theorem dX10_lesson_8 : decode mX10_lesson.2.1 8 = .ok (.aload_n 0, 1) := by decide +kernel
theorem dX10_lesson_9 : decode mX10_lesson.2.1 9 = .ok (.getfield 99, 3) := by decide +kernel
theorem dX10_lesson_12 : decode mX10_lesson.2.1 12 = .ok (.iload_n 1, 1) := by decide +kernel
theorem dX10_lesson_13 : decode mX10_lesson.2.1 13 = .ok (.iaload, 1) := by decide +kernel
theorem dX10_lesson_14 : decode mX10_lesson.2.1 14 = .ok (.bipush 30, 2) := by decide +kernel
theorem dX10_lesson_16 : decode mX10_lesson.2.1 16 = .ok (.if_icmp .ne 5, 3) := by decide +kernel
theorem dX10_lesson_19 : decode mX10_lesson.2.1 19 = .ok (.iconst (-1), 1) := by decide +kernel
theorem dX10_lesson_20 : decode mX10_lesson.2.1 20 = .ok (.ireturn, 1) := by decide +kernel
theorem dX10_lesson_21 : decode mX10_lesson.2.1 21 = .ok (.aload_n 0, 1) := by decide +kernel
theorem dX10_lesson_22 : decode mX10_lesson.2.1 22 = .ok (.invokevirtual 492, 3) := by decide +kernel
theorem dX10_lesson_25 : decode mX10_lesson.2.1 25 = .ok (.aload_n 0, 1) := by decide +kernel
theorem dX10_lesson_26 : decode mX10_lesson.2.1 26 = .ok (.getfield 99, 3) := by decide +kernel
theorem dX10_lesson_29 : decode mX10_lesson.2.1 29 = .ok (.iload_n 1, 1) := by decide +kernel
theorem dX10_lesson_30 : decode mX10_lesson.2.1 30 = .ok (.dup2, 1) := by decide +kernel
theorem dX10_lesson_31 : decode mX10_lesson.2.1 31 = .ok (.iaload, 1) := by decide +kernel
theorem dX10_lesson_32 : decode mX10_lesson.2.1 32 = .ok (.iconst 1, 1) := by decide +kernel
theorem dX10_lesson_33 : decode mX10_lesson.2.1 33 = .ok (.iadd, 1) := by decide +kernel
theorem dX10_lesson_34 : decode mX10_lesson.2.1 34 = .ok (.iastore, 1) := by decide +kernel
theorem dX10_lesson_35 : decode mX10_lesson.2.1 35 = .ok (.aload_n 0, 1) := by decide +kernel
theorem dX10_lesson_36 : decode mX10_lesson.2.1 36 = .ok (.getfield 99, 3) := by decide +kernel
theorem dX10_lesson_39 : decode mX10_lesson.2.1 39 = .ok (.iload_n 1, 1) := by decide +kernel
theorem dX10_lesson_40 : decode mX10_lesson.2.1 40 = .ok (.iaload, 1) := by decide +kernel
theorem dX10_lesson_41 : decode mX10_lesson.2.1 41 = .ok (.ireturn, 1) := by decide +kernel
theorem bX10_lesson_0 {E : px_E} {d : Nat} {w : pw_W} {Q : Option Value → pw_W → Prop} {t : ct_T} (hw : w.1 = cs t) {x1 : Int32}  
    (k1 : ¬ (pX10_isPerson w x1) → px_W E mX10_lesson (d + 3) 0 0 19 [.null, .null] [] w Q)
    (k2 : (pX10_isPerson w x1) → px_W E mX10_lesson (d + 3) 0 0 8 [.ref 61, .int x1] [] w Q) :
    px_W E mX10_lesson (d + 3) 0 0 0 [.ref 61, .int x1] [] w Q := by
  refine px_aload_n dX10_lesson_0 rfl rfl ?_
  refine px_iload_n dX10_lesson_1 rfl rfl ?_
  refine px_callV (As := [.int x1]) (st := []) (rc := 0) (rs := 0) (mc := 0) (ms := 0) dX10_lesson_2 lk_10_477 (px_sh1 hw sh_61) rfl rfl (Nat.le_of_ble_eq_true rfl) (sX10_isPerson (w := w) hw ?_)
  show px_W E mX10_lesson (d + 3) 0 0 5 [.ref 61, .int x1] [.int (jb (pX10_isPerson w x1))] w Q
  refine px_jb_eq (tgt := 19) dX10_lesson_5 (by decide) (fun h1 => ?_) (fun h1 => ?_)
  ·
    exact px_forget (k1 h1) ⟨Or.inl rfl, Or.inl rfl, trivial⟩
  ·
    exact (k2 h1)
theorem eX10_lesson {E : px_E} {d : Nat} {w : pw_W} {Q : Option Value → pw_W → Prop} {t : ct_T} (hw : w.1 = cs t) {x1 : Int32}  
    (k1 : ¬ (pX10_isPerson w x1) → px_W E mX10_lesson (d + 3) 0 0 19 [.null, .null] [] w Q)
    (k2 : (pX10_isPerson w x1) → px_W E mX10_lesson (d + 3) 0 0 8 [.ref 61, .int x1] [] w Q) :
    px_Call E (d + 3) 0 0 mX10_lesson [.ref 61, .int x1] w Q :=
  px_enter (k := 0) (by decide) (Nat.le_of_ble_eq_true rfl) rfl (px_forget (bX10_lesson_0 hw k1 k2) ⟨Or.inr rfl, Or.inr rfl, trivial⟩)
theorem bX10_lesson_8 {E : px_E} {d : Nat} {w : pw_W} {Q : Option Value → pw_W → Prop} {t : ct_T} (hw : w.1 = cs t) {x1 : Int32}  (j1 : Nat) (hj1 : x1 = nI j1) (hl1 : j1 < 15)
    (k1 : ¬ (pw_I w 89 j1) = 30 → px_Call E (d + 2) 0 0 mX10_act [.ref 61] w (fun v w' => px_W E mX10_lesson (d + 3) 0 0 25 [.ref 61, .int x1] (v.toList ++ []) w' Q))
    (k2 : (pw_I w 89 j1) = 30 → px_W E mX10_lesson (d + 3) 0 0 19 [.null, .null] [] w Q) :
    px_W E mX10_lesson (d + 3) 0 0 8 [.ref 61, .int x1] [] w Q := by
  refine px_aload_n dX10_lesson_8 rfl rfl ?_
  refine px_getR (v := 89) dX10_lesson_9 fr_10_99 rfl (px_sh1 hw sh_61) (px_rf hw rf_61_60) (by decide) ?_
  refine px_iload_n dX10_lesson_12 rfl rfl ?_
  refine px_iald dX10_lesson_13 (px_sh2 hw sh_89) (by decide) j1 hj1 hl1 ?_
  refine px_bipush dX10_lesson_14 bp_30 ?_
  refine px_icmp_ne (tgt := 21) dX10_lesson_16 (by decide) (fun h1 => ?_) (fun h1 => ?_)
  ·
    refine px_aload_n dX10_lesson_21 rfl rfl ?_
    exact px_callV (As := []) (st := []) (rc := 0) (rs := 0) (mc := 0) (ms := 0) dX10_lesson_22 lk_10_492 (px_sh1 hw sh_61) rfl rfl (Nat.le_of_ble_eq_true rfl) (k1 h1)
  ·
    exact px_forget (k2 h1) ⟨Or.inl rfl, Or.inl rfl, trivial⟩
theorem bX10_lesson_19 {E : px_E} {d : Nat} {w : pw_W} {Q : Option Value → pw_W → Prop} {t : ct_T} (hw : w.1 = cs t)  
    (k1 : Q (some (.int (-1))) w) :
    px_W E mX10_lesson (d + 3) 0 0 19 [.null, .null] [] w Q := by
  refine px_iconst dX10_lesson_19 ic_m1 ?_
  exact px_ireturn dX10_lesson_20 rfl rfl k1
theorem bX10_lesson_25 {E : px_E} {d : Nat} {w : pw_W} {Q : Option Value → pw_W → Prop} {t : ct_T} (hw : w.1 = cs t) {x1 : Int32}  (j1 : Nat) (hj1 : x1 = nI j1) (hl1 : j1 < 15)
    (k1 : Q (some (.int (pw_I (pw_sI w 89 j1 ((pw_I w 89 j1) + 1)) 89 j1))) (pw_sI w 89 j1 ((pw_I w 89 j1) + 1))) :
    px_W E mX10_lesson (d + 3) 0 0 25 [.ref 61, .int x1] [] w Q := by
  refine px_aload_n dX10_lesson_25 rfl rfl ?_
  refine px_getR (v := 89) dX10_lesson_26 fr_10_99 rfl (px_sh1 hw sh_61) (px_rf hw rf_61_60) (by decide) ?_
  refine px_iload_n dX10_lesson_29 rfl rfl ?_
  refine px_dup2 dX10_lesson_30 rfl rfl ?_
  refine px_iald dX10_lesson_31 (px_sh2 hw sh_89) (by decide) j1 hj1 hl1 ?_
  refine px_iconst dX10_lesson_32 ic_1 ?_
  refine px_iadd dX10_lesson_33 ?_
  refine px_iast dX10_lesson_34 (px_sh2 hw sh_89) (by decide) j1 hj1 hl1 (by omega) ?_
  refine px_aload_n dX10_lesson_35 rfl rfl ?_
  refine px_getR (v := 89) dX10_lesson_36 fr_10_99 rfl (px_sh1 (hI hw) sh_61) (px_rf (hI hw) rf_61_60) (by decide) ?_
  refine px_iload_n dX10_lesson_39 rfl rfl ?_
  refine px_iald dX10_lesson_40 (px_sh2 (hI hw) sh_89) (by decide) j1 hj1 hl1 ?_
  exact px_ireturn dX10_lesson_41 rfl rfl k1
theorem dX10_turnBan_0 : decode mX10_turnBan.2.1 0 = .ok (.aload_n 0, 1) := by decide +kernel
theorem dX10_turnBan_1 : decode mX10_turnBan.2.1 1 = .ok (.invokevirtual 492, 3) := by decide +kernel
theorem dX10_turnBan_4 : decode mX10_turnBan.2.1 4 = .ok (.aload_n 0, 1) := by decide +kernel
theorem dX10_turnBan_5 : decode mX10_turnBan.2.1 5 = .ok (.getfield 99, 3) := by decide +kernel
theorem dX10_turnBan_8 : decode mX10_turnBan.2.1 8 = .ok (.bipush 12, 2) := by decide +kernel
theorem dX10_turnBan_10 : decode mX10_turnBan.2.1 10 = .ok (.dup2, 1) := by decide +kernel
theorem dX10_turnBan_11 : decode mX10_turnBan.2.1 11 = .ok (.iaload, 1) := by decide +kernel
theorem dX10_turnBan_12 : decode mX10_turnBan.2.1 12 = .ok (.iconst 1, 1) := by decide +kernel
theorem dX10_turnBan_13 : decode mX10_turnBan.2.1 13 = .ok (.iload_n 1, 1) := by decide +kernel
theorem dX10_turnBan_14 : decode mX10_turnBan.2.1 14 = .ok (.ishl, 1) := by decide +kernel
theorem dX10_turnBan_15 : decode mX10_turnBan.2.1 15 = .ok (.ixor, 1) := by decide +kernel
theorem dX10_turnBan_16 : decode mX10_turnBan.2.1 16 = .ok (.iastore, 1) := by decide +kernel
theorem dX10_turnBan_17 : decode mX10_turnBan.2.1 17 = .ok (.aload_n 0, 1) := by decide +kernel
theorem dX10_turnBan_18 : decode mX10_turnBan.2.1 18 = .ok (.getfield 99, 3) := by decide +kernel
theorem dX10_turnBan_21 : decode mX10_turnBan.2.1 21 = .ok (.bipush 12, 2) := by decide +kernel
theorem dX10_turnBan_23 : decode mX10_turnBan.2.1 23 = .ok (.iaload, 1) := by decide +kernel
theorem dX10_turnBan_24 : decode mX10_turnBan.2.1 24 = .ok (.ireturn, 1) := by decide +kernel
theorem bX10_turnBan_0 {E : px_E} {d : Nat} {w : pw_W} {Q : Option Value → pw_W → Prop} {t : ct_T} (hw : w.1 = cs t) {x1 : Int32}  
    (k1 : px_Call E d 0 0 mX10_act [.ref 61] w (fun v w' => px_W E mX10_turnBan (d + 1) 0 0 4 [.ref 61, .int x1] (v.toList ++ []) w' Q)) :
    px_W E mX10_turnBan (d + 1) 0 0 0 [.ref 61, .int x1] [] w Q := by
  refine px_aload_n dX10_turnBan_0 rfl rfl ?_
  exact px_callV (As := []) (st := []) (rc := 0) (rs := 0) (mc := 0) (ms := 0) dX10_turnBan_1 lk_10_492 (px_sh1 hw sh_61) rfl rfl (Nat.le_of_ble_eq_true rfl) k1
theorem eX10_turnBan {E : px_E} {d : Nat} {w : pw_W} {Q : Option Value → pw_W → Prop} {t : ct_T} (hw : w.1 = cs t) {x1 : Int32}  
    (k1 : px_Call E d 0 0 mX10_act [.ref 61] w (fun v w' => px_W E mX10_turnBan (d + 1) 0 0 4 [.ref 61, .int x1] (v.toList ++ []) w' Q)) :
    px_Call E (d + 1) 0 0 mX10_turnBan [.ref 61, .int x1] w Q :=
  px_enter (k := 0) (by decide) (Nat.le_of_ble_eq_true rfl) rfl (px_forget (bX10_turnBan_0 hw k1) ⟨Or.inr rfl, Or.inr rfl, trivial⟩)
theorem bX10_turnBan_4 {E : px_E} {d : Nat} {w : pw_W} {Q : Option Value → pw_W → Prop} {t : ct_T} (hw : w.1 = cs t) {x1 : Int32}  
    (k1 : Q (some (.int ((pw_I w 89 12) ^^^ (js_shl 1 x1)))) (pw_sI w 89 12 ((pw_I w 89 12) ^^^ (js_shl 1 x1)))) :
    px_W E mX10_turnBan (d + 1) 0 0 4 [.ref 61, .int x1] [] w Q := by
  refine px_aload_n dX10_turnBan_4 rfl rfl ?_
  refine px_getR (v := 89) dX10_turnBan_5 fr_10_99 rfl (px_sh1 hw sh_61) (px_rf hw rf_61_60) (by decide) ?_
  refine px_bipush dX10_turnBan_8 bp_12 ?_
  refine px_dup2 dX10_turnBan_10 rfl rfl ?_
  refine px_iald dX10_turnBan_11 (px_sh2 hw sh_89) (by decide) 12 rfl (by decide) ?_
  refine px_iconst dX10_turnBan_12 ic_1 ?_
  refine px_iload_n dX10_turnBan_13 rfl rfl ?_
  refine px_ishl dX10_turnBan_14 ?_
  refine px_ixor dX10_turnBan_15 ?_
  refine px_iast dX10_turnBan_16 (px_sh2 hw sh_89) (by decide) 12 rfl (by decide) (by omega) ?_
  refine px_aload_n dX10_turnBan_17 rfl rfl ?_
  refine px_getR (v := 89) dX10_turnBan_18 fr_10_99 rfl (px_sh1 (hI hw) sh_61) (px_rf (hI hw) rf_61_60) (by decide) ?_
  refine px_bipush dX10_turnBan_21 bp_12 ?_
  refine px_ialdv (v := ((pw_I w 89 12) ^^^ (js_shl 1 x1))) dX10_turnBan_23 (px_sh2 (hI hw) sh_89) (by decide) 12 rfl (by decide) rfl ?_
  exact px_ireturn dX10_turnBan_24 rfl rfl k1
theorem dX10_forbid_0 : decode mX10_forbid.2.1 0 = .ok (.aload_n 0, 1) := by decide +kernel
theorem dX10_forbid_1 : decode mX10_forbid.2.1 1 = .ok (.iload_n 1, 1) := by decide +kernel
theorem dX10_forbid_2 : decode mX10_forbid.2.1 2 = .ok (.invokevirtual 483, 3) := by decide +kernel
theorem dX10_forbid_5 : decode mX10_forbid.2.1 5 = .ok (.ifCond .eq 19, 3) := by decide +kernel
theorem dX10_forbid_8 : decode mX10_forbid.2.1 8 = .ok (.aload_n 0, 1) := by decide +kernel
theorem dX10_forbid_9 : decode mX10_forbid.2.1 9 = .ok (.iload_n 1, 1) := by decide +kernel
theorem dX10_forbid_10 : decode mX10_forbid.2.1 10 = .ok (.invokevirtual 498, 3) := by decide +kernel
theorem dX10_forbid_13 : decode mX10_forbid.2.1 13 = .ok (.ifCond .ne 11, 3) := by decide +kernel
theorem dX10_forbid_16 : decode mX10_forbid.2.1 16 = .ok (.aload_n 0, 1) := by decide +kernel
theorem dX10_forbid_17 : decode mX10_forbid.2.1 17 = .ok (.iload_n 1, 1) := by decide +kernel
theorem dX10_forbid_18 : decode mX10_forbid.2.1 18 = .ok (.invokevirtual 501, 3) := by decide +kernel
theorem dX10_forbid_21 : decode mX10_forbid.2.1 21 = .ok (.goto 4, 3) := by decide +kernel
theorem dX10_forbid_24 : decode mX10_forbid.2.1 24 = .ok (.iconst (-1), 1) := by decide +kernel
theorem dX10_forbid_25 : decode mX10_forbid.2.1 25 = .ok (.ireturn, 1) := by decide +kernel
theorem bX10_forbid_0 {E : px_E} {d : Nat} {w : pw_W} {Q : Option Value → pw_W → Prop} {t : ct_T} (hw : w.1 = cs t) {x1 : Int32}  
    (k1 : ¬ (pX10_isMeeting w x1) → px_W E mX10_forbid (d + 3) 0 0 24 [.null, .null] [] w Q)
    (k2 : (pX10_isMeeting w x1) → (pX10_isBannedNow w x1) → px_W E mX10_forbid (d + 3) 0 0 24 [.null, .null] [] w Q)
    (k3 : (pX10_isMeeting w x1) → ¬ (pX10_isBannedNow w x1) → px_Call E (d + 2) 0 0 mX10_turnBan [.ref 61, .int x1] w (fun v w' => px_W E mX10_forbid (d + 3) 0 0 21 [.null, .null] (v.toList ++ []) w' Q)) :
    px_W E mX10_forbid (d + 3) 0 0 0 [.ref 61, .int x1] [] w Q := by
  refine px_aload_n dX10_forbid_0 rfl rfl ?_
  refine px_iload_n dX10_forbid_1 rfl rfl ?_
  refine px_callV (As := [.int x1]) (st := []) (rc := 0) (rs := 0) (mc := 0) (ms := 0) dX10_forbid_2 lk_10_483 (px_sh1 hw sh_61) rfl rfl (Nat.le_of_ble_eq_true rfl) (sX10_isMeeting (w := w) hw ?_)
  show px_W E mX10_forbid (d + 3) 0 0 5 [.ref 61, .int x1] [.int (jb (pX10_isMeeting w x1))] w Q
  refine px_jb_eq (tgt := 24) dX10_forbid_5 (by decide) (fun h1 => ?_) (fun h1 => ?_)
  ·
    exact px_forget (k1 h1) ⟨Or.inl rfl, Or.inl rfl, trivial⟩
  ·
    refine px_aload_n dX10_forbid_8 rfl rfl ?_
    refine px_iload_n dX10_forbid_9 rfl rfl ?_
    refine px_callV (As := [.int x1]) (st := []) (rc := 0) (rs := 0) (mc := 0) (ms := 0) dX10_forbid_10 lk_10_498 (px_sh1 hw sh_61) rfl rfl (Nat.le_of_ble_eq_true rfl) (sX10_isBannedNow (w := w) hw ?_)
    show px_W E mX10_forbid (d + 3) 0 0 13 [.ref 61, .int x1] [.int (jb (pX10_isBannedNow w x1))] w Q
    refine px_jb_ne (tgt := 24) dX10_forbid_13 (by decide) (fun h2 => ?_) (fun h2 => ?_)
    ·
      exact px_forget (k2 h1 h2) ⟨Or.inl rfl, Or.inl rfl, trivial⟩
    ·
      refine px_aload_n dX10_forbid_16 rfl rfl ?_
      refine px_iload_n dX10_forbid_17 rfl rfl ?_
      refine px_forget (ls' := [.null, .null]) ?_ ⟨Or.inl rfl, Or.inl rfl, trivial⟩
      exact px_callV (As := [.int x1]) (st := []) (rc := 0) (rs := 0) (mc := 0) (ms := 0) dX10_forbid_18 lk_10_501 (px_sh1 hw sh_61) rfl rfl (Nat.le_of_ble_eq_true rfl) (k3 h1 h2)
theorem eX10_forbid {E : px_E} {d : Nat} {w : pw_W} {Q : Option Value → pw_W → Prop} {t : ct_T} (hw : w.1 = cs t) {x1 : Int32}  
    (k1 : ¬ (pX10_isMeeting w x1) → px_W E mX10_forbid (d + 3) 0 0 24 [.null, .null] [] w Q)
    (k2 : (pX10_isMeeting w x1) → (pX10_isBannedNow w x1) → px_W E mX10_forbid (d + 3) 0 0 24 [.null, .null] [] w Q)
    (k3 : (pX10_isMeeting w x1) → ¬ (pX10_isBannedNow w x1) → px_Call E (d + 2) 0 0 mX10_turnBan [.ref 61, .int x1] w (fun v w' => px_W E mX10_forbid (d + 3) 0 0 21 [.null, .null] (v.toList ++ []) w' Q)) :
    px_Call E (d + 3) 0 0 mX10_forbid [.ref 61, .int x1] w Q :=
  px_enter (k := 0) (by decide) (Nat.le_of_ble_eq_true rfl) rfl (px_forget (bX10_forbid_0 hw k1 k2 k3) ⟨Or.inr rfl, Or.inr rfl, trivial⟩)
theorem bX10_forbid_21 {E : px_E} {d : Nat} {w : pw_W} {Q : Option Value → pw_W → Prop} {t : ct_T} (hw : w.1 = cs t) {y0 : Int32}  
    (k1 : px_W E mX10_forbid (d + 3) 0 0 25 [.null, .null] [.int y0] w Q) :
    px_W E mX10_forbid (d + 3) 0 0 21 [.null, .null] [.int y0] w Q := by
  refine px_goto (tgt := 25) dX10_forbid_21 (by decide) ?_
  exact k1
theorem bX10_forbid_24 {E : px_E} {d : Nat} {w : pw_W} {Q : Option Value → pw_W → Prop} {t : ct_T} (hw : w.1 = cs t)  
    (k1 : px_W E mX10_forbid (d + 3) 0 0 25 [.null, .null] [.int (-1)] w Q) :
    px_W E mX10_forbid (d + 3) 0 0 24 [.null, .null] [] w Q := by
  refine px_iconst dX10_forbid_24 ic_m1 ?_
  exact k1
theorem bX10_forbid_25 {E : px_E} {d : Nat} {w : pw_W} {Q : Option Value → pw_W → Prop} {t : ct_T} (hw : w.1 = cs t) {y0 : Int32}  
    (k1 : Q (some (.int y0)) w) :
    px_W E mX10_forbid (d + 3) 0 0 25 [.null, .null] [.int y0] w Q := by
  exact px_ireturn dX10_forbid_25 rfl rfl k1
theorem dX10_allow_0 : decode mX10_allow.2.1 0 = .ok (.aload_n 0, 1) := by decide +kernel
theorem dX10_allow_1 : decode mX10_allow.2.1 1 = .ok (.iload_n 1, 1) := by decide +kernel
theorem dX10_allow_2 : decode mX10_allow.2.1 2 = .ok (.invokevirtual 483, 3) := by decide +kernel
theorem dX10_allow_5 : decode mX10_allow.2.1 5 = .ok (.ifCond .eq 19, 3) := by decide +kernel
theorem dX10_allow_8 : decode mX10_allow.2.1 8 = .ok (.aload_n 0, 1) := by decide +kernel
theorem dX10_allow_9 : decode mX10_allow.2.1 9 = .ok (.iload_n 1, 1) := by decide +kernel
theorem dX10_allow_10 : decode mX10_allow.2.1 10 = .ok (.invokevirtual 498, 3) := by decide +kernel
theorem dX10_allow_13 : decode mX10_allow.2.1 13 = .ok (.ifCond .eq 11, 3) := by decide +kernel
theorem dX10_allow_16 : decode mX10_allow.2.1 16 = .ok (.aload_n 0, 1) := by decide +kernel
theorem dX10_allow_17 : decode mX10_allow.2.1 17 = .ok (.iload_n 1, 1) := by decide +kernel
theorem dX10_allow_18 : decode mX10_allow.2.1 18 = .ok (.invokevirtual 501, 3) := by decide +kernel
theorem dX10_allow_21 : decode mX10_allow.2.1 21 = .ok (.goto 4, 3) := by decide +kernel
theorem dX10_allow_24 : decode mX10_allow.2.1 24 = .ok (.iconst (-1), 1) := by decide +kernel
theorem dX10_allow_25 : decode mX10_allow.2.1 25 = .ok (.ireturn, 1) := by decide +kernel
theorem bX10_allow_0 {E : px_E} {d : Nat} {w : pw_W} {Q : Option Value → pw_W → Prop} {t : ct_T} (hw : w.1 = cs t) {x1 : Int32}  
    (k1 : ¬ (pX10_isMeeting w x1) → px_W E mX10_allow (d + 3) 0 0 24 [.null, .null] [] w Q)
    (k2 : (pX10_isMeeting w x1) → ¬ (pX10_isBannedNow w x1) → px_W E mX10_allow (d + 3) 0 0 24 [.null, .null] [] w Q)
    (k3 : (pX10_isMeeting w x1) → (pX10_isBannedNow w x1) → px_Call E (d + 2) 0 0 mX10_turnBan [.ref 61, .int x1] w (fun v w' => px_W E mX10_allow (d + 3) 0 0 21 [.null, .null] (v.toList ++ []) w' Q)) :
    px_W E mX10_allow (d + 3) 0 0 0 [.ref 61, .int x1] [] w Q := by
  refine px_aload_n dX10_allow_0 rfl rfl ?_
  refine px_iload_n dX10_allow_1 rfl rfl ?_
  refine px_callV (As := [.int x1]) (st := []) (rc := 0) (rs := 0) (mc := 0) (ms := 0) dX10_allow_2 lk_10_483 (px_sh1 hw sh_61) rfl rfl (Nat.le_of_ble_eq_true rfl) (sX10_isMeeting (w := w) hw ?_)
  show px_W E mX10_allow (d + 3) 0 0 5 [.ref 61, .int x1] [.int (jb (pX10_isMeeting w x1))] w Q
  refine px_jb_eq (tgt := 24) dX10_allow_5 (by decide) (fun h1 => ?_) (fun h1 => ?_)
  ·
    exact px_forget (k1 h1) ⟨Or.inl rfl, Or.inl rfl, trivial⟩
  ·
    refine px_aload_n dX10_allow_8 rfl rfl ?_
    refine px_iload_n dX10_allow_9 rfl rfl ?_
    refine px_callV (As := [.int x1]) (st := []) (rc := 0) (rs := 0) (mc := 0) (ms := 0) dX10_allow_10 lk_10_498 (px_sh1 hw sh_61) rfl rfl (Nat.le_of_ble_eq_true rfl) (sX10_isBannedNow (w := w) hw ?_)
    show px_W E mX10_allow (d + 3) 0 0 13 [.ref 61, .int x1] [.int (jb (pX10_isBannedNow w x1))] w Q
    refine px_jb_eq (tgt := 24) dX10_allow_13 (by decide) (fun h2 => ?_) (fun h2 => ?_)
    ·
      exact px_forget (k2 h1 h2) ⟨Or.inl rfl, Or.inl rfl, trivial⟩
    ·
      refine px_aload_n dX10_allow_16 rfl rfl ?_
      refine px_iload_n dX10_allow_17 rfl rfl ?_
      refine px_forget (ls' := [.null, .null]) ?_ ⟨Or.inl rfl, Or.inl rfl, trivial⟩
      exact px_callV (As := [.int x1]) (st := []) (rc := 0) (rs := 0) (mc := 0) (ms := 0) dX10_allow_18 lk_10_501 (px_sh1 hw sh_61) rfl rfl (Nat.le_of_ble_eq_true rfl) (k3 h1 h2)
theorem eX10_allow {E : px_E} {d : Nat} {w : pw_W} {Q : Option Value → pw_W → Prop} {t : ct_T} (hw : w.1 = cs t) {x1 : Int32}  
    (k1 : ¬ (pX10_isMeeting w x1) → px_W E mX10_allow (d + 3) 0 0 24 [.null, .null] [] w Q)
    (k2 : (pX10_isMeeting w x1) → ¬ (pX10_isBannedNow w x1) → px_W E mX10_allow (d + 3) 0 0 24 [.null, .null] [] w Q)
    (k3 : (pX10_isMeeting w x1) → (pX10_isBannedNow w x1) → px_Call E (d + 2) 0 0 mX10_turnBan [.ref 61, .int x1] w (fun v w' => px_W E mX10_allow (d + 3) 0 0 21 [.null, .null] (v.toList ++ []) w' Q)) :
    px_Call E (d + 3) 0 0 mX10_allow [.ref 61, .int x1] w Q :=
  px_enter (k := 0) (by decide) (Nat.le_of_ble_eq_true rfl) rfl (px_forget (bX10_allow_0 hw k1 k2 k3) ⟨Or.inr rfl, Or.inr rfl, trivial⟩)
theorem bX10_allow_21 {E : px_E} {d : Nat} {w : pw_W} {Q : Option Value → pw_W → Prop} {t : ct_T} (hw : w.1 = cs t) {y0 : Int32}  
    (k1 : px_W E mX10_allow (d + 3) 0 0 25 [.null, .null] [.int y0] w Q) :
    px_W E mX10_allow (d + 3) 0 0 21 [.null, .null] [.int y0] w Q := by
  refine px_goto (tgt := 25) dX10_allow_21 (by decide) ?_
  exact k1
theorem bX10_allow_24 {E : px_E} {d : Nat} {w : pw_W} {Q : Option Value → pw_W → Prop} {t : ct_T} (hw : w.1 = cs t)  
    (k1 : px_W E mX10_allow (d + 3) 0 0 25 [.null, .null] [.int (-1)] w Q) :
    px_W E mX10_allow (d + 3) 0 0 24 [.null, .null] [] w Q := by
  refine px_iconst dX10_allow_24 ic_m1 ?_
  exact k1
theorem bX10_allow_25 {E : px_E} {d : Nat} {w : pw_W} {Q : Option Value → pw_W → Prop} {t : ct_T} (hw : w.1 = cs t) {y0 : Int32}  
    (k1 : Q (some (.int y0)) w) :
    px_W E mX10_allow (d + 3) 0 0 25 [.null, .null] [.int y0] w Q := by
  exact px_ireturn dX10_allow_25 rfl rfl k1
theorem dX10_call_0 : decode mX10_call.2.1 0 = .ok (.aload_n 0, 1) := by decide +kernel
theorem dX10_call_1 : decode mX10_call.2.1 1 = .ok (.iload_n 1, 1) := by decide +kernel
theorem dX10_call_2 : decode mX10_call.2.1 2 = .ok (.invokevirtual 486, 3) := by decide +kernel
theorem dX10_call_5 : decode mX10_call.2.1 5 = .ok (.ifCond .eq 23, 3) := by decide +kernel
theorem dX10_call_8 : decode mX10_call.2.1 8 = .ok (.aload_n 0, 1) := by decide +kernel
theorem dX10_call_9 : decode mX10_call.2.1 9 = .ok (.iload_n 2, 1) := by decide +kernel
theorem dX10_call_10 : decode mX10_call.2.1 10 = .ok (.invokevirtual 477, 3) := by decide +kernel
theorem dX10_call_13 : decode mX10_call.2.1 13 = .ok (.ifCond .eq 15, 3) := by decide +kernel
theorem dX10_call_16 : decode mX10_call.2.1 16 = .ok (.aload_n 0, 1) := by decide +kernel
theorem dX10_call_17 : decode mX10_call.2.1 17 = .ok (.getfield 99, 3) := by decide +kernel
theorem dX10_call_20 : decode mX10_call.2.1 20 = .ok (.bipush 6, 2) := by decide +kernel
theorem dX10_call_22 : decode mX10_call.2.1 22 = .ok (.iload_n 2, 1) := by decide +kernel
theorem dX10_call_23 : decode mX10_call.2.1 23 = .ok (.iadd, 1) := by decide +kernel
theorem dX10_call_24 : decode mX10_call.2.1 24 = .ok (.iaload, 1) := by decide +kernel
theorem dX10_call_25 : decode mX10_call.2.1 25 = .ok (.ifCond .ne 5, 3) := by decide +kernel
theorem dX10_call_28 : decode mX10_call.2.1 28 = .ok (.iconst (-1), 1) := by decide +kernel
theorem dX10_call_29 : decode mX10_call.2.1 29 = .ok (.ireturn, 1) := by decide +kernel
theorem dX10_call_30 : decode mX10_call.2.1 30 = .ok (.aload_n 0, 1) := by decide +kernel
theorem dX10_call_31 : decode mX10_call.2.1 31 = .ok (.invokevirtual 492, 3) := by decide +kernel
theorem dX10_call_34 : decode mX10_call.2.1 34 = .ok (.aload_n 0, 1) := by decide +kernel
theorem dX10_call_35 : decode mX10_call.2.1 35 = .ok (.iload_n 1, 1) := by decide +kernel
theorem dX10_call_36 : decode mX10_call.2.1 36 = .ok (.iload_n 2, 1) := by decide +kernel
theorem dX10_call_37 : decode mX10_call.2.1 37 = .ok (.invokevirtual 471, 3) := by decide +kernel
theorem dX10_call_40 : decode mX10_call.2.1 40 = .ok (.aload_n 0, 1) := by decide +kernel
theorem dX10_call_41 : decode mX10_call.2.1 41 = .ok (.invokevirtual 425, 3) := by decide +kernel
theorem dX10_call_44 : decode mX10_call.2.1 44 = .ok (.aload_n 0, 1) := by decide +kernel
theorem dX10_call_45 : decode mX10_call.2.1 45 = .ok (.getfield 99, 3) := by decide +kernel
theorem dX10_call_48 : decode mX10_call.2.1 48 = .ok (.bipush 6, 2) := by decide +kernel
theorem dX10_call_50 : decode mX10_call.2.1 50 = .ok (.iload_n 2, 1) := by decide +kernel
theorem dX10_call_51 : decode mX10_call.2.1 51 = .ok (.iadd, 1) := by decide +kernel
theorem dX10_call_52 : decode mX10_call.2.1 52 = .ok (.iaload, 1) := by decide +kernel
theorem dX10_call_53 : decode mX10_call.2.1 53 = .ok (.ireturn, 1) := by decide +kernel
theorem bX10_call_0 {E : px_E} {d : Nat} {w : pw_W} {Q : Option Value → pw_W → Prop} {t : ct_T} (hw : w.1 = cs t) {x1 x2 : Int32}  
    (k1 : ¬ (pX10_isBrother w x1) → px_W E mX10_call (d + 3) 0 0 28 [.null, .null, .null] [] w Q)
    (k2 : (pX10_isBrother w x1) → ¬ (pX10_isPerson w x2) → px_W E mX10_call (d + 3) 0 0 28 [.null, .null, .null] [] w Q)
    (k3 : (pX10_isBrother w x1) → (pX10_isPerson w x2) → px_W E mX10_call (d + 3) 0 0 16 [.ref 61, .int x1, .int x2] [] w Q) :
    px_W E mX10_call (d + 3) 0 0 0 [.ref 61, .int x1, .int x2] [] w Q := by
  refine px_aload_n dX10_call_0 rfl rfl ?_
  refine px_iload_n dX10_call_1 rfl rfl ?_
  refine px_callV (As := [.int x1]) (st := []) (rc := 0) (rs := 0) (mc := 0) (ms := 0) dX10_call_2 lk_10_486 (px_sh1 hw sh_61) rfl rfl (Nat.le_of_ble_eq_true rfl) (sX10_isBrother (w := w) hw ?_)
  show px_W E mX10_call (d + 3) 0 0 5 [.ref 61, .int x1, .int x2] [.int (jb (pX10_isBrother w x1))] w Q
  refine px_jb_eq (tgt := 28) dX10_call_5 (by decide) (fun h1 => ?_) (fun h1 => ?_)
  ·
    exact px_forget (k1 h1) ⟨Or.inl rfl, Or.inl rfl, Or.inl rfl, trivial⟩
  ·
    refine px_aload_n dX10_call_8 rfl rfl ?_
    refine px_iload_n dX10_call_9 rfl rfl ?_
    refine px_callV (As := [.int x2]) (st := []) (rc := 0) (rs := 0) (mc := 0) (ms := 0) dX10_call_10 lk_10_477 (px_sh1 hw sh_61) rfl rfl (Nat.le_of_ble_eq_true rfl) (sX10_isPerson (w := w) hw ?_)
    show px_W E mX10_call (d + 3) 0 0 13 [.ref 61, .int x1, .int x2] [.int (jb (pX10_isPerson w x2))] w Q
    refine px_jb_eq (tgt := 28) dX10_call_13 (by decide) (fun h2 => ?_) (fun h2 => ?_)
    ·
      exact px_forget (k2 h1 h2) ⟨Or.inl rfl, Or.inl rfl, Or.inl rfl, trivial⟩
    ·
      exact (k3 h1 h2)
theorem eX10_call {E : px_E} {d : Nat} {w : pw_W} {Q : Option Value → pw_W → Prop} {t : ct_T} (hw : w.1 = cs t) {x1 x2 : Int32}  
    (k1 : ¬ (pX10_isBrother w x1) → px_W E mX10_call (d + 3) 0 0 28 [.null, .null, .null] [] w Q)
    (k2 : (pX10_isBrother w x1) → ¬ (pX10_isPerson w x2) → px_W E mX10_call (d + 3) 0 0 28 [.null, .null, .null] [] w Q)
    (k3 : (pX10_isBrother w x1) → (pX10_isPerson w x2) → px_W E mX10_call (d + 3) 0 0 16 [.ref 61, .int x1, .int x2] [] w Q) :
    px_Call E (d + 3) 0 0 mX10_call [.ref 61, .int x1, .int x2] w Q :=
  px_enter (k := 0) (by decide) (Nat.le_of_ble_eq_true rfl) rfl (px_forget (bX10_call_0 hw k1 k2 k3) ⟨Or.inr rfl, Or.inr rfl, Or.inr rfl, trivial⟩)
theorem bX10_call_16 {E : px_E} {d : Nat} {w : pw_W} {Q : Option Value → pw_W → Prop} {t : ct_T} (hw : w.1 = cs t) {x1 x2 : Int32}  (j1 : Nat) (hj1 : (6 + x2) = nI j1) (hl1 : j1 < 15)
    (k1 : ¬ (pw_I w 89 j1) = 0 → px_Call E (d + 2) 0 0 mX10_act [.ref 61] w (fun v w' => px_W E mX10_call (d + 3) 0 0 34 [.ref 61, .int x1, .int x2] (v.toList ++ []) w' Q))
    (k2 : (pw_I w 89 j1) = 0 → px_W E mX10_call (d + 3) 0 0 28 [.null, .null, .null] [] w Q) :
    px_W E mX10_call (d + 3) 0 0 16 [.ref 61, .int x1, .int x2] [] w Q := by
  refine px_aload_n dX10_call_16 rfl rfl ?_
  refine px_getR (v := 89) dX10_call_17 fr_10_99 rfl (px_sh1 hw sh_61) (px_rf hw rf_61_60) (by decide) ?_
  refine px_bipush dX10_call_20 bp_6 ?_
  refine px_iload_n dX10_call_22 rfl rfl ?_
  refine px_iadd dX10_call_23 ?_
  refine px_iald dX10_call_24 (px_sh2 hw sh_89) (by decide) j1 hj1 hl1 ?_
  refine px_if_ne (tgt := 30) dX10_call_25 (by decide) (fun h1 => ?_) (fun h1 => ?_)
  ·
    refine px_aload_n dX10_call_30 rfl rfl ?_
    exact px_callV (As := []) (st := []) (rc := 0) (rs := 0) (mc := 0) (ms := 0) dX10_call_31 lk_10_492 (px_sh1 hw sh_61) rfl rfl (Nat.le_of_ble_eq_true rfl) (k1 h1)
  ·
    exact px_forget (k2 h1) ⟨Or.inl rfl, Or.inl rfl, Or.inl rfl, trivial⟩
theorem bX10_call_28 {E : px_E} {d : Nat} {w : pw_W} {Q : Option Value → pw_W → Prop} {t : ct_T} (hw : w.1 = cs t)  
    (k1 : Q (some (.int (-1))) w) :
    px_W E mX10_call (d + 3) 0 0 28 [.null, .null, .null] [] w Q := by
  refine px_iconst dX10_call_28 ic_m1 ?_
  exact px_ireturn dX10_call_29 rfl rfl k1
theorem bX10_call_34 {E : px_E} {d : Nat} {w : pw_W} {Q : Option Value → pw_W → Prop} {t : ct_T} (hw : w.1 = cs t) {x1 x2 : Int32}  
    (k1 : px_Call E (d + 2) 0 0 mX10_soothes [.ref 61, .int x1, .int x2] w (fun v w' => px_W E mX10_call (d + 3) 0 0 40 [.ref 61, .null, .int x2] (v.toList ++ []) w' Q)) :
    px_W E mX10_call (d + 3) 0 0 34 [.ref 61, .int x1, .int x2] [] w Q := by
  refine px_aload_n dX10_call_34 rfl rfl ?_
  refine px_iload_n dX10_call_35 rfl rfl ?_
  refine px_iload_n dX10_call_36 rfl rfl ?_
  refine px_forget (ls' := [.ref 61, .null, .int x2]) ?_ ⟨Or.inr rfl, Or.inl rfl, Or.inr rfl, trivial⟩
  exact px_callV (As := [.int x1, .int x2]) (st := []) (rc := 0) (rs := 0) (mc := 0) (ms := 0) dX10_call_37 lk_10_471 (px_sh1 hw sh_61) rfl rfl (Nat.le_of_ble_eq_true rfl) k1
theorem bX10_call_40 {E : px_E} {d : Nat} {w : pw_W} {Q : Option Value → pw_W → Prop} {t : ct_T} (hw : w.1 = cs t) {x2 : Int32}  
    (k1 : px_Call E (d + 2) 0 0 mX10_keepAir [.ref 61] w (fun v w' => px_W E mX10_call (d + 3) 0 0 44 [.ref 61, .null, .int x2] (v.toList ++ []) w' Q)) :
    px_W E mX10_call (d + 3) 0 0 40 [.ref 61, .null, .int x2] [] w Q := by
  refine px_aload_n dX10_call_40 rfl rfl ?_
  exact px_callV (As := []) (st := []) (rc := 0) (rs := 0) (mc := 0) (ms := 0) dX10_call_41 lk_10_425 (px_sh1 hw sh_61) rfl rfl (Nat.le_of_ble_eq_true rfl) k1
theorem bX10_call_44 {E : px_E} {d : Nat} {w : pw_W} {Q : Option Value → pw_W → Prop} {t : ct_T} (hw : w.1 = cs t) {x2 : Int32}  (j1 : Nat) (hj1 : (6 + x2) = nI j1) (hl1 : j1 < 15)
    (k1 : Q (some (.int (pw_I w 89 j1))) w) :
    px_W E mX10_call (d + 3) 0 0 44 [.ref 61, .null, .int x2] [] w Q := by
  refine px_aload_n dX10_call_44 rfl rfl ?_
  refine px_getR (v := 89) dX10_call_45 fr_10_99 rfl (px_sh1 hw sh_61) (px_rf hw rf_61_60) (by decide) ?_
  refine px_bipush dX10_call_48 bp_6 ?_
  refine px_iload_n dX10_call_50 rfl rfl ?_
  refine px_iadd dX10_call_51 ?_
  refine px_iald dX10_call_52 (px_sh2 hw sh_89) (by decide) j1 hj1 hl1 ?_
  exact px_ireturn dX10_call_53 rfl rfl k1
theorem dX10_undo_0 : decode mX10_undo.2.1 0 = .ok (.aload_n 0, 1) := by decide +kernel
theorem dX10_undo_1 : decode mX10_undo.2.1 1 = .ok (.getfield 428, 3) := by decide +kernel
theorem dX10_undo_4 : decode mX10_undo.2.1 4 = .ok (.ifCond .ne 5, 3) := by decide +kernel
theorem dX10_undo_7 : decode mX10_undo.2.1 7 = .ok (.iconst 0, 1) := by decide +kernel
theorem dX10_undo_8 : decode mX10_undo.2.1 8 = .ok (.ireturn, 1) := by decide +kernel
theorem dX10_undo_9 : decode mX10_undo.2.1 9 = .ok (.aload_n 0, 1) := by decide +kernel
theorem dX10_undo_10 : decode mX10_undo.2.1 10 = .ok (.dup, 1) := by decide +kernel
theorem dX10_undo_11 : decode mX10_undo.2.1 11 = .ok (.getfield 428, 3) := by decide +kernel
theorem dX10_undo_14 : decode mX10_undo.2.1 14 = .ok (.iconst 1, 1) := by decide +kernel
theorem dX10_undo_15 : decode mX10_undo.2.1 15 = .ok (.isub, 1) := by decide +kernel
theorem dX10_undo_16 : decode mX10_undo.2.1 16 = .ok (.putfield 428, 3) := by decide +kernel
theorem dX10_undo_19 : decode mX10_undo.2.1 19 = .ok (.aload_n 0, 1) := by decide +kernel
theorem dX10_undo_20 : decode mX10_undo.2.1 20 = .ok (.dup, 1) := by decide +kernel
theorem dX10_undo_21 : decode mX10_undo.2.1 21 = .ok (.getfield 431, 3) := by decide +kernel
theorem dX10_undo_24 : decode mX10_undo.2.1 24 = .ok (.iconst 1, 1) := by decide +kernel
theorem dX10_undo_25 : decode mX10_undo.2.1 25 = .ok (.iadd, 1) := by decide +kernel
theorem dX10_undo_26 : decode mX10_undo.2.1 26 = .ok (.putfield 431, 3) := by decide +kernel
theorem dX10_undo_29 : decode mX10_undo.2.1 29 = .ok (.aload_n 0, 1) := by decide +kernel
theorem dX10_undo_30 : decode mX10_undo.2.1 30 = .ok (.bipush 15, 2) := by decide +kernel
theorem dX10_undo_32 : decode mX10_undo.2.1 32 = .ok (.aload_n 0, 1) := by decide +kernel
theorem dX10_undo_33 : decode mX10_undo.2.1 33 = .ok (.getfield 428, 3) := by decide +kernel
theorem dX10_undo_36 : decode mX10_undo.2.1 36 = .ok (.imul, 1) := by decide +kernel
theorem dX10_undo_37 : decode mX10_undo.2.1 37 = .ok (.invokevirtual 504, 3) := by decide +kernel
theorem dX10_undo_40 : decode mX10_undo.2.1 40 = .ok (.iconst 1, 1) := by decide +kernel
theorem dX10_undo_41 : decode mX10_undo.2.1 41 = .ok (.ireturn, 1) := by decide +kernel
theorem bX10_undo_0 {E : px_E} {d : Nat} {w : pw_W} {Q : Option Value → pw_W → Prop} {t : ct_T} (hw : w.1 = cs t)  
    (k1 : ¬ (pw_I w 61 63) = 0 → px_Call E d 0 0 mX10_exchange [.ref 61, .int (15 * ((pw_I w 61 63) - 1))] (pw_sI (pw_sI w 61 63 ((pw_I w 61 63) - 1)) 61 64 ((pw_I w 61 64) + 1)) (fun v w' => px_W E mX10_undo (d + 1) 0 0 40 [.null] (v.toList ++ []) w' Q))
    (k2 : (pw_I w 61 63) = 0 → Q (some (.int 0)) w) :
    px_W E mX10_undo (d + 1) 0 0 0 [.ref 61] [] w Q := by
  refine px_aload_n dX10_undo_0 rfl rfl ?_
  refine px_getI dX10_undo_1 fr_10_428 rfl (px_sh1 hw sh_61) ?_
  refine px_if_ne (tgt := 9) dX10_undo_4 (by decide) (fun h1 => ?_) (fun h1 => ?_)
  ·
    refine px_aload_n dX10_undo_9 rfl rfl ?_
    refine px_dup dX10_undo_10 rfl ?_
    refine px_getI dX10_undo_11 fr_10_428 rfl (px_sh1 hw sh_61) ?_
    refine px_iconst dX10_undo_14 ic_1 ?_
    refine px_isub dX10_undo_15 ?_
    refine px_putI dX10_undo_16 fl_10_428 (Or.inl rfl) rfl (px_sh1 hw sh_61) rfl rfl (by omega) ?_
    refine px_aload_n dX10_undo_19 rfl rfl ?_
    refine px_dup dX10_undo_20 rfl ?_
    refine px_getIv (v := (pw_I w 61 64)) dX10_undo_21 fr_10_431 rfl (px_sh1 (hI hw) sh_61) rfl ?_
    refine px_iconst dX10_undo_24 ic_1 ?_
    refine px_iadd dX10_undo_25 ?_
    refine px_putI dX10_undo_26 fl_10_431 (Or.inl rfl) rfl (px_sh1 (hI hw) sh_61) rfl rfl (by omega) ?_
    refine px_aload_n dX10_undo_29 rfl rfl ?_
    refine px_bipush dX10_undo_30 bp_15 ?_
    refine px_aload_n dX10_undo_32 rfl rfl ?_
    refine px_getIv (v := ((pw_I w 61 63) - 1)) dX10_undo_33 fr_10_428 rfl (px_sh1 (hI (hI hw)) sh_61) rfl ?_
    refine px_imul dX10_undo_36 ?_
    refine px_forget (ls' := [.null]) ?_ ⟨Or.inl rfl, trivial⟩
    exact px_callV (As := [.int (15 * ((pw_I w 61 63) - 1))]) (st := []) (rc := 0) (rs := 0) (mc := 0) (ms := 0) dX10_undo_37 lk_10_504 (px_sh1 (hI (hI hw)) sh_61) rfl rfl (Nat.le_of_ble_eq_true rfl) (k1 h1)
  ·
    refine px_iconst dX10_undo_7 ic_0 ?_
    exact px_ireturn dX10_undo_8 rfl (by decide) (k2 h1)
theorem eX10_undo {E : px_E} {d : Nat} {w : pw_W} {Q : Option Value → pw_W → Prop} {t : ct_T} (hw : w.1 = cs t)  
    (k1 : ¬ (pw_I w 61 63) = 0 → px_Call E d 0 0 mX10_exchange [.ref 61, .int (15 * ((pw_I w 61 63) - 1))] (pw_sI (pw_sI w 61 63 ((pw_I w 61 63) - 1)) 61 64 ((pw_I w 61 64) + 1)) (fun v w' => px_W E mX10_undo (d + 1) 0 0 40 [.null] (v.toList ++ []) w' Q))
    (k2 : (pw_I w 61 63) = 0 → Q (some (.int 0)) w) :
    px_Call E (d + 1) 0 0 mX10_undo [.ref 61] w Q :=
  px_enter (k := 0) (by decide) (Nat.le_of_ble_eq_true rfl) rfl (px_forget (bX10_undo_0 hw k1 k2) ⟨Or.inr rfl, trivial⟩)
theorem bX10_undo_40 {E : px_E} {d : Nat} {w : pw_W} {Q : Option Value → pw_W → Prop} {t : ct_T} (hw : w.1 = cs t)  
    (k1 : Q (some (.int 1)) w) :
    px_W E mX10_undo (d + 1) 0 0 40 [.null] [] w Q := by
  refine px_iconst dX10_undo_40 ic_1 ?_
  exact px_ireturn dX10_undo_41 rfl (by decide) k1
theorem dX10_redo_0 : decode mX10_redo.2.1 0 = .ok (.aload_n 0, 1) := by decide +kernel
theorem dX10_redo_1 : decode mX10_redo.2.1 1 = .ok (.getfield 431, 3) := by decide +kernel
theorem dX10_redo_4 : decode mX10_redo.2.1 4 = .ok (.ifCond .ne 5, 3) := by decide +kernel
theorem dX10_redo_7 : decode mX10_redo.2.1 7 = .ok (.iconst 0, 1) := by decide +kernel
theorem dX10_redo_8 : decode mX10_redo.2.1 8 = .ok (.ireturn, 1) := by decide +kernel
theorem dX10_redo_9 : decode mX10_redo.2.1 9 = .ok (.aload_n 0, 1) := by decide +kernel
theorem dX10_redo_10 : decode mX10_redo.2.1 10 = .ok (.bipush 15, 2) := by decide +kernel
theorem dX10_redo_12 : decode mX10_redo.2.1 12 = .ok (.aload_n 0, 1) := by decide +kernel
theorem dX10_redo_13 : decode mX10_redo.2.1 13 = .ok (.getfield 428, 3) := by decide +kernel
theorem dX10_redo_16 : decode mX10_redo.2.1 16 = .ok (.imul, 1) := by decide +kernel
theorem dX10_redo_17 : decode mX10_redo.2.1 17 = .ok (.invokevirtual 504, 3) := by decide +kernel
theorem dX10_redo_20 : decode mX10_redo.2.1 20 = .ok (.aload_n 0, 1) := by decide +kernel
theorem dX10_redo_21 : decode mX10_redo.2.1 21 = .ok (.dup, 1) := by decide +kernel
theorem dX10_redo_22 : decode mX10_redo.2.1 22 = .ok (.getfield 428, 3) := by decide +kernel
theorem dX10_redo_25 : decode mX10_redo.2.1 25 = .ok (.iconst 1, 1) := by decide +kernel
theorem dX10_redo_26 : decode mX10_redo.2.1 26 = .ok (.iadd, 1) := by decide +kernel
theorem dX10_redo_27 : decode mX10_redo.2.1 27 = .ok (.putfield 428, 3) := by decide +kernel
theorem dX10_redo_30 : decode mX10_redo.2.1 30 = .ok (.aload_n 0, 1) := by decide +kernel
theorem dX10_redo_31 : decode mX10_redo.2.1 31 = .ok (.dup, 1) := by decide +kernel
theorem dX10_redo_32 : decode mX10_redo.2.1 32 = .ok (.getfield 431, 3) := by decide +kernel
theorem dX10_redo_35 : decode mX10_redo.2.1 35 = .ok (.iconst 1, 1) := by decide +kernel
theorem dX10_redo_36 : decode mX10_redo.2.1 36 = .ok (.isub, 1) := by decide +kernel
theorem dX10_redo_37 : decode mX10_redo.2.1 37 = .ok (.putfield 431, 3) := by decide +kernel
theorem dX10_redo_40 : decode mX10_redo.2.1 40 = .ok (.iconst 1, 1) := by decide +kernel
theorem dX10_redo_41 : decode mX10_redo.2.1 41 = .ok (.ireturn, 1) := by decide +kernel
theorem bX10_redo_0 {E : px_E} {d : Nat} {w : pw_W} {Q : Option Value → pw_W → Prop} {t : ct_T} (hw : w.1 = cs t)  
    (k1 : ¬ (pw_I w 61 64) = 0 → px_Call E d 0 0 mX10_exchange [.ref 61, .int (15 * (pw_I w 61 63))] w (fun v w' => px_W E mX10_redo (d + 1) 0 0 20 [.ref 61] (v.toList ++ []) w' Q))
    (k2 : (pw_I w 61 64) = 0 → Q (some (.int 0)) w) :
    px_W E mX10_redo (d + 1) 0 0 0 [.ref 61] [] w Q := by
  refine px_aload_n dX10_redo_0 rfl rfl ?_
  refine px_getI dX10_redo_1 fr_10_431 rfl (px_sh1 hw sh_61) ?_
  refine px_if_ne (tgt := 9) dX10_redo_4 (by decide) (fun h1 => ?_) (fun h1 => ?_)
  ·
    refine px_aload_n dX10_redo_9 rfl rfl ?_
    refine px_bipush dX10_redo_10 bp_15 ?_
    refine px_aload_n dX10_redo_12 rfl rfl ?_
    refine px_getI dX10_redo_13 fr_10_428 rfl (px_sh1 hw sh_61) ?_
    refine px_imul dX10_redo_16 ?_
    exact px_callV (As := [.int (15 * (pw_I w 61 63))]) (st := []) (rc := 0) (rs := 0) (mc := 0) (ms := 0) dX10_redo_17 lk_10_504 (px_sh1 hw sh_61) rfl rfl (Nat.le_of_ble_eq_true rfl) (k1 h1)
  ·
    refine px_iconst dX10_redo_7 ic_0 ?_
    exact px_ireturn dX10_redo_8 rfl (by decide) (k2 h1)
theorem eX10_redo {E : px_E} {d : Nat} {w : pw_W} {Q : Option Value → pw_W → Prop} {t : ct_T} (hw : w.1 = cs t)  
    (k1 : ¬ (pw_I w 61 64) = 0 → px_Call E d 0 0 mX10_exchange [.ref 61, .int (15 * (pw_I w 61 63))] w (fun v w' => px_W E mX10_redo (d + 1) 0 0 20 [.ref 61] (v.toList ++ []) w' Q))
    (k2 : (pw_I w 61 64) = 0 → Q (some (.int 0)) w) :
    px_Call E (d + 1) 0 0 mX10_redo [.ref 61] w Q :=
  px_enter (k := 0) (by decide) (Nat.le_of_ble_eq_true rfl) rfl (px_forget (bX10_redo_0 hw k1 k2) ⟨Or.inr rfl, trivial⟩)
theorem bX10_redo_20 {E : px_E} {d : Nat} {w : pw_W} {Q : Option Value → pw_W → Prop} {t : ct_T} (hw : w.1 = cs t)  
    (k1 : Q (some (.int 1)) (pw_sI (pw_sI w 61 63 ((pw_I w 61 63) + 1)) 61 64 ((pw_I w 61 64) - 1))) :
    px_W E mX10_redo (d + 1) 0 0 20 [.ref 61] [] w Q := by
  refine px_aload_n dX10_redo_20 rfl rfl ?_
  refine px_dup dX10_redo_21 rfl ?_
  refine px_getI dX10_redo_22 fr_10_428 rfl (px_sh1 hw sh_61) ?_
  refine px_iconst dX10_redo_25 ic_1 ?_
  refine px_iadd dX10_redo_26 ?_
  refine px_putI dX10_redo_27 fl_10_428 (Or.inl rfl) rfl (px_sh1 hw sh_61) rfl rfl (by omega) ?_
  refine px_aload_n dX10_redo_30 rfl rfl ?_
  refine px_dup dX10_redo_31 rfl ?_
  refine px_getIv (v := (pw_I w 61 64)) dX10_redo_32 fr_10_431 rfl (px_sh1 (hI hw) sh_61) rfl ?_
  refine px_iconst dX10_redo_35 ic_1 ?_
  refine px_isub dX10_redo_36 ?_
  refine px_putI dX10_redo_37 fl_10_431 (Or.inl rfl) rfl (px_sh1 (hI hw) sh_61) rfl rfl (by omega) ?_
  refine px_iconst dX10_redo_40 ic_1 ?_
  exact px_ireturn dX10_redo_41 rfl (by decide) k1
theorem dX10_will_0 : decode mX10_will.2.1 0 = .ok (.aload_n 0, 1) := by decide +kernel
theorem dX10_will_1 : decode mX10_will.2.1 1 = .ok (.iload_n 1, 1) := by decide +kernel
theorem dX10_will_2 : decode mX10_will.2.1 2 = .ok (.invokevirtual 477, 3) := by decide +kernel
theorem dX10_will_5 : decode mX10_will.2.1 5 = .ok (.ifCond .eq 22, 3) := by decide +kernel
theorem dX10_will_8 : decode mX10_will.2.1 8 = .ok (.iload_n 2, 1) := by decide +kernel
theorem dX10_will_9 : decode mX10_will.2.1 9 = .ok (.iconst 0, 1) := by decide +kernel
theorem dX10_will_10 : decode mX10_will.2.1 10 = .ok (.bipush 60, 2) := by decide +kernel
theorem dX10_will_12 : decode mX10_will.2.1 12 = .ok (.invokestatic 440, 3) := by decide +kernel
theorem dX10_will_15 : decode mX10_will.2.1 15 = .ok (.ifCond .eq 12, 3) := by decide +kernel
theorem dX10_will_18 : decode mX10_will.2.1 18 = .ok (.iload_n 3, 1) := by decide +kernel
theorem dX10_will_19 : decode mX10_will.2.1 19 = .ok (.iconst 0, 1) := by decide +kernel
theorem dX10_will_20 : decode mX10_will.2.1 20 = .ok (.iconst 1, 1) := by decide +kernel
theorem dX10_will_21 : decode mX10_will.2.1 21 = .ok (.invokestatic 440, 3) := by decide +kernel
theorem dX10_will_24 : decode mX10_will.2.1 24 = .ok (.ifCond .ne 5, 3) := by decide +kernel
theorem dX10_will_27 : decode mX10_will.2.1 27 = .ok (.iconst (-1), 1) := by decide +kernel
theorem dX10_will_28 : decode mX10_will.2.1 28 = .ok (.ireturn, 1) := by decide +kernel
theorem dX10_will_29 : decode mX10_will.2.1 29 = .ok (.aload_n 0, 1) := by decide +kernel
theorem dX10_will_30 : decode mX10_will.2.1 30 = .ok (.invokevirtual 480, 3) := by decide +kernel
theorem dX10_will_33 : decode mX10_will.2.1 33 = .ok (.iconst 0, 1) := by decide +kernel
theorem dX10_will_34 : decode mX10_will.2.1 34 = .ok (.istore 4, 2) := by decide +kernel
theorem dX10_will_36 : decode mX10_will.2.1 36 = .ok (.iload 4, 2) := by decide +kernel
theorem dX10_will_38 : decode mX10_will.2.1 38 = .ok (.iload_n 2, 1) := by decide +kernel
theorem dX10_will_39 : decode mX10_will.2.1 39 = .ok (.if_icmp .ge 24, 3) := by decide +kernel
theorem dX10_will_42 : decode mX10_will.2.1 42 = .ok (.aload_n 0, 1) := by decide +kernel
theorem dX10_will_43 : decode mX10_will.2.1 43 = .ok (.iload_n 3, 1) := by decide +kernel
theorem dX10_will_44 : decode mX10_will.2.1 44 = .ok (.iconst 1, 1) := by decide +kernel
theorem dX10_will_45 : decode mX10_will.2.1 45 = .ok (.if_icmp .ne 7, 3) := by decide +kernel
theorem dX10_will_48 : decode mX10_will.2.1 48 = .ok (.iconst 1, 1) := by decide +kernel
theorem dX10_will_49 : decode mX10_will.2.1 49 = .ok (.goto 4, 3) := by decide +kernel
theorem dX10_will_52 : decode mX10_will.2.1 52 = .ok (.iconst 0, 1) := by decide +kernel
theorem dX10_will_53 : decode mX10_will.2.1 53 = .ok (.invokevirtual 495, 3) := by decide +kernel
theorem dX10_will_56 : decode mX10_will.2.1 56 = .ok (.pop, 1) := by decide +kernel
theorem dX10_will_57 : decode mX10_will.2.1 57 = .ok (.iinc 4 1, 3) := by decide +kernel
theorem dX10_will_60 : decode mX10_will.2.1 60 = .ok (.goto (-24), 3) := by decide +kernel
theorem dX10_will_63 : decode mX10_will.2.1 63 = .ok (.aload_n 0, 1) := by decide +kernel
theorem dX10_will_64 : decode mX10_will.2.1 64 = .ok (.getfield 102, 3) := by decide +kernel
theorem dX10_will_67 : decode mX10_will.2.1 67 = .ok (.bipush 6, 2) := by decide +kernel
theorem dX10_will_69 : decode mX10_will.2.1 69 = .ok (.iload_n 1, 1) := by decide +kernel
theorem dX10_will_70 : decode mX10_will.2.1 70 = .ok (.iadd, 1) := by decide +kernel
theorem dX10_will_71 : decode mX10_will.2.1 71 = .ok (.iaload, 1) := by decide +kernel
theorem dX10_will_72 : decode mX10_will.2.1 72 = .ok (.ireturn, 1) := by decide +kernel
theorem bX10_will_0 {E : px_E} {d : Nat} {w : pw_W} {Q : Option Value → pw_W → Prop} {t : ct_T} (hw : w.1 = cs t) {x1 x2 x3 : Int32}  
    (k1 : ¬ (pX10_isPerson w x1) → px_W E mX10_will (d + 3) 0 0 27 [.null, .null, .null, .null, .null] [] w Q)
    (k2 : (pX10_isPerson w x1) → ¬ (pX10_isIn x2 0 60) → px_W E mX10_will (d + 3) 0 0 27 [.null, .null, .null, .null, .null] [] w Q)
    (k3 : (pX10_isPerson w x1) → (pX10_isIn x2 0 60) → (pX10_isIn x3 0 1) → px_Call E (d + 2) 0 0 mX10_fill [.ref 61] w (fun v w' => px_W E mX10_will (d + 3) 0 0 33 [.ref 61, .int x1, .int x2, .int x3, .null] (v.toList ++ []) w' Q))
    (k4 : (pX10_isPerson w x1) → (pX10_isIn x2 0 60) → ¬ (pX10_isIn x3 0 1) → px_W E mX10_will (d + 3) 0 0 27 [.null, .null, .null, .null, .null] [] w Q) :
    px_W E mX10_will (d + 3) 0 0 0 [.ref 61, .int x1, .int x2, .int x3, .null] [] w Q := by
  refine px_aload_n dX10_will_0 rfl rfl ?_
  refine px_iload_n dX10_will_1 rfl rfl ?_
  refine px_callV (As := [.int x1]) (st := []) (rc := 0) (rs := 0) (mc := 0) (ms := 0) dX10_will_2 lk_10_477 (px_sh1 hw sh_61) rfl rfl (Nat.le_of_ble_eq_true rfl) (sX10_isPerson (w := w) hw ?_)
  show px_W E mX10_will (d + 3) 0 0 5 [.ref 61, .int x1, .int x2, .int x3, .null] [.int (jb (pX10_isPerson w x1))] w Q
  refine px_jb_eq (tgt := 27) dX10_will_5 (by decide) (fun h1 => ?_) (fun h1 => ?_)
  ·
    exact px_forget (k1 h1) ⟨Or.inl rfl, Or.inl rfl, Or.inl rfl, Or.inl rfl, Or.inl rfl, trivial⟩
  ·
    refine px_iload_n dX10_will_8 rfl rfl ?_
    refine px_iconst dX10_will_9 ic_0 ?_
    refine px_bipush dX10_will_10 bp_60 ?_
    refine px_callS (As := [.int x2, .int 0, .int 60]) (st := []) (rc := 0) (rs := 0) (mc := 0) (ms := 0) dX10_will_12 lk_10_440 rfl rfl (Nat.le_of_ble_eq_true rfl) (sX10_isIn ?_)
    show px_W E mX10_will (d + 3) 0 0 15 [.ref 61, .int x1, .int x2, .int x3, .null] [.int (jb (pX10_isIn x2 0 60))] w Q
    refine px_jb_eq (tgt := 27) dX10_will_15 (by decide) (fun h2 => ?_) (fun h2 => ?_)
    ·
      exact px_forget (k2 h1 h2) ⟨Or.inl rfl, Or.inl rfl, Or.inl rfl, Or.inl rfl, Or.inl rfl, trivial⟩
    ·
      refine px_iload_n dX10_will_18 rfl rfl ?_
      refine px_iconst dX10_will_19 ic_0 ?_
      refine px_iconst dX10_will_20 ic_1 ?_
      refine px_callS (As := [.int x3, .int 0, .int 1]) (st := []) (rc := 0) (rs := 0) (mc := 0) (ms := 0) dX10_will_21 lk_10_440 rfl rfl (Nat.le_of_ble_eq_true rfl) (sX10_isIn ?_)
      show px_W E mX10_will (d + 3) 0 0 24 [.ref 61, .int x1, .int x2, .int x3, .null] [.int (jb (pX10_isIn x3 0 1))] w Q
      refine px_jb_ne (tgt := 29) dX10_will_24 (by decide) (fun h3 => ?_) (fun h3 => ?_)
      ·
        refine px_aload_n dX10_will_29 rfl rfl ?_
        exact px_callV (As := []) (st := []) (rc := 0) (rs := 0) (mc := 0) (ms := 0) dX10_will_30 lk_10_480 (px_sh1 hw sh_61) rfl rfl (Nat.le_of_ble_eq_true rfl) (k3 h1 h2 h3)
      ·
        exact px_forget (k4 h1 h2 h3) ⟨Or.inl rfl, Or.inl rfl, Or.inl rfl, Or.inl rfl, Or.inl rfl, trivial⟩
theorem eX10_will {E : px_E} {d : Nat} {w : pw_W} {Q : Option Value → pw_W → Prop} {t : ct_T} (hw : w.1 = cs t) {x1 x2 x3 : Int32}  
    (k1 : ¬ (pX10_isPerson w x1) → px_W E mX10_will (d + 3) 0 0 27 [.null, .null, .null, .null, .null] [] w Q)
    (k2 : (pX10_isPerson w x1) → ¬ (pX10_isIn x2 0 60) → px_W E mX10_will (d + 3) 0 0 27 [.null, .null, .null, .null, .null] [] w Q)
    (k3 : (pX10_isPerson w x1) → (pX10_isIn x2 0 60) → (pX10_isIn x3 0 1) → px_Call E (d + 2) 0 0 mX10_fill [.ref 61] w (fun v w' => px_W E mX10_will (d + 3) 0 0 33 [.ref 61, .int x1, .int x2, .int x3, .null] (v.toList ++ []) w' Q))
    (k4 : (pX10_isPerson w x1) → (pX10_isIn x2 0 60) → ¬ (pX10_isIn x3 0 1) → px_W E mX10_will (d + 3) 0 0 27 [.null, .null, .null, .null, .null] [] w Q) :
    px_Call E (d + 3) 0 0 mX10_will [.ref 61, .int x1, .int x2, .int x3] w Q :=
  px_enter (k := 1) (by decide) (Nat.le_of_ble_eq_true rfl) rfl (px_forget (bX10_will_0 hw k1 k2 k3 k4) ⟨Or.inr rfl, Or.inr rfl, Or.inr rfl, Or.inr rfl, Or.inl rfl, trivial⟩)
theorem bX10_will_27 {E : px_E} {d : Nat} {w : pw_W} {Q : Option Value → pw_W → Prop} {t : ct_T} (hw : w.1 = cs t)  
    (k1 : Q (some (.int (-1))) w) :
    px_W E mX10_will (d + 3) 0 0 27 [.null, .null, .null, .null, .null] [] w Q := by
  refine px_iconst dX10_will_27 ic_m1 ?_
  exact px_ireturn dX10_will_28 rfl rfl k1
theorem bX10_will_33 {E : px_E} {d : Nat} {w : pw_W} {Q : Option Value → pw_W → Prop} {t : ct_T} (hw : w.1 = cs t) {x1 x2 x3 : Int32}  
    (k1 : px_W E mX10_will (d + 3) 0 0 36 [.ref 61, .int x1, .int x2, .int x3, .int 0] [] w Q) :
    px_W E mX10_will (d + 3) 0 0 33 [.ref 61, .int x1, .int x2, .int x3, .null] [] w Q := by
  refine px_iconst dX10_will_33 ic_0 ?_
  refine px_istore (ls' := [.ref 61, .int x1, .int x2, .int x3, .int 0]) dX10_will_34 ⟨by decide, rfl⟩ rfl ?_
  exact k1
theorem bX10_will_36 {E : px_E} {d : Nat} {w : pw_W} {Q : Option Value → pw_W → Prop} {t : ct_T} (hw : w.1 = cs t) {x1 x2 x3 x4 : Int32}  
    (k1 : x2 ≤ x4 → px_W E mX10_will (d + 3) 0 0 63 [.ref 61, .int x1, .null, .null, .null] [] w Q)
    (k2 : ¬ x2 ≤ x4 → ¬ x3 = 1 → px_W E mX10_will (d + 3) 0 0 53 [.ref 61, .int x1, .int x2, .int x3, .int x4] [.int 0, .ref 61] w Q)
    (k3 : ¬ x2 ≤ x4 → x3 = 1 → px_W E mX10_will (d + 3) 0 0 53 [.ref 61, .int x1, .int x2, .int x3, .int x4] [.int 1, .ref 61] w Q) :
    px_W E mX10_will (d + 3) 0 0 36 [.ref 61, .int x1, .int x2, .int x3, .int x4] [] w Q := by
  refine px_iload dX10_will_36 rfl ?_
  refine px_iload_n dX10_will_38 rfl rfl ?_
  refine px_icmp_ge (tgt := 63) dX10_will_39 (by decide) (fun h1 => ?_) (fun h1 => ?_)
  ·
    exact px_forget (k1 h1) ⟨Or.inr rfl, Or.inr rfl, Or.inl rfl, Or.inl rfl, Or.inl rfl, trivial⟩
  ·
    refine px_aload_n dX10_will_42 rfl rfl ?_
    refine px_iload_n dX10_will_43 rfl rfl ?_
    refine px_iconst dX10_will_44 ic_1 ?_
    refine px_icmp_ne (tgt := 52) dX10_will_45 (by decide) (fun h2 => ?_) (fun h2 => ?_)
    ·
      refine px_iconst dX10_will_52 ic_0 ?_
      exact (k2 h1 h2)
    ·
      refine px_iconst dX10_will_48 ic_1 ?_
      refine px_goto (tgt := 53) dX10_will_49 (by decide) ?_
      exact (k3 h1 h2)
theorem bX10_will_53 {E : px_E} {d : Nat} {w : pw_W} {Q : Option Value → pw_W → Prop} {t : ct_T} (hw : w.1 = cs t) {x1 x2 x3 x4 y1 : Int32}  
    (k1 : px_Call E (d + 2) 0 0 mX10_goDay [.ref 61, .int y1] w (fun v w' => px_W E mX10_will (d + 3) 0 0 56 [.ref 61, .int x1, .int x2, .int x3, .int x4] (v.toList ++ []) w' Q)) :
    px_W E mX10_will (d + 3) 0 0 53 [.ref 61, .int x1, .int x2, .int x3, .int x4] [.int y1, .ref 61] w Q := by
  exact px_callV (As := [.int y1]) (st := []) (rc := 0) (rs := 0) (mc := 0) (ms := 0) dX10_will_53 lk_10_495 (px_sh1 hw sh_61) rfl rfl (Nat.le_of_ble_eq_true rfl) k1
theorem bX10_will_56 {E : px_E} {d : Nat} {w : pw_W} {Q : Option Value → pw_W → Prop} {t : ct_T} (hw : w.1 = cs t) {x1 x2 x3 x4 y0 : Int32}  
    (k1 : px_W E mX10_will (d + 3) 0 0 36 [.ref 61, .int x1, .int x2, .int x3, .int (x4 + 1)] [] w Q) :
    px_W E mX10_will (d + 3) 0 0 56 [.ref 61, .int x1, .int x2, .int x3, .int x4] [.int y0] w Q := by
  refine px_pop dX10_will_56 rfl ?_
  refine px_iinc (ls' := [.ref 61, .int x1, .int x2, .int x3, .int (x4 + 1)]) dX10_will_57 ⟨by decide, rfl⟩ rfl rfl rfl ?_
  refine px_goto (tgt := 36) dX10_will_60 (by decide) ?_
  exact k1
theorem bX10_will_63 {E : px_E} {d : Nat} {w : pw_W} {Q : Option Value → pw_W → Prop} {t : ct_T} (hw : w.1 = cs t) {x1 : Int32}  (j1 : Nat) (hj1 : (6 + x1) = nI j1) (hl1 : j1 < 15)
    (k1 : Q (some (.int (pw_I w 90 j1))) w) :
    px_W E mX10_will (d + 3) 0 0 63 [.ref 61, .int x1, .null, .null, .null] [] w Q := by
  refine px_aload_n dX10_will_63 rfl rfl ?_
  refine px_getR (v := 90) dX10_will_64 fr_10_102 rfl (px_sh1 hw sh_61) (px_rf hw rf_61_61) (by decide) ?_
  refine px_bipush dX10_will_67 bp_6 ?_
  refine px_iload_n dX10_will_69 rfl rfl ?_
  refine px_iadd dX10_will_70 ?_
  refine px_iald dX10_will_71 (px_sh2 hw sh_90) (by decide) j1 hj1 hl1 ?_
  exact px_ireturn dX10_will_72 rfl rfl k1
theorem dX10_firm_0 : decode mX10_firm.2.1 0 = .ok (.aload_n 0, 1) := by decide +kernel
theorem dX10_firm_1 : decode mX10_firm.2.1 1 = .ok (.iload_n 1, 1) := by decide +kernel
theorem dX10_firm_2 : decode mX10_firm.2.1 2 = .ok (.invokevirtual 477, 3) := by decide +kernel
theorem dX10_firm_5 : decode mX10_firm.2.1 5 = .ok (.ifCond .eq 13, 3) := by decide +kernel
theorem dX10_firm_8 : decode mX10_firm.2.1 8 = .ok (.iload_n 2, 1) := by decide +kernel
theorem dX10_firm_9 : decode mX10_firm.2.1 9 = .ok (.iconst 0, 1) := by decide +kernel
theorem dX10_firm_10 : decode mX10_firm.2.1 10 = .ok (.bipush 60, 2) := by decide +kernel
theorem dX10_firm_12 : decode mX10_firm.2.1 12 = .ok (.invokestatic 440, 3) := by decide +kernel
theorem dX10_firm_15 : decode mX10_firm.2.1 15 = .ok (.ifCond .ne 5, 3) := by decide +kernel
theorem dX10_firm_18 : decode mX10_firm.2.1 18 = .ok (.iconst (-1), 1) := by decide +kernel
theorem dX10_firm_19 : decode mX10_firm.2.1 19 = .ok (.ireturn, 1) := by decide +kernel
theorem dX10_firm_20 : decode mX10_firm.2.1 20 = .ok (.aload_n 0, 1) := by decide +kernel
theorem dX10_firm_21 : decode mX10_firm.2.1 21 = .ok (.invokevirtual 480, 3) := by decide +kernel
theorem dX10_firm_24 : decode mX10_firm.2.1 24 = .ok (.iconst 0, 1) := by decide +kernel
theorem dX10_firm_25 : decode mX10_firm.2.1 25 = .ok (.istore_n 3, 1) := by decide +kernel
theorem dX10_firm_26 : decode mX10_firm.2.1 26 = .ok (.iload_n 3, 1) := by decide +kernel
theorem dX10_firm_27 : decode mX10_firm.2.1 27 = .ok (.iload_n 2, 1) := by decide +kernel
theorem dX10_firm_28 : decode mX10_firm.2.1 28 = .ok (.if_icmp .ge 15, 3) := by decide +kernel
theorem dX10_firm_31 : decode mX10_firm.2.1 31 = .ok (.aload_n 0, 1) := by decide +kernel
theorem dX10_firm_32 : decode mX10_firm.2.1 32 = .ok (.iconst 0, 1) := by decide +kernel
theorem dX10_firm_33 : decode mX10_firm.2.1 33 = .ok (.invokevirtual 495, 3) := by decide +kernel
theorem dX10_firm_36 : decode mX10_firm.2.1 36 = .ok (.pop, 1) := by decide +kernel
theorem dX10_firm_37 : decode mX10_firm.2.1 37 = .ok (.iinc 3 1, 3) := by decide +kernel
theorem dX10_firm_40 : decode mX10_firm.2.1 40 = .ok (.goto (-14), 3) := by decide +kernel
theorem dX10_firm_43 : decode mX10_firm.2.1 43 = .ok (.aload_n 0, 1) := by decide +kernel
theorem dX10_firm_44 : decode mX10_firm.2.1 44 = .ok (.getfield 102, 3) := by decide +kernel
theorem dX10_firm_47 : decode mX10_firm.2.1 47 = .ok (.iload_n 1, 1) := by decide +kernel
theorem dX10_firm_48 : decode mX10_firm.2.1 48 = .ok (.iaload, 1) := by decide +kernel
theorem dX10_firm_49 : decode mX10_firm.2.1 49 = .ok (.ireturn, 1) := by decide +kernel
theorem bX10_firm_0 {E : px_E} {d : Nat} {w : pw_W} {Q : Option Value → pw_W → Prop} {t : ct_T} (hw : w.1 = cs t) {x1 x2 : Int32}  
    (k1 : ¬ (pX10_isPerson w x1) → px_W E mX10_firm (d + 3) 0 0 18 [.null, .null, .null, .null] [] w Q)
    (k2 : (pX10_isPerson w x1) → (pX10_isIn x2 0 60) → px_Call E (d + 2) 0 0 mX10_fill [.ref 61] w (fun v w' => px_W E mX10_firm (d + 3) 0 0 24 [.ref 61, .int x1, .int x2, .null] (v.toList ++ []) w' Q))
    (k3 : (pX10_isPerson w x1) → ¬ (pX10_isIn x2 0 60) → px_W E mX10_firm (d + 3) 0 0 18 [.null, .null, .null, .null] [] w Q) :
    px_W E mX10_firm (d + 3) 0 0 0 [.ref 61, .int x1, .int x2, .null] [] w Q := by
  refine px_aload_n dX10_firm_0 rfl rfl ?_
  refine px_iload_n dX10_firm_1 rfl rfl ?_
  refine px_callV (As := [.int x1]) (st := []) (rc := 0) (rs := 0) (mc := 0) (ms := 0) dX10_firm_2 lk_10_477 (px_sh1 hw sh_61) rfl rfl (Nat.le_of_ble_eq_true rfl) (sX10_isPerson (w := w) hw ?_)
  show px_W E mX10_firm (d + 3) 0 0 5 [.ref 61, .int x1, .int x2, .null] [.int (jb (pX10_isPerson w x1))] w Q
  refine px_jb_eq (tgt := 18) dX10_firm_5 (by decide) (fun h1 => ?_) (fun h1 => ?_)
  ·
    exact px_forget (k1 h1) ⟨Or.inl rfl, Or.inl rfl, Or.inl rfl, Or.inl rfl, trivial⟩
  ·
    refine px_iload_n dX10_firm_8 rfl rfl ?_
    refine px_iconst dX10_firm_9 ic_0 ?_
    refine px_bipush dX10_firm_10 bp_60 ?_
    refine px_callS (As := [.int x2, .int 0, .int 60]) (st := []) (rc := 0) (rs := 0) (mc := 0) (ms := 0) dX10_firm_12 lk_10_440 rfl rfl (Nat.le_of_ble_eq_true rfl) (sX10_isIn ?_)
    show px_W E mX10_firm (d + 3) 0 0 15 [.ref 61, .int x1, .int x2, .null] [.int (jb (pX10_isIn x2 0 60))] w Q
    refine px_jb_ne (tgt := 20) dX10_firm_15 (by decide) (fun h2 => ?_) (fun h2 => ?_)
    ·
      refine px_aload_n dX10_firm_20 rfl rfl ?_
      exact px_callV (As := []) (st := []) (rc := 0) (rs := 0) (mc := 0) (ms := 0) dX10_firm_21 lk_10_480 (px_sh1 hw sh_61) rfl rfl (Nat.le_of_ble_eq_true rfl) (k2 h1 h2)
    ·
      exact px_forget (k3 h1 h2) ⟨Or.inl rfl, Or.inl rfl, Or.inl rfl, Or.inl rfl, trivial⟩
theorem eX10_firm {E : px_E} {d : Nat} {w : pw_W} {Q : Option Value → pw_W → Prop} {t : ct_T} (hw : w.1 = cs t) {x1 x2 : Int32}  
    (k1 : ¬ (pX10_isPerson w x1) → px_W E mX10_firm (d + 3) 0 0 18 [.null, .null, .null, .null] [] w Q)
    (k2 : (pX10_isPerson w x1) → (pX10_isIn x2 0 60) → px_Call E (d + 2) 0 0 mX10_fill [.ref 61] w (fun v w' => px_W E mX10_firm (d + 3) 0 0 24 [.ref 61, .int x1, .int x2, .null] (v.toList ++ []) w' Q))
    (k3 : (pX10_isPerson w x1) → ¬ (pX10_isIn x2 0 60) → px_W E mX10_firm (d + 3) 0 0 18 [.null, .null, .null, .null] [] w Q) :
    px_Call E (d + 3) 0 0 mX10_firm [.ref 61, .int x1, .int x2] w Q :=
  px_enter (k := 1) (by decide) (Nat.le_of_ble_eq_true rfl) rfl (px_forget (bX10_firm_0 hw k1 k2 k3) ⟨Or.inr rfl, Or.inr rfl, Or.inr rfl, Or.inl rfl, trivial⟩)
theorem bX10_firm_18 {E : px_E} {d : Nat} {w : pw_W} {Q : Option Value → pw_W → Prop} {t : ct_T} (hw : w.1 = cs t)  
    (k1 : Q (some (.int (-1))) w) :
    px_W E mX10_firm (d + 3) 0 0 18 [.null, .null, .null, .null] [] w Q := by
  refine px_iconst dX10_firm_18 ic_m1 ?_
  exact px_ireturn dX10_firm_19 rfl rfl k1
theorem bX10_firm_24 {E : px_E} {d : Nat} {w : pw_W} {Q : Option Value → pw_W → Prop} {t : ct_T} (hw : w.1 = cs t) {x1 x2 : Int32}  
    (k1 : px_W E mX10_firm (d + 3) 0 0 26 [.ref 61, .int x1, .int x2, .int 0] [] w Q) :
    px_W E mX10_firm (d + 3) 0 0 24 [.ref 61, .int x1, .int x2, .null] [] w Q := by
  refine px_iconst dX10_firm_24 ic_0 ?_
  refine px_istore_n (ls' := [.ref 61, .int x1, .int x2, .int 0]) dX10_firm_25 rfl ⟨by decide, rfl⟩ rfl ?_
  exact k1
theorem bX10_firm_26 {E : px_E} {d : Nat} {w : pw_W} {Q : Option Value → pw_W → Prop} {t : ct_T} (hw : w.1 = cs t) {x1 x2 x3 : Int32}  
    (k1 : x2 ≤ x3 → px_W E mX10_firm (d + 3) 0 0 43 [.ref 61, .int x1, .null, .null] [] w Q)
    (k2 : ¬ x2 ≤ x3 → px_Call E (d + 2) 0 0 mX10_goDay [.ref 61, .int 0] w (fun v w' => px_W E mX10_firm (d + 3) 0 0 36 [.ref 61, .int x1, .int x2, .int x3] (v.toList ++ []) w' Q)) :
    px_W E mX10_firm (d + 3) 0 0 26 [.ref 61, .int x1, .int x2, .int x3] [] w Q := by
  refine px_iload_n dX10_firm_26 rfl rfl ?_
  refine px_iload_n dX10_firm_27 rfl rfl ?_
  refine px_icmp_ge (tgt := 43) dX10_firm_28 (by decide) (fun h1 => ?_) (fun h1 => ?_)
  ·
    exact px_forget (k1 h1) ⟨Or.inr rfl, Or.inr rfl, Or.inl rfl, Or.inl rfl, trivial⟩
  ·
    refine px_aload_n dX10_firm_31 rfl rfl ?_
    refine px_iconst dX10_firm_32 ic_0 ?_
    exact px_callV (As := [.int 0]) (st := []) (rc := 0) (rs := 0) (mc := 0) (ms := 0) dX10_firm_33 lk_10_495 (px_sh1 hw sh_61) rfl rfl (Nat.le_of_ble_eq_true rfl) (k2 h1)
theorem bX10_firm_36 {E : px_E} {d : Nat} {w : pw_W} {Q : Option Value → pw_W → Prop} {t : ct_T} (hw : w.1 = cs t) {x1 x2 x3 y0 : Int32}  
    (k1 : px_W E mX10_firm (d + 3) 0 0 26 [.ref 61, .int x1, .int x2, .int (x3 + 1)] [] w Q) :
    px_W E mX10_firm (d + 3) 0 0 36 [.ref 61, .int x1, .int x2, .int x3] [.int y0] w Q := by
  refine px_pop dX10_firm_36 rfl ?_
  refine px_iinc (ls' := [.ref 61, .int x1, .int x2, .int (x3 + 1)]) dX10_firm_37 ⟨by decide, rfl⟩ rfl rfl rfl ?_
  refine px_goto (tgt := 26) dX10_firm_40 (by decide) ?_
  exact k1
theorem bX10_firm_43 {E : px_E} {d : Nat} {w : pw_W} {Q : Option Value → pw_W → Prop} {t : ct_T} (hw : w.1 = cs t) {x1 : Int32}  (j1 : Nat) (hj1 : x1 = nI j1) (hl1 : j1 < 15)
    (k1 : Q (some (.int (pw_I w 90 j1))) w) :
    px_W E mX10_firm (d + 3) 0 0 43 [.ref 61, .int x1, .null, .null] [] w Q := by
  refine px_aload_n dX10_firm_43 rfl rfl ?_
  refine px_getR (v := 90) dX10_firm_44 fr_10_102 rfl (px_sh1 hw sh_61) (px_rf hw rf_61_61) (by decide) ?_
  refine px_iload_n dX10_firm_47 rfl rfl ?_
  refine px_iald dX10_firm_48 (px_sh2 hw sh_90) (by decide) j1 hj1 hl1 ?_
  exact px_ireturn dX10_firm_49 rfl rfl k1
theorem dX10_hurtBehind_0 : decode mX10_hurtBehind.2.1 0 = .ok (.iconst 0, 1) := by decide +kernel
theorem dX10_hurtBehind_1 : decode mX10_hurtBehind.2.1 1 = .ok (.istore_n 2, 1) := by decide +kernel
theorem dX10_hurtBehind_2 : decode mX10_hurtBehind.2.1 2 = .ok (.iload_n 2, 1) := by decide +kernel
theorem dX10_hurtBehind_3 : decode mX10_hurtBehind.2.1 3 = .ok (.iload_n 1, 1) := by decide +kernel
theorem dX10_hurtBehind_4 : decode mX10_hurtBehind.2.1 4 = .ok (.if_icmp .ge 15, 3) := by decide +kernel
theorem dX10_hurtBehind_7 : decode mX10_hurtBehind.2.1 7 = .ok (.aload_n 0, 1) := by decide +kernel
theorem dX10_hurtBehind_8 : decode mX10_hurtBehind.2.1 8 = .ok (.iconst 0, 1) := by decide +kernel
theorem dX10_hurtBehind_9 : decode mX10_hurtBehind.2.1 9 = .ok (.invokevirtual 495, 3) := by decide +kernel
theorem dX10_hurtBehind_12 : decode mX10_hurtBehind.2.1 12 = .ok (.pop, 1) := by decide +kernel
theorem dX10_hurtBehind_13 : decode mX10_hurtBehind.2.1 13 = .ok (.iinc 2 1, 3) := by decide +kernel
theorem dX10_hurtBehind_16 : decode mX10_hurtBehind.2.1 16 = .ok (.goto (-14), 3) := by decide +kernel
theorem dX10_hurtBehind_19 : decode mX10_hurtBehind.2.1 19 = .ok (.iconst 0, 1) := by decide +kernel
theorem dX10_hurtBehind_20 : decode mX10_hurtBehind.2.1 20 = .ok (.istore_n 2, 1) := by decide +kernel
theorem dX10_hurtBehind_21 : decode mX10_hurtBehind.2.1 21 = .ok (.iconst 0, 1) := by decide +kernel
theorem dX10_hurtBehind_22 : decode mX10_hurtBehind.2.1 22 = .ok (.istore_n 3, 1) := by decide +kernel
theorem dX10_hurtBehind_23 : decode mX10_hurtBehind.2.1 23 = .ok (.iload_n 3, 1) := by decide +kernel
theorem dX10_hurtBehind_24 : decode mX10_hurtBehind.2.1 24 = .ok (.aload_n 0, 1) := by decide +kernel
theorem dX10_hurtBehind_25 : decode mX10_hurtBehind.2.1 25 = .ok (.getfield 404, 3) := by decide +kernel
theorem dX10_hurtBehind_28 : decode mX10_hurtBehind.2.1 28 = .ok (.if_icmp .ge 21, 3) := by decide +kernel
theorem dX10_hurtBehind_31 : decode mX10_hurtBehind.2.1 31 = .ok (.iload_n 2, 1) := by decide +kernel
theorem dX10_hurtBehind_32 : decode mX10_hurtBehind.2.1 32 = .ok (.aload_n 0, 1) := by decide +kernel
theorem dX10_hurtBehind_33 : decode mX10_hurtBehind.2.1 33 = .ok (.getfield 102, 3) := by decide +kernel
theorem dX10_hurtBehind_36 : decode mX10_hurtBehind.2.1 36 = .ok (.bipush 6, 2) := by decide +kernel
theorem dX10_hurtBehind_38 : decode mX10_hurtBehind.2.1 38 = .ok (.iload_n 3, 1) := by decide +kernel
theorem dX10_hurtBehind_39 : decode mX10_hurtBehind.2.1 39 = .ok (.iadd, 1) := by decide +kernel
theorem dX10_hurtBehind_40 : decode mX10_hurtBehind.2.1 40 = .ok (.iaload, 1) := by decide +kernel
theorem dX10_hurtBehind_41 : decode mX10_hurtBehind.2.1 41 = .ok (.iadd, 1) := by decide +kernel
theorem dX10_hurtBehind_42 : decode mX10_hurtBehind.2.1 42 = .ok (.istore_n 2, 1) := by decide +kernel
theorem dX10_hurtBehind_43 : decode mX10_hurtBehind.2.1 43 = .ok (.iinc 3 1, 3) := by decide +kernel
theorem dX10_hurtBehind_46 : decode mX10_hurtBehind.2.1 46 = .ok (.goto (-23), 3) := by decide +kernel
theorem dX10_hurtBehind_49 : decode mX10_hurtBehind.2.1 49 = .ok (.iload_n 2, 1) := by decide +kernel
theorem dX10_hurtBehind_50 : decode mX10_hurtBehind.2.1 50 = .ok (.ireturn, 1) := by decide +kernel
theorem bX10_hurtBehind_0 {E : px_E} {d : Nat} {w : pw_W} {Q : Option Value → pw_W → Prop} {t : ct_T} (hw : w.1 = cs t) {x1 : Int32}  
    (k1 : px_W E mX10_hurtBehind (d + 1) 0 0 2 [.ref 61, .int x1, .int 0, .null] [] w Q) :
    px_W E mX10_hurtBehind (d + 1) 0 0 0 [.ref 61, .int x1, .null, .null] [] w Q := by
  refine px_iconst dX10_hurtBehind_0 ic_0 ?_
  refine px_istore_n (ls' := [.ref 61, .int x1, .int 0, .null]) dX10_hurtBehind_1 rfl ⟨by decide, rfl⟩ rfl ?_
  exact k1
theorem eX10_hurtBehind {E : px_E} {d : Nat} {w : pw_W} {Q : Option Value → pw_W → Prop} {t : ct_T} (hw : w.1 = cs t) {x1 : Int32}  
    (k1 : px_W E mX10_hurtBehind (d + 1) 0 0 2 [.ref 61, .int x1, .int 0, .null] [] w Q) :
    px_Call E (d + 1) 0 0 mX10_hurtBehind [.ref 61, .int x1] w Q :=
  px_enter (k := 2) (by decide) (Nat.le_of_ble_eq_true rfl) rfl (px_forget (bX10_hurtBehind_0 hw k1) ⟨Or.inr rfl, Or.inr rfl, Or.inl rfl, Or.inl rfl, trivial⟩)
theorem bX10_hurtBehind_2 {E : px_E} {d : Nat} {w : pw_W} {Q : Option Value → pw_W → Prop} {t : ct_T} (hw : w.1 = cs t) {x1 x2 : Int32}  
    (k1 : x1 ≤ x2 → px_W E mX10_hurtBehind (d + 1) 0 0 23 [.ref 61, .null, .int 0, .int 0] [] w Q)
    (k2 : ¬ x1 ≤ x2 → px_Call E d 0 0 mX10_goDay [.ref 61, .int 0] w (fun v w' => px_W E mX10_hurtBehind (d + 1) 0 0 12 [.ref 61, .int x1, .int x2, .null] (v.toList ++ []) w' Q)) :
    px_W E mX10_hurtBehind (d + 1) 0 0 2 [.ref 61, .int x1, .int x2, .null] [] w Q := by
  refine px_iload_n dX10_hurtBehind_2 rfl rfl ?_
  refine px_iload_n dX10_hurtBehind_3 rfl rfl ?_
  refine px_icmp_ge (tgt := 19) dX10_hurtBehind_4 (by decide) (fun h1 => ?_) (fun h1 => ?_)
  ·
    refine px_iconst dX10_hurtBehind_19 ic_0 ?_
    refine px_istore_n (ls' := [.ref 61, .int x1, .int 0, .null]) dX10_hurtBehind_20 rfl ⟨by decide, rfl⟩ rfl ?_
    refine px_iconst dX10_hurtBehind_21 ic_0 ?_
    refine px_istore_n (ls' := [.ref 61, .int x1, .int 0, .int 0]) dX10_hurtBehind_22 rfl ⟨by decide, rfl⟩ rfl ?_
    exact px_forget (k1 h1) ⟨Or.inr rfl, Or.inl rfl, Or.inr rfl, Or.inr rfl, trivial⟩
  ·
    refine px_aload_n dX10_hurtBehind_7 rfl rfl ?_
    refine px_iconst dX10_hurtBehind_8 ic_0 ?_
    exact px_callV (As := [.int 0]) (st := []) (rc := 0) (rs := 0) (mc := 0) (ms := 0) dX10_hurtBehind_9 lk_10_495 (px_sh1 hw sh_61) rfl rfl (Nat.le_of_ble_eq_true rfl) (k2 h1)
theorem bX10_hurtBehind_12 {E : px_E} {d : Nat} {w : pw_W} {Q : Option Value → pw_W → Prop} {t : ct_T} (hw : w.1 = cs t) {x1 x2 y0 : Int32}  
    (k1 : px_W E mX10_hurtBehind (d + 1) 0 0 2 [.ref 61, .int x1, .int (x2 + 1), .null] [] w Q) :
    px_W E mX10_hurtBehind (d + 1) 0 0 12 [.ref 61, .int x1, .int x2, .null] [.int y0] w Q := by
  refine px_pop dX10_hurtBehind_12 rfl ?_
  refine px_iinc (ls' := [.ref 61, .int x1, .int (x2 + 1), .null]) dX10_hurtBehind_13 ⟨by decide, rfl⟩ rfl rfl rfl ?_
  refine px_goto (tgt := 2) dX10_hurtBehind_16 (by decide) ?_
  exact k1
theorem bX10_hurtBehind_23 {E : px_E} {d : Nat} {w : pw_W} {Q : Option Value → pw_W → Prop} {t : ct_T} (hw : w.1 = cs t) {x2 x3 : Int32}  
    (k1 : (pw_I w 61 51) ≤ x3 → Q (some (.int x2)) w)
    (k2 : ¬ (pw_I w 61 51) ≤ x3 → px_W E mX10_hurtBehind (d + 1) 0 0 31 [.ref 61, .null, .int x2, .int x3] [] w Q) :
    px_W E mX10_hurtBehind (d + 1) 0 0 23 [.ref 61, .null, .int x2, .int x3] [] w Q := by
  refine px_iload_n dX10_hurtBehind_23 rfl rfl ?_
  refine px_aload_n dX10_hurtBehind_24 rfl rfl ?_
  refine px_getI dX10_hurtBehind_25 fr_10_404 rfl (px_sh1 hw sh_61) ?_
  refine px_icmp_ge (tgt := 49) dX10_hurtBehind_28 (by decide) (fun h1 => ?_) (fun h1 => ?_)
  ·
    refine px_iload_n dX10_hurtBehind_49 rfl rfl ?_
    exact px_ireturn dX10_hurtBehind_50 rfl rfl (k1 h1)
  ·
    exact (k2 h1)
theorem bX10_hurtBehind_31 {E : px_E} {d : Nat} {w : pw_W} {Q : Option Value → pw_W → Prop} {t : ct_T} (hw : w.1 = cs t) {x2 x3 : Int32}  (j1 : Nat) (hj1 : (6 + x3) = nI j1) (hl1 : j1 < 15)
    (k1 : px_W E mX10_hurtBehind (d + 1) 0 0 23 [.ref 61, .null, .int (x2 + (pw_I w 90 j1)), .int (x3 + 1)] [] w Q) :
    px_W E mX10_hurtBehind (d + 1) 0 0 31 [.ref 61, .null, .int x2, .int x3] [] w Q := by
  refine px_iload_n dX10_hurtBehind_31 rfl rfl ?_
  refine px_aload_n dX10_hurtBehind_32 rfl rfl ?_
  refine px_getR (v := 90) dX10_hurtBehind_33 fr_10_102 rfl (px_sh1 hw sh_61) (px_rf hw rf_61_61) (by decide) ?_
  refine px_bipush dX10_hurtBehind_36 bp_6 ?_
  refine px_iload_n dX10_hurtBehind_38 rfl rfl ?_
  refine px_iadd dX10_hurtBehind_39 ?_
  refine px_iald dX10_hurtBehind_40 (px_sh2 hw sh_90) (by decide) j1 hj1 hl1 ?_
  refine px_iadd dX10_hurtBehind_41 ?_
  refine px_istore_n (ls' := [.ref 61, .null, .int (x2 + (pw_I w 90 j1)), .int x3]) dX10_hurtBehind_42 rfl ⟨by decide, rfl⟩ rfl ?_
  refine px_iinc (ls' := [.ref 61, .null, .int (x2 + (pw_I w 90 j1)), .int (x3 + 1)]) dX10_hurtBehind_43 ⟨by decide, rfl⟩ rfl rfl rfl ?_
  refine px_goto (tgt := 23) dX10_hurtBehind_46 (by decide) ?_
  exact k1
theorem dX10_hurt_0 : decode mX10_hurt.2.1 0 = .ok (.iload_n 1, 1) := by decide +kernel
theorem dX10_hurt_1 : decode mX10_hurt.2.1 1 = .ok (.iconst 0, 1) := by decide +kernel
theorem dX10_hurt_2 : decode mX10_hurt.2.1 2 = .ok (.bipush 60, 2) := by decide +kernel
theorem dX10_hurt_4 : decode mX10_hurt.2.1 4 = .ok (.invokestatic 440, 3) := by decide +kernel
theorem dX10_hurt_7 : decode mX10_hurt.2.1 7 = .ok (.ifCond .ne 5, 3) := by decide +kernel
theorem dX10_hurt_10 : decode mX10_hurt.2.1 10 = .ok (.iconst (-1), 1) := by decide +kernel
theorem dX10_hurt_11 : decode mX10_hurt.2.1 11 = .ok (.ireturn, 1) := by decide +kernel
theorem dX10_hurt_12 : decode mX10_hurt.2.1 12 = .ok (.aload_n 0, 1) := by decide +kernel
theorem dX10_hurt_13 : decode mX10_hurt.2.1 13 = .ok (.invokevirtual 480, 3) := by decide +kernel
theorem dX10_hurt_16 : decode mX10_hurt.2.1 16 = .ok (.aload_n 0, 1) := by decide +kernel
theorem dX10_hurt_17 : decode mX10_hurt.2.1 17 = .ok (.iload_n 1, 1) := by decide +kernel
theorem dX10_hurt_18 : decode mX10_hurt.2.1 18 = .ok (.invokevirtual 507, 3) := by decide +kernel
theorem dX10_hurt_21 : decode mX10_hurt.2.1 21 = .ok (.ireturn, 1) := by decide +kernel
theorem bX10_hurt_0 {E : px_E} {d : Nat} {w : pw_W} {Q : Option Value → pw_W → Prop} {t : ct_T} (hw : w.1 = cs t) {x1 : Int32}  
    (k1 : (pX10_isIn x1 0 60) → px_Call E (d + 1) 0 0 mX10_fill [.ref 61] w (fun v w' => px_W E mX10_hurt (d + 2) 0 0 16 [.ref 61, .int x1] (v.toList ++ []) w' Q))
    (k2 : ¬ (pX10_isIn x1 0 60) → Q (some (.int (-1))) w) :
    px_W E mX10_hurt (d + 2) 0 0 0 [.ref 61, .int x1] [] w Q := by
  refine px_iload_n dX10_hurt_0 rfl rfl ?_
  refine px_iconst dX10_hurt_1 ic_0 ?_
  refine px_bipush dX10_hurt_2 bp_60 ?_
  refine px_callS (As := [.int x1, .int 0, .int 60]) (st := []) (rc := 0) (rs := 0) (mc := 0) (ms := 0) dX10_hurt_4 lk_10_440 rfl rfl (Nat.le_of_ble_eq_true rfl) (sX10_isIn ?_)
  show px_W E mX10_hurt (d + 2) 0 0 7 [.ref 61, .int x1] [.int (jb (pX10_isIn x1 0 60))] w Q
  refine px_jb_ne (tgt := 12) dX10_hurt_7 (by decide) (fun h1 => ?_) (fun h1 => ?_)
  ·
    refine px_aload_n dX10_hurt_12 rfl rfl ?_
    exact px_callV (As := []) (st := []) (rc := 0) (rs := 0) (mc := 0) (ms := 0) dX10_hurt_13 lk_10_480 (px_sh1 hw sh_61) rfl rfl (Nat.le_of_ble_eq_true rfl) (k1 h1)
  ·
    refine px_iconst dX10_hurt_10 ic_m1 ?_
    exact px_ireturn dX10_hurt_11 rfl rfl (k2 h1)
theorem eX10_hurt {E : px_E} {d : Nat} {w : pw_W} {Q : Option Value → pw_W → Prop} {t : ct_T} (hw : w.1 = cs t) {x1 : Int32}  
    (k1 : (pX10_isIn x1 0 60) → px_Call E (d + 1) 0 0 mX10_fill [.ref 61] w (fun v w' => px_W E mX10_hurt (d + 2) 0 0 16 [.ref 61, .int x1] (v.toList ++ []) w' Q))
    (k2 : ¬ (pX10_isIn x1 0 60) → Q (some (.int (-1))) w) :
    px_Call E (d + 2) 0 0 mX10_hurt [.ref 61, .int x1] w Q :=
  px_enter (k := 0) (by decide) (Nat.le_of_ble_eq_true rfl) rfl (px_forget (bX10_hurt_0 hw k1 k2) ⟨Or.inr rfl, Or.inr rfl, trivial⟩)
theorem bX10_hurt_16 {E : px_E} {d : Nat} {w : pw_W} {Q : Option Value → pw_W → Prop} {t : ct_T} (hw : w.1 = cs t) {x1 : Int32}  
    (k1 : px_Call E (d + 1) 0 0 mX10_hurtBehind [.ref 61, .int x1] w (fun v w' => px_W E mX10_hurt (d + 2) 0 0 21 [.null, .null] (v.toList ++ []) w' Q)) :
    px_W E mX10_hurt (d + 2) 0 0 16 [.ref 61, .int x1] [] w Q := by
  refine px_aload_n dX10_hurt_16 rfl rfl ?_
  refine px_iload_n dX10_hurt_17 rfl rfl ?_
  refine px_forget (ls' := [.null, .null]) ?_ ⟨Or.inl rfl, Or.inl rfl, trivial⟩
  exact px_callV (As := [.int x1]) (st := []) (rc := 0) (rs := 0) (mc := 0) (ms := 0) dX10_hurt_18 lk_10_507 (px_sh1 hw sh_61) rfl rfl (Nat.le_of_ble_eq_true rfl) k1
theorem bX10_hurt_21 {E : px_E} {d : Nat} {w : pw_W} {Q : Option Value → pw_W → Prop} {t : ct_T} (hw : w.1 = cs t) {y0 : Int32}  
    (k1 : Q (some (.int y0)) w) :
    px_W E mX10_hurt (d + 2) 0 0 21 [.null, .null] [.int y0] w Q := by
  exact px_ireturn dX10_hurt_21 rfl rfl k1
theorem dX10_felled_0 : decode mX10_felled.2.1 0 = .ok (.aload_n 0, 1) := by decide +kernel
theorem dX10_felled_1 : decode mX10_felled.2.1 1 = .ok (.iload_n 1, 1) := by decide +kernel
theorem dX10_felled_2 : decode mX10_felled.2.1 2 = .ok (.invokevirtual 477, 3) := by decide +kernel
theorem dX10_felled_5 : decode mX10_felled.2.1 5 = .ok (.ifCond .ne 5, 3) := by decide +kernel
theorem dX10_felled_8 : decode mX10_felled.2.1 8 = .ok (.iconst (-1), 1) := by decide +kernel
theorem dX10_felled_9 : decode mX10_felled.2.1 9 = .ok (.ireturn, 1) := by decide +kernel
theorem dX10_felled_10 : decode mX10_felled.2.1 10 = .ok (.aload_n 0, 1) := by decide +kernel
theorem dX10_felled_11 : decode mX10_felled.2.1 11 = .ok (.invokevirtual 480, 3) := by decide +kernel
theorem dX10_felled_14 : decode mX10_felled.2.1 14 = .ok (.iconst 0, 1) := by decide +kernel
theorem dX10_felled_15 : decode mX10_felled.2.1 15 = .ok (.istore_n 2, 1) := by decide +kernel
theorem dX10_felled_16 : decode mX10_felled.2.1 16 = .ok (.iload_n 2, 1) := by decide +kernel
theorem dX10_felled_17 : decode mX10_felled.2.1 17 = .ok (.bipush 60, 2) := by decide +kernel
theorem dX10_felled_19 : decode mX10_felled.2.1 19 = .ok (.if_icmp .gt 25, 3) := by decide +kernel
theorem dX10_felled_22 : decode mX10_felled.2.1 22 = .ok (.aload_n 0, 1) := by decide +kernel
theorem dX10_felled_23 : decode mX10_felled.2.1 23 = .ok (.iload_n 1, 1) := by decide +kernel
theorem dX10_felled_24 : decode mX10_felled.2.1 24 = .ok (.invokevirtual 444, 3) := by decide +kernel
theorem dX10_felled_27 : decode mX10_felled.2.1 27 = .ok (.ifCond .eq 5, 3) := by decide +kernel
theorem dX10_felled_30 : decode mX10_felled.2.1 30 = .ok (.iload_n 2, 1) := by decide +kernel
theorem dX10_felled_31 : decode mX10_felled.2.1 31 = .ok (.ireturn, 1) := by decide +kernel
theorem dX10_felled_32 : decode mX10_felled.2.1 32 = .ok (.aload_n 0, 1) := by decide +kernel
theorem dX10_felled_33 : decode mX10_felled.2.1 33 = .ok (.iconst 0, 1) := by decide +kernel
theorem dX10_felled_34 : decode mX10_felled.2.1 34 = .ok (.invokevirtual 495, 3) := by decide +kernel
theorem dX10_felled_37 : decode mX10_felled.2.1 37 = .ok (.pop, 1) := by decide +kernel
theorem dX10_felled_38 : decode mX10_felled.2.1 38 = .ok (.iinc 2 1, 3) := by decide +kernel
theorem dX10_felled_41 : decode mX10_felled.2.1 41 = .ok (.goto (-25), 3) := by decide +kernel
theorem dX10_felled_44 : decode mX10_felled.2.1 44 = .ok (.iconst (-1), 1) := by decide +kernel
theorem dX10_felled_45 : decode mX10_felled.2.1 45 = .ok (.ireturn, 1) := by decide +kernel
theorem bX10_felled_0 {E : px_E} {d : Nat} {w : pw_W} {Q : Option Value → pw_W → Prop} {t : ct_T} (hw : w.1 = cs t) {x1 : Int32}  
    (k1 : (pX10_isPerson w x1) → px_Call E (d + 2) 0 0 mX10_fill [.ref 61] w (fun v w' => px_W E mX10_felled (d + 3) 0 0 14 [.ref 61, .int x1, .null] (v.toList ++ []) w' Q))
    (k2 : ¬ (pX10_isPerson w x1) → Q (some (.int (-1))) w) :
    px_W E mX10_felled (d + 3) 0 0 0 [.ref 61, .int x1, .null] [] w Q := by
  refine px_aload_n dX10_felled_0 rfl rfl ?_
  refine px_iload_n dX10_felled_1 rfl rfl ?_
  refine px_callV (As := [.int x1]) (st := []) (rc := 0) (rs := 0) (mc := 0) (ms := 0) dX10_felled_2 lk_10_477 (px_sh1 hw sh_61) rfl rfl (Nat.le_of_ble_eq_true rfl) (sX10_isPerson (w := w) hw ?_)
  show px_W E mX10_felled (d + 3) 0 0 5 [.ref 61, .int x1, .null] [.int (jb (pX10_isPerson w x1))] w Q
  refine px_jb_ne (tgt := 10) dX10_felled_5 (by decide) (fun h1 => ?_) (fun h1 => ?_)
  ·
    refine px_aload_n dX10_felled_10 rfl rfl ?_
    exact px_callV (As := []) (st := []) (rc := 0) (rs := 0) (mc := 0) (ms := 0) dX10_felled_11 lk_10_480 (px_sh1 hw sh_61) rfl rfl (Nat.le_of_ble_eq_true rfl) (k1 h1)
  ·
    refine px_iconst dX10_felled_8 ic_m1 ?_
    exact px_ireturn dX10_felled_9 rfl rfl (k2 h1)
theorem eX10_felled {E : px_E} {d : Nat} {w : pw_W} {Q : Option Value → pw_W → Prop} {t : ct_T} (hw : w.1 = cs t) {x1 : Int32}  
    (k1 : (pX10_isPerson w x1) → px_Call E (d + 2) 0 0 mX10_fill [.ref 61] w (fun v w' => px_W E mX10_felled (d + 3) 0 0 14 [.ref 61, .int x1, .null] (v.toList ++ []) w' Q))
    (k2 : ¬ (pX10_isPerson w x1) → Q (some (.int (-1))) w) :
    px_Call E (d + 3) 0 0 mX10_felled [.ref 61, .int x1] w Q :=
  px_enter (k := 1) (by decide) (Nat.le_of_ble_eq_true rfl) rfl (px_forget (bX10_felled_0 hw k1 k2) ⟨Or.inr rfl, Or.inr rfl, Or.inl rfl, trivial⟩)
theorem bX10_felled_14 {E : px_E} {d : Nat} {w : pw_W} {Q : Option Value → pw_W → Prop} {t : ct_T} (hw : w.1 = cs t) {x1 : Int32}  
    (k1 : px_W E mX10_felled (d + 3) 0 0 16 [.ref 61, .int x1, .int 0] [] w Q) :
    px_W E mX10_felled (d + 3) 0 0 14 [.ref 61, .int x1, .null] [] w Q := by
  refine px_iconst dX10_felled_14 ic_0 ?_
  refine px_istore_n (ls' := [.ref 61, .int x1, .int 0]) dX10_felled_15 rfl ⟨by decide, rfl⟩ rfl ?_
  exact k1
theorem bX10_felled_16 {E : px_E} {d : Nat} {w : pw_W} {Q : Option Value → pw_W → Prop} {t : ct_T} (hw : w.1 = cs t) {x1 x2 : Int32}  
    (k1 : 60 < x2 → Q (some (.int (-1))) w)
    (k2 : ¬ 60 < x2 → px_W E mX10_felled (d + 3) 0 0 22 [.ref 61, .int x1, .int x2] [] w Q) :
    px_W E mX10_felled (d + 3) 0 0 16 [.ref 61, .int x1, .int x2] [] w Q := by
  refine px_iload_n dX10_felled_16 rfl rfl ?_
  refine px_bipush dX10_felled_17 bp_60 ?_
  refine px_icmp_gt (tgt := 44) dX10_felled_19 (by decide) (fun h1 => ?_) (fun h1 => ?_)
  ·
    refine px_iconst dX10_felled_44 ic_m1 ?_
    exact px_ireturn dX10_felled_45 rfl rfl (k1 h1)
  ·
    exact (k2 h1)
theorem bX10_felled_22 {E : px_E} {d : Nat} {w : pw_W} {Q : Option Value → pw_W → Prop} {t : ct_T} (hw : w.1 = cs t) {x1 x2 : Int32}  (j1 : Nat) (hj1 : (6 + x1) = nI j1) (hl1 : j1 < 15)
    (k1 : ¬ (pX10_isAbed w x1 j1) → px_Call E (d + 2) 0 0 mX10_goDay [.ref 61, .int 0] w (fun v w' => px_W E mX10_felled (d + 3) 0 0 37 [.ref 61, .int x1, .int x2] (v.toList ++ []) w' Q))
    (k2 : (pX10_isAbed w x1 j1) → Q (some (.int x2)) w) :
    px_W E mX10_felled (d + 3) 0 0 22 [.ref 61, .int x1, .int x2] [] w Q := by
  refine px_aload_n dX10_felled_22 rfl rfl ?_
  refine px_iload_n dX10_felled_23 rfl rfl ?_
  refine px_callV (As := [.int x1]) (st := []) (rc := 0) (rs := 0) (mc := 0) (ms := 0) dX10_felled_24 lk_10_444 (px_sh1 hw sh_61) rfl rfl (Nat.le_of_ble_eq_true rfl) (sX10_isAbed (w := w) hw j1 hj1 hl1 ?_)
  show px_W E mX10_felled (d + 3) 0 0 27 [.ref 61, .int x1, .int x2] [.int (jb (pX10_isAbed w x1 j1))] w Q
  refine px_jb_eq (tgt := 32) dX10_felled_27 (by decide) (fun h1 => ?_) (fun h1 => ?_)
  ·
    refine px_aload_n dX10_felled_32 rfl rfl ?_
    refine px_iconst dX10_felled_33 ic_0 ?_
    exact px_callV (As := [.int 0]) (st := []) (rc := 0) (rs := 0) (mc := 0) (ms := 0) dX10_felled_34 lk_10_495 (px_sh1 hw sh_61) rfl rfl (Nat.le_of_ble_eq_true rfl) (k1 h1)
  ·
    refine px_iload_n dX10_felled_30 rfl rfl ?_
    exact px_ireturn dX10_felled_31 rfl rfl (k2 h1)
theorem bX10_felled_37 {E : px_E} {d : Nat} {w : pw_W} {Q : Option Value → pw_W → Prop} {t : ct_T} (hw : w.1 = cs t) {x1 x2 y0 : Int32}  
    (k1 : px_W E mX10_felled (d + 3) 0 0 16 [.ref 61, .int x1, .int (x2 + 1)] [] w Q) :
    px_W E mX10_felled (d + 3) 0 0 37 [.ref 61, .int x1, .int x2] [.int y0] w Q := by
  refine px_pop dX10_felled_37 rfl ?_
  refine px_iinc (ls' := [.ref 61, .int x1, .int (x2 + 1)]) dX10_felled_38 ⟨by decide, rfl⟩ rfl rfl rfl ?_
  refine px_goto (tgt := 16) dX10_felled_41 (by decide) ?_
  exact k1
theorem dX10_isPeace_0 : decode mX10_isPeace.2.1 0 = .ok (.iconst 1, 1) := by decide +kernel
theorem dX10_isPeace_1 : decode mX10_isPeace.2.1 1 = .ok (.istore_n 3, 1) := by decide +kernel
theorem dX10_isPeace_2 : decode mX10_isPeace.2.1 2 = .ok (.iconst 0, 1) := by decide +kernel
theorem dX10_isPeace_3 : decode mX10_isPeace.2.1 3 = .ok (.istore 4, 2) := by decide +kernel
theorem dX10_isPeace_5 : decode mX10_isPeace.2.1 5 = .ok (.iload 4, 2) := by decide +kernel
theorem dX10_isPeace_7 : decode mX10_isPeace.2.1 7 = .ok (.iload_n 2, 1) := by decide +kernel
theorem dX10_isPeace_8 : decode mX10_isPeace.2.1 8 = .ok (.if_icmp .gt 34, 3) := by decide +kernel
theorem dX10_isPeace_11 : decode mX10_isPeace.2.1 11 = .ok (.iload_n 3, 1) := by decide +kernel
theorem dX10_isPeace_12 : decode mX10_isPeace.2.1 12 = .ok (.ifCond .eq 30, 3) := by decide +kernel
theorem dX10_isPeace_15 : decode mX10_isPeace.2.1 15 = .ok (.aload_n 0, 1) := by decide +kernel
theorem dX10_isPeace_16 : decode mX10_isPeace.2.1 16 = .ok (.invokevirtual 489, 3) := by decide +kernel
theorem dX10_isPeace_19 : decode mX10_isPeace.2.1 19 = .ok (.iload_n 1, 1) := by decide +kernel
theorem dX10_isPeace_20 : decode mX10_isPeace.2.1 20 = .ok (.iand, 1) := by decide +kernel
theorem dX10_isPeace_21 : decode mX10_isPeace.2.1 21 = .ok (.ifCond .ne 7, 3) := by decide +kernel
theorem dX10_isPeace_24 : decode mX10_isPeace.2.1 24 = .ok (.iconst 1, 1) := by decide +kernel
theorem dX10_isPeace_25 : decode mX10_isPeace.2.1 25 = .ok (.goto 4, 3) := by decide +kernel
theorem dX10_isPeace_28 : decode mX10_isPeace.2.1 28 = .ok (.iconst 0, 1) := by decide +kernel
theorem dX10_isPeace_29 : decode mX10_isPeace.2.1 29 = .ok (.istore_n 3, 1) := by decide +kernel
theorem dX10_isPeace_30 : decode mX10_isPeace.2.1 30 = .ok (.aload_n 0, 1) := by decide +kernel
theorem dX10_isPeace_31 : decode mX10_isPeace.2.1 31 = .ok (.iconst 0, 1) := by decide +kernel
theorem dX10_isPeace_32 : decode mX10_isPeace.2.1 32 = .ok (.invokevirtual 495, 3) := by decide +kernel
theorem dX10_isPeace_35 : decode mX10_isPeace.2.1 35 = .ok (.pop, 1) := by decide +kernel
theorem dX10_isPeace_36 : decode mX10_isPeace.2.1 36 = .ok (.iinc 4 1, 3) := by decide +kernel
theorem dX10_isPeace_39 : decode mX10_isPeace.2.1 39 = .ok (.goto (-34), 3) := by decide +kernel
theorem dX10_isPeace_42 : decode mX10_isPeace.2.1 42 = .ok (.iload_n 3, 1) := by decide +kernel
theorem dX10_isPeace_43 : decode mX10_isPeace.2.1 43 = .ok (.ireturn, 1) := by decide +kernel
theorem bX10_isPeace_0 {E : px_E} {d : Nat} {w : pw_W} {Q : Option Value → pw_W → Prop} {t : ct_T} (hw : w.1 = cs t) {x1 x2 : Int32}  
    (k1 : px_W E mX10_isPeace (d + 1) 0 0 5 [.ref 61, .int x1, .int x2, .int 1, .int 0] [] w Q) :
    px_W E mX10_isPeace (d + 1) 0 0 0 [.ref 61, .int x1, .int x2, .null, .null] [] w Q := by
  refine px_iconst dX10_isPeace_0 ic_1 ?_
  refine px_istore_n (ls' := [.ref 61, .int x1, .int x2, .int 1, .null]) dX10_isPeace_1 rfl ⟨by decide, rfl⟩ rfl ?_
  refine px_iconst dX10_isPeace_2 ic_0 ?_
  refine px_istore (ls' := [.ref 61, .int x1, .int x2, .int 1, .int 0]) dX10_isPeace_3 ⟨by decide, rfl⟩ rfl ?_
  exact k1
theorem eX10_isPeace {E : px_E} {d : Nat} {w : pw_W} {Q : Option Value → pw_W → Prop} {t : ct_T} (hw : w.1 = cs t) {x1 x2 : Int32}  
    (k1 : px_W E mX10_isPeace (d + 1) 0 0 5 [.ref 61, .int x1, .int x2, .int 1, .int 0] [] w Q) :
    px_Call E (d + 1) 0 0 mX10_isPeace [.ref 61, .int x1, .int x2] w Q :=
  px_enter (k := 2) (by decide) (Nat.le_of_ble_eq_true rfl) rfl (px_forget (bX10_isPeace_0 hw k1) ⟨Or.inr rfl, Or.inr rfl, Or.inr rfl, Or.inl rfl, Or.inl rfl, trivial⟩)
theorem bX10_isPeace_5 {E : px_E} {d : Nat} {w : pw_W} {Q : Option Value → pw_W → Prop} {t : ct_T} (hw : w.1 = cs t) {x1 x2 x3 x4 : Int32}  
    (k1 : x2 < x4 → px_W E mX10_isPeace (d + 1) 0 0 42 [.null, .null, .null, .int x3, .null] [] w Q)
    (k2 : ¬ x2 < x4 → x3 = 0 → px_W E mX10_isPeace (d + 1) 0 0 42 [.null, .null, .null, .int x3, .null] [] w Q)
    (k3 : ¬ x2 < x4 → ¬ x3 = 0 → px_Call E d 0 0 mX10_abedOnes [.ref 61] w (fun v w' => px_W E mX10_isPeace (d + 1) 0 0 19 [.ref 61, .int x1, .int x2, .null, .int x4] (v.toList ++ []) w' Q)) :
    px_W E mX10_isPeace (d + 1) 0 0 5 [.ref 61, .int x1, .int x2, .int x3, .int x4] [] w Q := by
  refine px_iload dX10_isPeace_5 rfl ?_
  refine px_iload_n dX10_isPeace_7 rfl rfl ?_
  refine px_icmp_gt (tgt := 42) dX10_isPeace_8 (by decide) (fun h1 => ?_) (fun h1 => ?_)
  ·
    exact px_forget (k1 h1) ⟨Or.inl rfl, Or.inl rfl, Or.inl rfl, Or.inr rfl, Or.inl rfl, trivial⟩
  ·
    refine px_iload_n dX10_isPeace_11 rfl rfl ?_
    refine px_if_eq (tgt := 42) dX10_isPeace_12 (by decide) (fun h2 => ?_) (fun h2 => ?_)
    ·
      exact px_forget (k2 h1 h2) ⟨Or.inl rfl, Or.inl rfl, Or.inl rfl, Or.inr rfl, Or.inl rfl, trivial⟩
    ·
      refine px_aload_n dX10_isPeace_15 rfl rfl ?_
      refine px_forget (ls' := [.ref 61, .int x1, .int x2, .null, .int x4]) ?_ ⟨Or.inr rfl, Or.inr rfl, Or.inr rfl, Or.inl rfl, Or.inr rfl, trivial⟩
      exact px_callV (As := []) (st := []) (rc := 0) (rs := 0) (mc := 0) (ms := 0) dX10_isPeace_16 lk_10_489 (px_sh1 hw sh_61) rfl rfl (Nat.le_of_ble_eq_true rfl) (k3 h1 h2)
theorem bX10_isPeace_19 {E : px_E} {d : Nat} {w : pw_W} {Q : Option Value → pw_W → Prop} {t : ct_T} (hw : w.1 = cs t) {x1 x2 x4 y0 : Int32}  
    (k1 : ¬ (y0 &&& x1) = 0 → px_W E mX10_isPeace (d + 1) 0 0 29 [.ref 61, .int x1, .int x2, .null, .int x4] [.int 0] w Q)
    (k2 : (y0 &&& x1) = 0 → px_W E mX10_isPeace (d + 1) 0 0 29 [.ref 61, .int x1, .int x2, .null, .int x4] [.int 1] w Q) :
    px_W E mX10_isPeace (d + 1) 0 0 19 [.ref 61, .int x1, .int x2, .null, .int x4] [.int y0] w Q := by
  refine px_iload_n dX10_isPeace_19 rfl rfl ?_
  refine px_iand dX10_isPeace_20 ?_
  refine px_if_ne (tgt := 28) dX10_isPeace_21 (by decide) (fun h1 => ?_) (fun h1 => ?_)
  ·
    refine px_iconst dX10_isPeace_28 ic_0 ?_
    exact (k1 h1)
  ·
    refine px_iconst dX10_isPeace_24 ic_1 ?_
    refine px_goto (tgt := 29) dX10_isPeace_25 (by decide) ?_
    exact (k2 h1)
theorem bX10_isPeace_29 {E : px_E} {d : Nat} {w : pw_W} {Q : Option Value → pw_W → Prop} {t : ct_T} (hw : w.1 = cs t) {x1 x2 x4 y0 : Int32}  
    (k1 : px_Call E d 0 0 mX10_goDay [.ref 61, .int 0] w (fun v w' => px_W E mX10_isPeace (d + 1) 0 0 35 [.ref 61, .int x1, .int x2, .int y0, .int x4] (v.toList ++ []) w' Q)) :
    px_W E mX10_isPeace (d + 1) 0 0 29 [.ref 61, .int x1, .int x2, .null, .int x4] [.int y0] w Q := by
  refine px_istore_n (ls' := [.ref 61, .int x1, .int x2, .int y0, .int x4]) dX10_isPeace_29 rfl ⟨by decide, rfl⟩ rfl ?_
  refine px_aload_n dX10_isPeace_30 rfl rfl ?_
  refine px_iconst dX10_isPeace_31 ic_0 ?_
  exact px_callV (As := [.int 0]) (st := []) (rc := 0) (rs := 0) (mc := 0) (ms := 0) dX10_isPeace_32 lk_10_495 (px_sh1 hw sh_61) rfl rfl (Nat.le_of_ble_eq_true rfl) k1
theorem bX10_isPeace_35 {E : px_E} {d : Nat} {w : pw_W} {Q : Option Value → pw_W → Prop} {t : ct_T} (hw : w.1 = cs t) {x1 x2 x3 x4 y0 : Int32}  
    (k1 : px_W E mX10_isPeace (d + 1) 0 0 5 [.ref 61, .int x1, .int x2, .int x3, .int (x4 + 1)] [] w Q) :
    px_W E mX10_isPeace (d + 1) 0 0 35 [.ref 61, .int x1, .int x2, .int x3, .int x4] [.int y0] w Q := by
  refine px_pop dX10_isPeace_35 rfl ?_
  refine px_iinc (ls' := [.ref 61, .int x1, .int x2, .int x3, .int (x4 + 1)]) dX10_isPeace_36 ⟨by decide, rfl⟩ rfl rfl rfl ?_
  refine px_goto (tgt := 5) dX10_isPeace_39 (by decide) ?_
  exact k1
theorem bX10_isPeace_42 {E : px_E} {d : Nat} {w : pw_W} {Q : Option Value → pw_W → Prop} {t : ct_T} (hw : w.1 = cs t) {x3 : Int32}  (hb1 : x3 = 0 ∨ x3 = 1)
    (k1 : Q (some (.int x3)) w) :
    px_W E mX10_isPeace (d + 1) 0 0 42 [.null, .null, .null, .int x3, .null] [] w Q := by
  refine px_iload_n dX10_isPeace_42 rfl rfl ?_
  exact px_ireturn dX10_isPeace_43 rfl (px_nb (hb1)) k1
