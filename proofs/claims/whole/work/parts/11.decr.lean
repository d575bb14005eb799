theorem dX12_thrown_0 : decode cX12_thrown 0 = .ok (.aload_n 0, 1) := by decide +kernel
theorem dX12_thrown_1 : decode cX12_thrown 1 = .ok (.getfield 1, 3) := by decide +kernel
theorem dX12_thrown_4 : decode cX12_thrown 4 = .ok (.ireturn, 1) := by decide +kernel
theorem dX12_init_0 : decode cX12_init 0 = .ok (.aload_n 0, 1) := by decide +kernel
theorem dX12_init_1 : decode cX12_init 1 = .ok (.invokespecial 7, 3) := by decide +kernel
theorem dX12_init_4 : decode cX12_init 4 = .ok (.aload_n 0, 1) := by decide +kernel
theorem dX12_init_5 : decode cX12_init 5 = .ok (.bipush 42, 2) := by decide +kernel
theorem dX12_init_7 : decode cX12_init 7 = .ok (.newarray .long, 2) := by decide +kernel
theorem dX12_init_9 : decode cX12_init 9 = .ok (.dup, 1) := by decide +kernel
theorem dX12_init_10 : decode cX12_init 10 = .ok (.iconst 0, 1) := by decide +kernel
theorem dX12_init_11 : decode cX12_init 11 = .ok (.ldc2_w 13, 3) := by decide +kernel
theorem dX12_init_14 : decode cX12_init 14 = .ok (.lastore, 1) := by decide +kernel
theorem dX12_init_15 : decode cX12_init 15 = .ok (.dup, 1) := by decide +kernel
theorem dX12_init_16 : decode cX12_init 16 = .ok (.iconst 1, 1) := by decide +kernel
theorem dX12_init_17 : decode cX12_init 17 = .ok (.ldc2_w 15, 3) := by decide +kernel
theorem dX12_init_20 : decode cX12_init 20 = .ok (.lastore, 1) := by decide +kernel
theorem dX12_init_21 : decode cX12_init 21 = .ok (.dup, 1) := by decide +kernel
theorem dX12_init_22 : decode cX12_init 22 = .ok (.iconst 2, 1) := by decide +kernel
theorem dX12_init_23 : decode cX12_init 23 = .ok (.ldc2_w 17, 3) := by decide +kernel
theorem dX12_init_26 : decode cX12_init 26 = .ok (.lastore, 1) := by decide +kernel
theorem dX12_init_27 : decode cX12_init 27 = .ok (.dup, 1) := by decide +kernel
theorem dX12_init_28 : decode cX12_init 28 = .ok (.iconst 3, 1) := by decide +kernel
theorem dX12_init_29 : decode cX12_init 29 = .ok (.ldc2_w 19, 3) := by decide +kernel
theorem dX12_init_32 : decode cX12_init 32 = .ok (.lastore, 1) := by decide +kernel
theorem dX12_init_33 : decode cX12_init 33 = .ok (.dup, 1) := by decide +kernel
theorem dX12_init_34 : decode cX12_init 34 = .ok (.iconst 4, 1) := by decide +kernel
theorem dX12_init_35 : decode cX12_init 35 = .ok (.ldc2_w 21, 3) := by decide +kernel
theorem dX12_init_38 : decode cX12_init 38 = .ok (.lastore, 1) := by decide +kernel
theorem dX12_init_39 : decode cX12_init 39 = .ok (.dup, 1) := by decide +kernel
theorem dX12_init_40 : decode cX12_init 40 = .ok (.iconst 5, 1) := by decide +kernel
theorem dX12_init_41 : decode cX12_init 41 = .ok (.ldc2_w 23, 3) := by decide +kernel
theorem dX12_init_44 : decode cX12_init 44 = .ok (.lastore, 1) := by decide +kernel
theorem dX12_init_45 : decode cX12_init 45 = .ok (.dup, 1) := by decide +kernel
theorem dX12_init_46 : decode cX12_init 46 = .ok (.bipush 6, 2) := by decide +kernel
theorem dX12_init_48 : decode cX12_init 48 = .ok (.ldc2_w 25, 3) := by decide +kernel
theorem dX12_init_51 : decode cX12_init 51 = .ok (.lastore, 1) := by decide +kernel
theorem dX12_init_52 : decode cX12_init 52 = .ok (.dup, 1) := by decide +kernel
theorem dX12_init_53 : decode cX12_init 53 = .ok (.bipush 7, 2) := by decide +kernel
theorem dX12_init_55 : decode cX12_init 55 = .ok (.ldc2_w 27, 3) := by decide +kernel
theorem dX12_init_58 : decode cX12_init 58 = .ok (.lastore, 1) := by decide +kernel
theorem dX12_init_59 : decode cX12_init 59 = .ok (.dup, 1) := by decide +kernel
theorem dX12_init_60 : decode cX12_init 60 = .ok (.bipush 8, 2) := by decide +kernel
theorem dX12_init_62 : decode cX12_init 62 = .ok (.ldc2_w 29, 3) := by decide +kernel
theorem dX12_init_65 : decode cX12_init 65 = .ok (.lastore, 1) := by decide +kernel
theorem dX12_init_66 : decode cX12_init 66 = .ok (.dup, 1) := by decide +kernel
theorem dX12_init_67 : decode cX12_init 67 = .ok (.bipush 9, 2) := by decide +kernel
theorem dX12_init_69 : decode cX12_init 69 = .ok (.ldc2_w 31, 3) := by decide +kernel
theorem dX12_init_72 : decode cX12_init 72 = .ok (.lastore, 1) := by decide +kernel
theorem dX12_init_73 : decode cX12_init 73 = .ok (.dup, 1) := by decide +kernel
theorem dX12_init_74 : decode cX12_init 74 = .ok (.bipush 10, 2) := by decide +kernel
theorem dX12_init_76 : decode cX12_init 76 = .ok (.ldc2_w 33, 3) := by decide +kernel
theorem dX12_init_79 : decode cX12_init 79 = .ok (.lastore, 1) := by decide +kernel
theorem dX12_init_80 : decode cX12_init 80 = .ok (.dup, 1) := by decide +kernel
theorem dX12_init_81 : decode cX12_init 81 = .ok (.bipush 11, 2) := by decide +kernel
theorem dX12_init_83 : decode cX12_init 83 = .ok (.ldc2_w 35, 3) := by decide +kernel
theorem dX12_init_86 : decode cX12_init 86 = .ok (.lastore, 1) := by decide +kernel
theorem dX12_init_87 : decode cX12_init 87 = .ok (.dup, 1) := by decide +kernel
theorem dX12_init_88 : decode cX12_init 88 = .ok (.bipush 12, 2) := by decide +kernel
theorem dX12_init_90 : decode cX12_init 90 = .ok (.ldc2_w 37, 3) := by decide +kernel
theorem dX12_init_93 : decode cX12_init 93 = .ok (.lastore, 1) := by decide +kernel
theorem dX12_init_94 : decode cX12_init 94 = .ok (.dup, 1) := by decide +kernel
theorem dX12_init_95 : decode cX12_init 95 = .ok (.bipush 13, 2) := by decide +kernel
theorem dX12_init_97 : decode cX12_init 97 = .ok (.ldc2_w 39, 3) := by decide +kernel
theorem dX12_init_100 : decode cX12_init 100 = .ok (.lastore, 1) := by decide +kernel
theorem dX12_init_101 : decode cX12_init 101 = .ok (.dup, 1) := by decide +kernel
theorem dX12_init_102 : decode cX12_init 102 = .ok (.bipush 14, 2) := by decide +kernel
theorem dX12_init_104 : decode cX12_init 104 = .ok (.ldc2_w 41, 3) := by decide +kernel
theorem dX12_init_107 : decode cX12_init 107 = .ok (.lastore, 1) := by decide +kernel
theorem dX12_init_108 : decode cX12_init 108 = .ok (.dup, 1) := by decide +kernel
theorem dX12_init_109 : decode cX12_init 109 = .ok (.bipush 15, 2) := by decide +kernel
theorem dX12_init_111 : decode cX12_init 111 = .ok (.ldc2_w 43, 3) := by decide +kernel
theorem dX12_init_114 : decode cX12_init 114 = .ok (.lastore, 1) := by decide +kernel
theorem dX12_init_115 : decode cX12_init 115 = .ok (.dup, 1) := by decide +kernel
theorem dX12_init_116 : decode cX12_init 116 = .ok (.bipush 16, 2) := by decide +kernel
theorem dX12_init_118 : decode cX12_init 118 = .ok (.ldc2_w 45, 3) := by decide +kernel
theorem dX12_init_121 : decode cX12_init 121 = .ok (.lastore, 1) := by decide +kernel
theorem dX12_init_122 : decode cX12_init 122 = .ok (.dup, 1) := by decide +kernel
theorem dX12_init_123 : decode cX12_init 123 = .ok (.bipush 17, 2) := by decide +kernel
theorem dX12_init_125 : decode cX12_init 125 = .ok (.ldc2_w 47, 3) := by decide +kernel
theorem dX12_init_128 : decode cX12_init 128 = .ok (.lastore, 1) := by decide +kernel
theorem dX12_init_129 : decode cX12_init 129 = .ok (.dup, 1) := by decide +kernel
theorem dX12_init_130 : decode cX12_init 130 = .ok (.bipush 18, 2) := by decide +kernel
theorem dX12_init_132 : decode cX12_init 132 = .ok (.ldc2_w 49, 3) := by decide +kernel
theorem dX12_init_135 : decode cX12_init 135 = .ok (.lastore, 1) := by decide +kernel
theorem dX12_init_136 : decode cX12_init 136 = .ok (.dup, 1) := by decide +kernel
theorem dX12_init_137 : decode cX12_init 137 = .ok (.bipush 19, 2) := by decide +kernel
theorem dX12_init_139 : decode cX12_init 139 = .ok (.ldc2_w 51, 3) := by decide +kernel
theorem dX12_init_142 : decode cX12_init 142 = .ok (.lastore, 1) := by decide +kernel
theorem dX12_init_143 : decode cX12_init 143 = .ok (.dup, 1) := by decide +kernel
theorem dX12_init_144 : decode cX12_init 144 = .ok (.bipush 20, 2) := by decide +kernel
theorem dX12_init_146 : decode cX12_init 146 = .ok (.ldc2_w 53, 3) := by decide +kernel
theorem dX12_init_149 : decode cX12_init 149 = .ok (.lastore, 1) := by decide +kernel
theorem dX12_init_150 : decode cX12_init 150 = .ok (.dup, 1) := by decide +kernel
theorem dX12_init_151 : decode cX12_init 151 = .ok (.bipush 21, 2) := by decide +kernel
theorem dX12_init_153 : decode cX12_init 153 = .ok (.ldc2_w 55, 3) := by decide +kernel
theorem dX12_init_156 : decode cX12_init 156 = .ok (.lastore, 1) := by decide +kernel
theorem dX12_init_157 : decode cX12_init 157 = .ok (.dup, 1) := by decide +kernel
theorem dX12_init_158 : decode cX12_init 158 = .ok (.bipush 22, 2) := by decide +kernel
theorem dX12_init_160 : decode cX12_init 160 = .ok (.ldc2_w 57, 3) := by decide +kernel
theorem dX12_init_163 : decode cX12_init 163 = .ok (.lastore, 1) := by decide +kernel
theorem dX12_init_164 : decode cX12_init 164 = .ok (.dup, 1) := by decide +kernel
theorem dX12_init_165 : decode cX12_init 165 = .ok (.bipush 23, 2) := by decide +kernel
theorem dX12_init_167 : decode cX12_init 167 = .ok (.ldc2_w 59, 3) := by decide +kernel
theorem dX12_init_170 : decode cX12_init 170 = .ok (.lastore, 1) := by decide +kernel
theorem dX12_init_171 : decode cX12_init 171 = .ok (.dup, 1) := by decide +kernel
theorem dX12_init_172 : decode cX12_init 172 = .ok (.bipush 24, 2) := by decide +kernel
theorem dX12_init_174 : decode cX12_init 174 = .ok (.ldc2_w 61, 3) := by decide +kernel
theorem dX12_init_177 : decode cX12_init 177 = .ok (.lastore, 1) := by decide +kernel
theorem dX12_init_178 : decode cX12_init 178 = .ok (.dup, 1) := by decide +kernel
theorem dX12_init_179 : decode cX12_init 179 = .ok (.bipush 25, 2) := by decide +kernel
theorem dX12_init_181 : decode cX12_init 181 = .ok (.ldc2_w 63, 3) := by decide +kernel
theorem dX12_init_184 : decode cX12_init 184 = .ok (.lastore, 1) := by decide +kernel
theorem dX12_init_185 : decode cX12_init 185 = .ok (.dup, 1) := by decide +kernel
theorem dX12_init_186 : decode cX12_init 186 = .ok (.bipush 26, 2) := by decide +kernel
theorem dX12_init_188 : decode cX12_init 188 = .ok (.ldc2_w 65, 3) := by decide +kernel
theorem dX12_init_191 : decode cX12_init 191 = .ok (.lastore, 1) := by decide +kernel
theorem dX12_init_192 : decode cX12_init 192 = .ok (.dup, 1) := by decide +kernel
theorem dX12_init_193 : decode cX12_init 193 = .ok (.bipush 27, 2) := by decide +kernel
theorem dX12_init_195 : decode cX12_init 195 = .ok (.ldc2_w 67, 3) := by decide +kernel
theorem dX12_init_198 : decode cX12_init 198 = .ok (.lastore, 1) := by decide +kernel
theorem dX12_init_199 : decode cX12_init 199 = .ok (.dup, 1) := by decide +kernel
theorem dX12_init_200 : decode cX12_init 200 = .ok (.bipush 28, 2) := by decide +kernel
theorem dX12_init_202 : decode cX12_init 202 = .ok (.ldc2_w 69, 3) := by decide +kernel
theorem dX12_init_205 : decode cX12_init 205 = .ok (.lastore, 1) := by decide +kernel
theorem dX12_init_206 : decode cX12_init 206 = .ok (.dup, 1) := by decide +kernel
theorem dX12_init_207 : decode cX12_init 207 = .ok (.bipush 29, 2) := by decide +kernel
theorem dX12_init_209 : decode cX12_init 209 = .ok (.ldc2_w 71, 3) := by decide +kernel
theorem dX12_init_212 : decode cX12_init 212 = .ok (.lastore, 1) := by decide +kernel
theorem dX12_init_213 : decode cX12_init 213 = .ok (.dup, 1) := by decide +kernel
theorem dX12_init_214 : decode cX12_init 214 = .ok (.bipush 30, 2) := by decide +kernel
theorem dX12_init_216 : decode cX12_init 216 = .ok (.ldc2_w 73, 3) := by decide +kernel
theorem dX12_init_219 : decode cX12_init 219 = .ok (.lastore, 1) := by decide +kernel
theorem dX12_init_220 : decode cX12_init 220 = .ok (.dup, 1) := by decide +kernel
theorem dX12_init_221 : decode cX12_init 221 = .ok (.bipush 31, 2) := by decide +kernel
theorem dX12_init_223 : decode cX12_init 223 = .ok (.ldc2_w 75, 3) := by decide +kernel
theorem dX12_init_226 : decode cX12_init 226 = .ok (.lastore, 1) := by decide +kernel
theorem dX12_init_227 : decode cX12_init 227 = .ok (.dup, 1) := by decide +kernel
theorem dX12_init_228 : decode cX12_init 228 = .ok (.bipush 32, 2) := by decide +kernel
theorem dX12_init_230 : decode cX12_init 230 = .ok (.ldc2_w 77, 3) := by decide +kernel
theorem dX12_init_233 : decode cX12_init 233 = .ok (.lastore, 1) := by decide +kernel
theorem dX12_init_234 : decode cX12_init 234 = .ok (.dup, 1) := by decide +kernel
theorem dX12_init_235 : decode cX12_init 235 = .ok (.bipush 33, 2) := by decide +kernel
theorem dX12_init_237 : decode cX12_init 237 = .ok (.ldc2_w 79, 3) := by decide +kernel
theorem dX12_init_240 : decode cX12_init 240 = .ok (.lastore, 1) := by decide +kernel
theorem dX12_init_241 : decode cX12_init 241 = .ok (.dup, 1) := by decide +kernel
theorem dX12_init_242 : decode cX12_init 242 = .ok (.bipush 34, 2) := by decide +kernel
theorem dX12_init_244 : decode cX12_init 244 = .ok (.ldc2_w 81, 3) := by decide +kernel
theorem dX12_init_247 : decode cX12_init 247 = .ok (.lastore, 1) := by decide +kernel
theorem dX12_init_248 : decode cX12_init 248 = .ok (.dup, 1) := by decide +kernel
theorem dX12_init_249 : decode cX12_init 249 = .ok (.bipush 35, 2) := by decide +kernel
theorem dX12_init_251 : decode cX12_init 251 = .ok (.ldc2_w 83, 3) := by decide +kernel
theorem dX12_init_254 : decode cX12_init 254 = .ok (.lastore, 1) := by decide +kernel
theorem dX12_init_255 : decode cX12_init 255 = .ok (.dup, 1) := by decide +kernel
theorem dX12_init_256 : decode cX12_init 256 = .ok (.bipush 36, 2) := by decide +kernel
theorem dX12_init_258 : decode cX12_init 258 = .ok (.ldc2_w 85, 3) := by decide +kernel
theorem dX12_init_261 : decode cX12_init 261 = .ok (.lastore, 1) := by decide +kernel
theorem dX12_init_262 : decode cX12_init 262 = .ok (.dup, 1) := by decide +kernel
theorem dX12_init_263 : decode cX12_init 263 = .ok (.bipush 37, 2) := by decide +kernel
theorem dX12_init_265 : decode cX12_init 265 = .ok (.ldc2_w 87, 3) := by decide +kernel
theorem dX12_init_268 : decode cX12_init 268 = .ok (.lastore, 1) := by decide +kernel
theorem dX12_init_269 : decode cX12_init 269 = .ok (.dup, 1) := by decide +kernel
theorem dX12_init_270 : decode cX12_init 270 = .ok (.bipush 38, 2) := by decide +kernel
theorem dX12_init_272 : decode cX12_init 272 = .ok (.ldc2_w 89, 3) := by decide +kernel
theorem dX12_init_275 : decode cX12_init 275 = .ok (.lastore, 1) := by decide +kernel
theorem dX12_init_276 : decode cX12_init 276 = .ok (.dup, 1) := by decide +kernel
theorem dX12_init_277 : decode cX12_init 277 = .ok (.bipush 39, 2) := by decide +kernel
theorem dX12_init_279 : decode cX12_init 279 = .ok (.ldc2_w 91, 3) := by decide +kernel
theorem dX12_init_282 : decode cX12_init 282 = .ok (.lastore, 1) := by decide +kernel
theorem dX12_init_283 : decode cX12_init 283 = .ok (.dup, 1) := by decide +kernel
theorem dX12_init_284 : decode cX12_init 284 = .ok (.bipush 40, 2) := by decide +kernel
theorem dX12_init_286 : decode cX12_init 286 = .ok (.ldc2_w 93, 3) := by decide +kernel
theorem dX12_init_289 : decode cX12_init 289 = .ok (.lastore, 1) := by decide +kernel
theorem dX12_init_290 : decode cX12_init 290 = .ok (.dup, 1) := by decide +kernel
theorem dX12_init_291 : decode cX12_init 291 = .ok (.bipush 41, 2) := by decide +kernel
theorem dX12_init_293 : decode cX12_init 293 = .ok (.ldc2_w 95, 3) := by decide +kernel
theorem dX12_init_296 : decode cX12_init 296 = .ok (.lastore, 1) := by decide +kernel
theorem dX12_init_297 : decode cX12_init 297 = .ok (.putfield 97, 3) := by decide +kernel
theorem dX12_init_300 : decode cX12_init 300 = .ok (.aload_n 0, 1) := by decide +kernel
theorem dX12_init_301 : decode cX12_init 301 = .ok (.bipush 43, 2) := by decide +kernel
theorem dX12_init_303 : decode cX12_init 303 = .ok (.newarray .int, 2) := by decide +kernel
theorem dX12_init_305 : decode cX12_init 305 = .ok (.dup, 1) := by decide +kernel
theorem dX12_init_306 : decode cX12_init 306 = .ok (.iconst 0, 1) := by decide +kernel
theorem dX12_init_307 : decode cX12_init 307 = .ok (.iconst 0, 1) := by decide +kernel
theorem dX12_init_308 : decode cX12_init 308 = .ok (.iastore, 1) := by decide +kernel
theorem dX12_init_309 : decode cX12_init 309 = .ok (.dup, 1) := by decide +kernel
theorem dX12_init_310 : decode cX12_init 310 = .ok (.iconst 1, 1) := by decide +kernel
theorem dX12_init_311 : decode cX12_init 311 = .ok (.iconst 1, 1) := by decide +kernel
theorem dX12_init_312 : decode cX12_init 312 = .ok (.iastore, 1) := by decide +kernel
theorem dX12_init_313 : decode cX12_init 313 = .ok (.dup, 1) := by decide +kernel
theorem dX12_init_314 : decode cX12_init 314 = .ok (.iconst 2, 1) := by decide +kernel
theorem dX12_init_315 : decode cX12_init 315 = .ok (.iconst 1, 1) := by decide +kernel
theorem dX12_init_316 : decode cX12_init 316 = .ok (.iastore, 1) := by decide +kernel
theorem dX12_init_317 : decode cX12_init 317 = .ok (.dup, 1) := by decide +kernel
theorem dX12_init_318 : decode cX12_init 318 = .ok (.iconst 3, 1) := by decide +kernel
theorem dX12_init_319 : decode cX12_init 319 = .ok (.iconst 2, 1) := by decide +kernel
theorem dX12_init_320 : decode cX12_init 320 = .ok (.iastore, 1) := by decide +kernel
theorem dX12_init_321 : decode cX12_init 321 = .ok (.dup, 1) := by decide +kernel
theorem dX12_init_322 : decode cX12_init 322 = .ok (.iconst 4, 1) := by decide +kernel
theorem dX12_init_323 : decode cX12_init 323 = .ok (.iconst 2, 1) := by decide +kernel
theorem dX12_init_324 : decode cX12_init 324 = .ok (.iastore, 1) := by decide +kernel
theorem dX12_init_325 : decode cX12_init 325 = .ok (.dup, 1) := by decide +kernel
theorem dX12_init_326 : decode cX12_init 326 = .ok (.iconst 5, 1) := by decide +kernel
theorem dX12_init_327 : decode cX12_init 327 = .ok (.iconst 3, 1) := by decide +kernel
theorem dX12_init_328 : decode cX12_init 328 = .ok (.iastore, 1) := by decide +kernel
theorem dX12_init_329 : decode cX12_init 329 = .ok (.dup, 1) := by decide +kernel
theorem dX12_init_330 : decode cX12_init 330 = .ok (.bipush 6, 2) := by decide +kernel
theorem dX12_init_332 : decode cX12_init 332 = .ok (.iconst 2, 1) := by decide +kernel
theorem dX12_init_333 : decode cX12_init 333 = .ok (.iastore, 1) := by decide +kernel
theorem dX12_init_334 : decode cX12_init 334 = .ok (.dup, 1) := by decide +kernel
theorem dX12_init_335 : decode cX12_init 335 = .ok (.bipush 7, 2) := by decide +kernel
theorem dX12_init_337 : decode cX12_init 337 = .ok (.iconst 2, 1) := by decide +kernel
theorem dX12_init_338 : decode cX12_init 338 = .ok (.iastore, 1) := by decide +kernel
theorem dX12_init_339 : decode cX12_init 339 = .ok (.dup, 1) := by decide +kernel
theorem dX12_init_340 : decode cX12_init 340 = .ok (.bipush 8, 2) := by decide +kernel
theorem dX12_init_342 : decode cX12_init 342 = .ok (.iconst 2, 1) := by decide +kernel
theorem dX12_init_343 : decode cX12_init 343 = .ok (.iastore, 1) := by decide +kernel
theorem dX12_init_344 : decode cX12_init 344 = .ok (.dup, 1) := by decide +kernel
theorem dX12_init_345 : decode cX12_init 345 = .ok (.bipush 9, 2) := by decide +kernel
theorem dX12_init_347 : decode cX12_init 347 = .ok (.iconst 2, 1) := by decide +kernel
theorem dX12_init_348 : decode cX12_init 348 = .ok (.iastore, 1) := by decide +kernel
theorem dX12_init_349 : decode cX12_init 349 = .ok (.dup, 1) := by decide +kernel
theorem dX12_init_350 : decode cX12_init 350 = .ok (.bipush 10, 2) := by decide +kernel
theorem dX12_init_352 : decode cX12_init 352 = .ok (.iconst 2, 1) := by decide +kernel
theorem dX12_init_353 : decode cX12_init 353 = .ok (.iastore, 1) := by decide +kernel
theorem dX12_init_354 : decode cX12_init 354 = .ok (.dup, 1) := by decide +kernel
theorem dX12_init_355 : decode cX12_init 355 = .ok (.bipush 11, 2) := by decide +kernel
theorem dX12_init_357 : decode cX12_init 357 = .ok (.iconst 2, 1) := by decide +kernel
theorem dX12_init_358 : decode cX12_init 358 = .ok (.iastore, 1) := by decide +kernel
theorem dX12_init_359 : decode cX12_init 359 = .ok (.dup, 1) := by decide +kernel
theorem dX12_init_360 : decode cX12_init 360 = .ok (.bipush 12, 2) := by decide +kernel
theorem dX12_init_362 : decode cX12_init 362 = .ok (.iconst 2, 1) := by decide +kernel
theorem dX12_init_363 : decode cX12_init 363 = .ok (.iastore, 1) := by decide +kernel
theorem dX12_init_364 : decode cX12_init 364 = .ok (.dup, 1) := by decide +kernel
theorem dX12_init_365 : decode cX12_init 365 = .ok (.bipush 13, 2) := by decide +kernel
theorem dX12_init_367 : decode cX12_init 367 = .ok (.iconst 2, 1) := by decide +kernel
theorem dX12_init_368 : decode cX12_init 368 = .ok (.iastore, 1) := by decide +kernel
theorem dX12_init_369 : decode cX12_init 369 = .ok (.dup, 1) := by decide +kernel
theorem dX12_init_370 : decode cX12_init 370 = .ok (.bipush 14, 2) := by decide +kernel
theorem dX12_init_372 : decode cX12_init 372 = .ok (.iconst 1, 1) := by decide +kernel
theorem dX12_init_373 : decode cX12_init 373 = .ok (.iastore, 1) := by decide +kernel
theorem dX12_init_374 : decode cX12_init 374 = .ok (.dup, 1) := by decide +kernel
theorem dX12_init_375 : decode cX12_init 375 = .ok (.bipush 15, 2) := by decide +kernel
theorem dX12_init_377 : decode cX12_init 377 = .ok (.iconst 2, 1) := by decide +kernel
theorem dX12_init_378 : decode cX12_init 378 = .ok (.iastore, 1) := by decide +kernel
theorem dX12_init_379 : decode cX12_init 379 = .ok (.dup, 1) := by decide +kernel
theorem dX12_init_380 : decode cX12_init 380 = .ok (.bipush 16, 2) := by decide +kernel
theorem dX12_init_382 : decode cX12_init 382 = .ok (.iconst 2, 1) := by decide +kernel
theorem dX12_init_383 : decode cX12_init 383 = .ok (.iastore, 1) := by decide +kernel
theorem dX12_init_384 : decode cX12_init 384 = .ok (.dup, 1) := by decide +kernel
theorem dX12_init_385 : decode cX12_init 385 = .ok (.bipush 17, 2) := by decide +kernel
theorem dX12_init_387 : decode cX12_init 387 = .ok (.iconst 2, 1) := by decide +kernel
theorem dX12_init_388 : decode cX12_init 388 = .ok (.iastore, 1) := by decide +kernel
theorem dX12_init_389 : decode cX12_init 389 = .ok (.dup, 1) := by decide +kernel
theorem dX12_init_390 : decode cX12_init 390 = .ok (.bipush 18, 2) := by decide +kernel
theorem dX12_init_392 : decode cX12_init 392 = .ok (.iconst 2, 1) := by decide +kernel
theorem dX12_init_393 : decode cX12_init 393 = .ok (.iastore, 1) := by decide +kernel
theorem dX12_init_394 : decode cX12_init 394 = .ok (.dup, 1) := by decide +kernel
theorem dX12_init_395 : decode cX12_init 395 = .ok (.bipush 19, 2) := by decide +kernel
theorem dX12_init_397 : decode cX12_init 397 = .ok (.iconst 2, 1) := by decide +kernel
theorem dX12_init_398 : decode cX12_init 398 = .ok (.iastore, 1) := by decide +kernel
theorem dX12_init_399 : decode cX12_init 399 = .ok (.dup, 1) := by decide +kernel
theorem dX12_init_400 : decode cX12_init 400 = .ok (.bipush 20, 2) := by decide +kernel
theorem dX12_init_402 : decode cX12_init 402 = .ok (.iconst 1, 1) := by decide +kernel
theorem dX12_init_403 : decode cX12_init 403 = .ok (.iastore, 1) := by decide +kernel
theorem dX12_init_404 : decode cX12_init 404 = .ok (.dup, 1) := by decide +kernel
theorem dX12_init_405 : decode cX12_init 405 = .ok (.bipush 21, 2) := by decide +kernel
theorem dX12_init_407 : decode cX12_init 407 = .ok (.iconst 2, 1) := by decide +kernel
theorem dX12_init_408 : decode cX12_init 408 = .ok (.iastore, 1) := by decide +kernel
theorem dX12_init_409 : decode cX12_init 409 = .ok (.dup, 1) := by decide +kernel
theorem dX12_init_410 : decode cX12_init 410 = .ok (.bipush 22, 2) := by decide +kernel
theorem dX12_init_412 : decode cX12_init 412 = .ok (.iconst 0, 1) := by decide +kernel
theorem dX12_init_413 : decode cX12_init 413 = .ok (.iastore, 1) := by decide +kernel
theorem dX12_init_414 : decode cX12_init 414 = .ok (.dup, 1) := by decide +kernel
theorem dX12_init_415 : decode cX12_init 415 = .ok (.bipush 23, 2) := by decide +kernel
theorem dX12_init_417 : decode cX12_init 417 = .ok (.iconst 1, 1) := by decide +kernel
theorem dX12_init_418 : decode cX12_init 418 = .ok (.iastore, 1) := by decide +kernel
theorem dX12_init_419 : decode cX12_init 419 = .ok (.dup, 1) := by decide +kernel
theorem dX12_init_420 : decode cX12_init 420 = .ok (.bipush 24, 2) := by decide +kernel
theorem dX12_init_422 : decode cX12_init 422 = .ok (.iconst 1, 1) := by decide +kernel
theorem dX12_init_423 : decode cX12_init 423 = .ok (.iastore, 1) := by decide +kernel
theorem dX12_init_424 : decode cX12_init 424 = .ok (.dup, 1) := by decide +kernel
theorem dX12_init_425 : decode cX12_init 425 = .ok (.bipush 25, 2) := by decide +kernel
theorem dX12_init_427 : decode cX12_init 427 = .ok (.iconst 2, 1) := by decide +kernel
theorem dX12_init_428 : decode cX12_init 428 = .ok (.iastore, 1) := by decide +kernel
theorem dX12_init_429 : decode cX12_init 429 = .ok (.dup, 1) := by decide +kernel
theorem dX12_init_430 : decode cX12_init 430 = .ok (.bipush 26, 2) := by decide +kernel
theorem dX12_init_432 : decode cX12_init 432 = .ok (.iconst 2, 1) := by decide +kernel
theorem dX12_init_433 : decode cX12_init 433 = .ok (.iastore, 1) := by decide +kernel
theorem dX12_init_434 : decode cX12_init 434 = .ok (.dup, 1) := by decide +kernel
theorem dX12_init_435 : decode cX12_init 435 = .ok (.bipush 27, 2) := by decide +kernel
theorem dX12_init_437 : decode cX12_init 437 = .ok (.iconst 0, 1) := by decide +kernel
theorem dX12_init_438 : decode cX12_init 438 = .ok (.iastore, 1) := by decide +kernel
theorem dX12_init_439 : decode cX12_init 439 = .ok (.dup, 1) := by decide +kernel
theorem dX12_init_440 : decode cX12_init 440 = .ok (.bipush 28, 2) := by decide +kernel
theorem dX12_init_442 : decode cX12_init 442 = .ok (.iconst 1, 1) := by decide +kernel
theorem dX12_init_443 : decode cX12_init 443 = .ok (.iastore, 1) := by decide +kernel
theorem dX12_init_444 : decode cX12_init 444 = .ok (.dup, 1) := by decide +kernel
theorem dX12_init_445 : decode cX12_init 445 = .ok (.bipush 29, 2) := by decide +kernel
theorem dX12_init_447 : decode cX12_init 447 = .ok (.iconst 1, 1) := by decide +kernel
theorem dX12_init_448 : decode cX12_init 448 = .ok (.iastore, 1) := by decide +kernel
theorem dX12_init_449 : decode cX12_init 449 = .ok (.dup, 1) := by decide +kernel
theorem dX12_init_450 : decode cX12_init 450 = .ok (.bipush 30, 2) := by decide +kernel
theorem dX12_init_452 : decode cX12_init 452 = .ok (.iconst 0, 1) := by decide +kernel
theorem dX12_init_453 : decode cX12_init 453 = .ok (.iastore, 1) := by decide +kernel
theorem dX12_init_454 : decode cX12_init 454 = .ok (.dup, 1) := by decide +kernel
theorem dX12_init_455 : decode cX12_init 455 = .ok (.bipush 31, 2) := by decide +kernel
theorem dX12_init_457 : decode cX12_init 457 = .ok (.iconst 1, 1) := by decide +kernel
theorem dX12_init_458 : decode cX12_init 458 = .ok (.iastore, 1) := by decide +kernel
theorem dX12_init_459 : decode cX12_init 459 = .ok (.dup, 1) := by decide +kernel
theorem dX12_init_460 : decode cX12_init 460 = .ok (.bipush 32, 2) := by decide +kernel
theorem dX12_init_462 : decode cX12_init 462 = .ok (.iconst 0, 1) := by decide +kernel
theorem dX12_init_463 : decode cX12_init 463 = .ok (.iastore, 1) := by decide +kernel
theorem dX12_init_464 : decode cX12_init 464 = .ok (.dup, 1) := by decide +kernel
theorem dX12_init_465 : decode cX12_init 465 = .ok (.bipush 33, 2) := by decide +kernel
theorem dX12_init_467 : decode cX12_init 467 = .ok (.iconst 1, 1) := by decide +kernel
theorem dX12_init_468 : decode cX12_init 468 = .ok (.iastore, 1) := by decide +kernel
theorem dX12_init_469 : decode cX12_init 469 = .ok (.dup, 1) := by decide +kernel
theorem dX12_init_470 : decode cX12_init 470 = .ok (.bipush 34, 2) := by decide +kernel
theorem dX12_init_472 : decode cX12_init 472 = .ok (.iconst 1, 1) := by decide +kernel
theorem dX12_init_473 : decode cX12_init 473 = .ok (.iastore, 1) := by decide +kernel
theorem dX12_init_474 : decode cX12_init 474 = .ok (.dup, 1) := by decide +kernel
theorem dX12_init_475 : decode cX12_init 475 = .ok (.bipush 35, 2) := by decide +kernel
theorem dX12_init_477 : decode cX12_init 477 = .ok (.iconst 1, 1) := by decide +kernel
theorem dX12_init_478 : decode cX12_init 478 = .ok (.iastore, 1) := by decide +kernel
theorem dX12_init_479 : decode cX12_init 479 = .ok (.dup, 1) := by decide +kernel
theorem dX12_init_480 : decode cX12_init 480 = .ok (.bipush 36, 2) := by decide +kernel
theorem dX12_init_482 : decode cX12_init 482 = .ok (.iconst 1, 1) := by decide +kernel
theorem dX12_init_483 : decode cX12_init 483 = .ok (.iastore, 1) := by decide +kernel
theorem dX12_init_484 : decode cX12_init 484 = .ok (.dup, 1) := by decide +kernel
theorem dX12_init_485 : decode cX12_init 485 = .ok (.bipush 37, 2) := by decide +kernel
theorem dX12_init_487 : decode cX12_init 487 = .ok (.iconst 0, 1) := by decide +kernel
theorem dX12_init_488 : decode cX12_init 488 = .ok (.iastore, 1) := by decide +kernel
theorem dX12_init_489 : decode cX12_init 489 = .ok (.dup, 1) := by decide +kernel
theorem dX12_init_490 : decode cX12_init 490 = .ok (.bipush 38, 2) := by decide +kernel
theorem dX12_init_492 : decode cX12_init 492 = .ok (.iconst 1, 1) := by decide +kernel
theorem dX12_init_493 : decode cX12_init 493 = .ok (.iastore, 1) := by decide +kernel
theorem dX12_init_494 : decode cX12_init 494 = .ok (.dup, 1) := by decide +kernel
theorem dX12_init_495 : decode cX12_init 495 = .ok (.bipush 39, 2) := by decide +kernel
theorem dX12_init_497 : decode cX12_init 497 = .ok (.iconst 0, 1) := by decide +kernel
theorem dX12_init_498 : decode cX12_init 498 = .ok (.iastore, 1) := by decide +kernel
theorem dX12_init_499 : decode cX12_init 499 = .ok (.dup, 1) := by decide +kernel
theorem dX12_init_500 : decode cX12_init 500 = .ok (.bipush 40, 2) := by decide +kernel
theorem dX12_init_502 : decode cX12_init 502 = .ok (.iconst 1, 1) := by decide +kernel
theorem dX12_init_503 : decode cX12_init 503 = .ok (.iastore, 1) := by decide +kernel
theorem dX12_init_504 : decode cX12_init 504 = .ok (.dup, 1) := by decide +kernel
theorem dX12_init_505 : decode cX12_init 505 = .ok (.bipush 41, 2) := by decide +kernel
theorem dX12_init_507 : decode cX12_init 507 = .ok (.iconst 0, 1) := by decide +kernel
theorem dX12_init_508 : decode cX12_init 508 = .ok (.iastore, 1) := by decide +kernel
theorem dX12_init_509 : decode cX12_init 509 = .ok (.dup, 1) := by decide +kernel
theorem dX12_init_510 : decode cX12_init 510 = .ok (.bipush 42, 2) := by decide +kernel
theorem dX12_init_512 : decode cX12_init 512 = .ok (.iconst 0, 1) := by decide +kernel
theorem dX12_init_513 : decode cX12_init 513 = .ok (.iastore, 1) := by decide +kernel
theorem dX12_init_514 : decode cX12_init 514 = .ok (.putfield 101, 3) := by decide +kernel
theorem dX12_init_517 : decode cX12_init 517 = .ok (.aload_n 0, 1) := by decide +kernel
theorem dX12_init_518 : decode cX12_init 518 = .ok (.sipush 8192, 3) := by decide +kernel
theorem dX12_init_521 : decode cX12_init 521 = .ok (.newarray .byte, 2) := by decide +kernel
theorem dX12_init_523 : decode cX12_init 523 = .ok (.putfield 105, 3) := by decide +kernel
theorem dX12_init_526 : decode cX12_init 526 = .ok (.aload_n 0, 1) := by decide +kernel
theorem dX12_init_527 : decode cX12_init 527 = .ok (.sipush 3328, 3) := by decide +kernel
theorem dX12_init_530 : decode cX12_init 530 = .ok (.newarray .int, 2) := by decide +kernel
theorem dX12_init_532 : decode cX12_init 532 = .ok (.putfield 109, 3) := by decide +kernel
theorem dX12_init_535 : decode cX12_init 535 = .ok (.aload_n 0, 1) := by decide +kernel
theorem dX12_init_536 : decode cX12_init 536 = .ok (.sipush 3328, 3) := by decide +kernel
theorem dX12_init_539 : decode cX12_init 539 = .ok (.newarray .int, 2) := by decide +kernel
theorem dX12_init_541 : decode cX12_init 541 = .ok (.putfield 112, 3) := by decide +kernel
theorem dX12_init_544 : decode cX12_init 544 = .ok (.aload_n 0, 1) := by decide +kernel
theorem dX12_init_545 : decode cX12_init 545 = .ok (.bipush 13, 2) := by decide +kernel
theorem dX12_init_547 : decode cX12_init 547 = .ok (.newarray .int, 2) := by decide +kernel
theorem dX12_init_549 : decode cX12_init 549 = .ok (.putfield 115, 3) := by decide +kernel
theorem dX12_init_552 : decode cX12_init 552 = .ok (.aload_n 0, 1) := by decide +kernel
theorem dX12_init_553 : decode cX12_init 553 = .ok (.bipush 13, 2) := by decide +kernel
theorem dX12_init_555 : decode cX12_init 555 = .ok (.newarray .boolean, 2) := by decide +kernel
theorem dX12_init_557 : decode cX12_init 557 = .ok (.putfield 118, 3) := by decide +kernel
theorem dX12_init_560 : decode cX12_init 560 = .ok (.aload_n 0, 1) := by decide +kernel
theorem dX12_init_561 : decode cX12_init 561 = .ok (.bipush 32, 2) := by decide +kernel
theorem dX12_init_563 : decode cX12_init 563 = .ok (.newarray .int, 2) := by decide +kernel
theorem dX12_init_565 : decode cX12_init 565 = .ok (.putfield 122, 3) := by decide +kernel
theorem dX12_init_568 : decode cX12_init 568 = .ok (.aload_n 0, 1) := by decide +kernel
theorem dX12_init_569 : decode cX12_init 569 = .ok (.bipush 32, 2) := by decide +kernel
theorem dX12_init_571 : decode cX12_init 571 = .ok (.newarray .int, 2) := by decide +kernel
theorem dX12_init_573 : decode cX12_init 573 = .ok (.putfield 125, 3) := by decide +kernel
theorem dX12_init_576 : decode cX12_init 576 = .ok (.aload_n 0, 1) := by decide +kernel
theorem dX12_init_577 : decode cX12_init 577 = .ok (.bipush 32, 2) := by decide +kernel
theorem dX12_init_579 : decode cX12_init 579 = .ok (.newarray .int, 2) := by decide +kernel
theorem dX12_init_581 : decode cX12_init 581 = .ok (.putfield 128, 3) := by decide +kernel
theorem dX12_init_584 : decode cX12_init 584 = .ok (.aload_n 0, 1) := by decide +kernel
theorem dX12_init_585 : decode cX12_init 585 = .ok (.sipush 256, 3) := by decide +kernel
theorem dX12_init_588 : decode cX12_init 588 = .ok (.newarray .int, 2) := by decide +kernel
theorem dX12_init_590 : decode cX12_init 590 = .ok (.putfield 131, 3) := by decide +kernel
theorem dX12_init_593 : decode cX12_init 593 = .ok (.aload_n 0, 1) := by decide +kernel
theorem dX12_init_594 : decode cX12_init 594 = .ok (.sipush 256, 3) := by decide +kernel
theorem dX12_init_597 : decode cX12_init 597 = .ok (.newarray .int, 2) := by decide +kernel
theorem dX12_init_599 : decode cX12_init 599 = .ok (.putfield 134, 3) := by decide +kernel
theorem dX12_init_602 : decode cX12_init 602 = .ok (.aload_n 0, 1) := by decide +kernel
theorem dX12_init_603 : decode cX12_init 603 = .ok (.bipush 13, 2) := by decide +kernel
theorem dX12_init_605 : decode cX12_init 605 = .ok (.newarray .int, 2) := by decide +kernel
theorem dX12_init_607 : decode cX12_init 607 = .ok (.putfield 137, 3) := by decide +kernel
theorem dX12_init_610 : decode cX12_init 610 = .ok (.aload_n 0, 1) := by decide +kernel
theorem dX12_init_611 : decode cX12_init 611 = .ok (.bipush 13, 2) := by decide +kernel
theorem dX12_init_613 : decode cX12_init 613 = .ok (.newarray .int, 2) := by decide +kernel
theorem dX12_init_615 : decode cX12_init 615 = .ok (.putfield 140, 3) := by decide +kernel
theorem dX12_init_618 : decode cX12_init 618 = .ok (.aload_n 0, 1) := by decide +kernel
theorem dX12_init_619 : decode cX12_init 619 = .ok (.bipush 13, 2) := by decide +kernel
theorem dX12_init_621 : decode cX12_init 621 = .ok (.newarray .int, 2) := by decide +kernel
theorem dX12_init_623 : decode cX12_init 623 = .ok (.putfield 143, 3) := by decide +kernel
theorem dX12_init_626 : decode cX12_init 626 = .ok (.aload_n 0, 1) := by decide +kernel
theorem dX12_init_627 : decode cX12_init 627 = .ok (.bipush 13, 2) := by decide +kernel
theorem dX12_init_629 : decode cX12_init 629 = .ok (.newarray .int, 2) := by decide +kernel
theorem dX12_init_631 : decode cX12_init 631 = .ok (.putfield 146, 3) := by decide +kernel
theorem dX12_init_634 : decode cX12_init 634 = .ok (.aload_n 0, 1) := by decide +kernel
theorem dX12_init_635 : decode cX12_init 635 = .ok (.bipush 13, 2) := by decide +kernel
theorem dX12_init_637 : decode cX12_init 637 = .ok (.newarray .int, 2) := by decide +kernel
theorem dX12_init_639 : decode cX12_init 639 = .ok (.putfield 149, 3) := by decide +kernel
theorem dX12_init_642 : decode cX12_init 642 = .ok (.aload_n 0, 1) := by decide +kernel
theorem dX12_init_643 : decode cX12_init 643 = .ok (.bipush 13, 2) := by decide +kernel
theorem dX12_init_645 : decode cX12_init 645 = .ok (.newarray .int, 2) := by decide +kernel
theorem dX12_init_647 : decode cX12_init 647 = .ok (.putfield 152, 3) := by decide +kernel
theorem dX12_init_650 : decode cX12_init 650 = .ok (.aload_n 0, 1) := by decide +kernel
theorem dX12_init_651 : decode cX12_init 651 = .ok (.bipush 13, 2) := by decide +kernel
theorem dX12_init_653 : decode cX12_init 653 = .ok (.newarray .int, 2) := by decide +kernel
theorem dX12_init_655 : decode cX12_init 655 = .ok (.putfield 155, 3) := by decide +kernel
theorem dX12_init_658 : decode cX12_init 658 = .ok (.aload_n 0, 1) := by decide +kernel
theorem dX12_init_659 : decode cX12_init 659 = .ok (.sipush 520, 3) := by decide +kernel
theorem dX12_init_662 : decode cX12_init 662 = .ok (.newarray .int, 2) := by decide +kernel
theorem dX12_init_664 : decode cX12_init 664 = .ok (.putfield 158, 3) := by decide +kernel
theorem dX12_init_667 : decode cX12_init 667 = .ok (.aload_n 0, 1) := by decide +kernel
theorem dX12_init_668 : decode cX12_init 668 = .ok (.bipush 13, 2) := by decide +kernel
theorem dX12_init_670 : decode cX12_init 670 = .ok (.newarray .int, 2) := by decide +kernel
theorem dX12_init_672 : decode cX12_init 672 = .ok (.putfield 161, 3) := by decide +kernel
theorem dX12_init_675 : decode cX12_init 675 = .ok (.aload_n 0, 1) := by decide +kernel
theorem dX12_init_676 : decode cX12_init 676 = .ok (.sipush 260, 3) := by decide +kernel
theorem dX12_init_679 : decode cX12_init 679 = .ok (.newarray .int, 2) := by decide +kernel
theorem dX12_init_681 : decode cX12_init 681 = .ok (.putfield 164, 3) := by decide +kernel
theorem dX12_init_684 : decode cX12_init 684 = .ok (.aload_n 0, 1) := by decide +kernel
theorem dX12_init_685 : decode cX12_init 685 = .ok (.bipush 13, 2) := by decide +kernel
theorem dX12_init_687 : decode cX12_init 687 = .ok (.newarray .int, 2) := by decide +kernel
theorem dX12_init_689 : decode cX12_init 689 = .ok (.putfield 167, 3) := by decide +kernel
theorem dX12_init_692 : decode cX12_init 692 = .ok (.aload_n 0, 1) := by decide +kernel
theorem dX12_init_693 : decode cX12_init 693 = .ok (.bipush 104, 2) := by decide +kernel
theorem dX12_init_695 : decode cX12_init 695 = .ok (.newarray .int, 2) := by decide +kernel
theorem dX12_init_697 : decode cX12_init 697 = .ok (.putfield 170, 3) := by decide +kernel
theorem dX12_init_700 : decode cX12_init 700 = .ok (.aload_n 0, 1) := by decide +kernel
theorem dX12_init_701 : decode cX12_init 701 = .ok (.bipush 104, 2) := by decide +kernel
theorem dX12_init_703 : decode cX12_init 703 = .ok (.newarray .int, 2) := by decide +kernel
theorem dX12_init_705 : decode cX12_init 705 = .ok (.putfield 173, 3) := by decide +kernel
theorem dX12_init_708 : decode cX12_init 708 = .ok (.aload_n 0, 1) := by decide +kernel
theorem dX12_init_709 : decode cX12_init 709 = .ok (.bipush 13, 2) := by decide +kernel
theorem dX12_init_711 : decode cX12_init 711 = .ok (.newarray .int, 2) := by decide +kernel
theorem dX12_init_713 : decode cX12_init 713 = .ok (.putfield 176, 3) := by decide +kernel
theorem dX12_init_716 : decode cX12_init 716 = .ok (.aload_n 0, 1) := by decide +kernel
theorem dX12_init_717 : decode cX12_init 717 = .ok (.bipush 104, 2) := by decide +kernel
theorem dX12_init_719 : decode cX12_init 719 = .ok (.newarray .int, 2) := by decide +kernel
theorem dX12_init_721 : decode cX12_init 721 = .ok (.putfield 179, 3) := by decide +kernel
theorem dX12_init_724 : decode cX12_init 724 = .ok (.aload_n 0, 1) := by decide +kernel
theorem dX12_init_725 : decode cX12_init 725 = .ok (.bipush 13, 2) := by decide +kernel
theorem dX12_init_727 : decode cX12_init 727 = .ok (.newarray .int, 2) := by decide +kernel
theorem dX12_init_729 : decode cX12_init 729 = .ok (.putfield 182, 3) := by decide +kernel
theorem dX12_init_732 : decode cX12_init 732 = .ok (.aload_n 0, 1) := by decide +kernel
theorem dX12_init_733 : decode cX12_init 733 = .ok (.bipush 13, 2) := by decide +kernel
theorem dX12_init_735 : decode cX12_init 735 = .ok (.newarray .int, 2) := by decide +kernel
theorem dX12_init_737 : decode cX12_init 737 = .ok (.putfield 185, 3) := by decide +kernel
theorem dX12_init_740 : decode cX12_init 740 = .ok (.aload_n 0, 1) := by decide +kernel
theorem dX12_init_741 : decode cX12_init 741 = .ok (.bipush 13, 2) := by decide +kernel
theorem dX12_init_743 : decode cX12_init 743 = .ok (.newarray .int, 2) := by decide +kernel
theorem dX12_init_745 : decode cX12_init 745 = .ok (.putfield 188, 3) := by decide +kernel
theorem dX12_init_748 : decode cX12_init 748 = .ok (.aload_n 0, 1) := by decide +kernel
theorem dX12_init_749 : decode cX12_init 749 = .ok (.bipush 39, 2) := by decide +kernel
theorem dX12_init_751 : decode cX12_init 751 = .ok (.newarray .int, 2) := by decide +kernel
theorem dX12_init_753 : decode cX12_init 753 = .ok (.putfield 191, 3) := by decide +kernel
theorem dX12_init_756 : decode cX12_init 756 = .ok (.aload_n 0, 1) := by decide +kernel
theorem dX12_init_757 : decode cX12_init 757 = .ok (.iconst 3, 1) := by decide +kernel
theorem dX12_init_758 : decode cX12_init 758 = .ok (.newarray .int, 2) := by decide +kernel
theorem dX12_init_760 : decode cX12_init 760 = .ok (.putfield 194, 3) := by decide +kernel
theorem dX12_init_763 : decode cX12_init 763 = .ok (.aload_n 0, 1) := by decide +kernel
theorem dX12_init_764 : decode cX12_init 764 = .ok (.iconst 4, 1) := by decide +kernel
theorem dX12_init_765 : decode cX12_init 765 = .ok (.putfield 197, 3) := by decide +kernel
theorem dX12_init_768 : decode cX12_init 768 = .ok (.aload_n 0, 1) := by decide +kernel
theorem dX12_init_769 : decode cX12_init 769 = .ok (.bipush 8, 2) := by decide +kernel
theorem dX12_init_771 : decode cX12_init 771 = .ok (.newarray .int, 2) := by decide +kernel
theorem dX12_init_773 : decode cX12_init 773 = .ok (.putfield 200, 3) := by decide +kernel
theorem dX12_init_776 : decode cX12_init 776 = .ok (.aload_n 0, 1) := by decide +kernel
theorem dX12_init_777 : decode cX12_init 777 = .ok (.bipush 104, 2) := by decide +kernel
theorem dX12_init_779 : decode cX12_init 779 = .ok (.newarray .int, 2) := by decide +kernel
theorem dX12_init_781 : decode cX12_init 781 = .ok (.putfield 203, 3) := by decide +kernel
theorem dX12_init_784 : decode cX12_init 784 = .ok (.aload_n 0, 1) := by decide +kernel
theorem dX12_init_785 : decode cX12_init 785 = .ok (.bipush 8, 2) := by decide +kernel
theorem dX12_init_787 : decode cX12_init 787 = .ok (.newarray .int, 2) := by decide +kernel
theorem dX12_init_789 : decode cX12_init 789 = .ok (.putfield 206, 3) := by decide +kernel
theorem dX12_init_792 : decode cX12_init 792 = .ok (.aload_n 0, 1) := by decide +kernel
theorem dX12_init_793 : decode cX12_init 793 = .ok (.sipush 1024, 3) := by decide +kernel
theorem dX12_init_796 : decode cX12_init 796 = .ok (.newarray .int, 2) := by decide +kernel
theorem dX12_init_798 : decode cX12_init 798 = .ok (.putfield 209, 3) := by decide +kernel
theorem dX12_init_801 : decode cX12_init 801 = .ok (.aload_n 0, 1) := by decide +kernel
theorem dX12_init_802 : decode cX12_init 802 = .ok (.sipush 1025, 3) := by decide +kernel
theorem dX12_init_805 : decode cX12_init 805 = .ok (.newarray .int, 2) := by decide +kernel
theorem dX12_init_807 : decode cX12_init 807 = .ok (.putfield 212, 3) := by decide +kernel
theorem dX12_init_810 : decode cX12_init 810 = .ok (.aload_n 0, 1) := by decide +kernel
theorem dX12_init_811 : decode cX12_init 811 = .ok (.sipush 1025, 3) := by decide +kernel
theorem dX12_init_814 : decode cX12_init 814 = .ok (.newarray .int, 2) := by decide +kernel
theorem dX12_init_816 : decode cX12_init 816 = .ok (.putfield 215, 3) := by decide +kernel
theorem dX12_init_819 : decode cX12_init 819 = .ok (.aload_n 0, 1) := by decide +kernel
theorem dX12_init_820 : decode cX12_init 820 = .ok (.sipush 1025, 3) := by decide +kernel
theorem dX12_init_823 : decode cX12_init 823 = .ok (.newarray .int, 2) := by decide +kernel
theorem dX12_init_825 : decode cX12_init 825 = .ok (.putfield 218, 3) := by decide +kernel
theorem dX12_init_828 : decode cX12_init 828 = .ok (.aload_n 0, 1) := by decide +kernel
theorem dX12_init_829 : decode cX12_init 829 = .ok (.iconst 1, 1) := by decide +kernel
theorem dX12_init_830 : decode cX12_init 830 = .ok (.putfield 221, 3) := by decide +kernel
theorem dX12_init_833 : decode cX12_init 833 = .ok (.aload_n 0, 1) := by decide +kernel
theorem dX12_init_834 : decode cX12_init 834 = .ok (.sipush 2000, 3) := by decide +kernel
theorem dX12_init_837 : decode cX12_init 837 = .ok (.newarray .int, 2) := by decide +kernel
theorem dX12_init_839 : decode cX12_init 839 = .ok (.putfield 224, 3) := by decide +kernel
theorem dX12_init_842 : decode cX12_init 842 = .ok (.aload_n 0, 1) := by decide +kernel
theorem dX12_init_843 : decode cX12_init 843 = .ok (.getfield 215, 3) := by decide +kernel
theorem dX12_init_846 : decode cX12_init 846 = .ok (.iconst 0, 1) := by decide +kernel
theorem dX12_init_847 : decode cX12_init 847 = .ok (.sipush 1024, 3) := by decide +kernel
theorem dX12_init_850 : decode cX12_init 850 = .ok (.iastore, 1) := by decide +kernel
theorem dX12_init_851 : decode cX12_init 851 = .ok (.return_, 1) := by decide +kernel
theorem dX12_byteOf_0 : decode cX12_byteOf 0 = .ok (.iload_n 1, 1) := by decide +kernel
theorem dX12_byteOf_1 : decode cX12_byteOf 1 = .ok (.aload_n 0, 1) := by decide +kernel
theorem dX12_byteOf_2 : decode cX12_byteOf 2 = .ok (.getfield 227, 3) := by decide +kernel
theorem dX12_byteOf_5 : decode cX12_byteOf 5 = .ok (.if_icmp .ge 16, 3) := by decide +kernel
theorem dX12_byteOf_8 : decode cX12_byteOf 8 = .ok (.aload_n 0, 1) := by decide +kernel
theorem dX12_byteOf_9 : decode cX12_byteOf 9 = .ok (.getfield 105, 3) := by decide +kernel
theorem dX12_byteOf_12 : decode cX12_byteOf 12 = .ok (.iload_n 1, 1) := by decide +kernel
theorem dX12_byteOf_13 : decode cX12_byteOf 13 = .ok (.baload, 1) := by decide +kernel
theorem dX12_byteOf_14 : decode cX12_byteOf 14 = .ok (.sipush 255, 3) := by decide +kernel
theorem dX12_byteOf_17 : decode cX12_byteOf 17 = .ok (.iand, 1) := by decide +kernel
theorem dX12_byteOf_18 : decode cX12_byteOf 18 = .ok (.goto 4, 3) := by decide +kernel
theorem dX12_byteOf_21 : decode cX12_byteOf 21 = .ok (.iconst (-1), 1) := by decide +kernel
theorem dX12_byteOf_22 : decode cX12_byteOf 22 = .ok (.ireturn, 1) := by decide +kernel
theorem dX12_isBlank_0 : decode cX12_isBlank 0 = .ok (.iload_n 0, 1) := by decide +kernel
theorem dX12_isBlank_1 : decode cX12_isBlank 1 = .ok (.bipush 9, 2) := by decide +kernel
theorem dX12_isBlank_3 : decode cX12_isBlank 3 = .ok (.if_icmp .eq 21, 3) := by decide +kernel
theorem dX12_isBlank_6 : decode cX12_isBlank 6 = .ok (.iload_n 0, 1) := by decide +kernel
theorem dX12_isBlank_7 : decode cX12_isBlank 7 = .ok (.bipush 10, 2) := by decide +kernel
theorem dX12_isBlank_9 : decode cX12_isBlank 9 = .ok (.if_icmp .eq 15, 3) := by decide +kernel
theorem dX12_isBlank_12 : decode cX12_isBlank 12 = .ok (.iload_n 0, 1) := by decide +kernel
theorem dX12_isBlank_13 : decode cX12_isBlank 13 = .ok (.bipush 13, 2) := by decide +kernel
theorem dX12_isBlank_15 : decode cX12_isBlank 15 = .ok (.if_icmp .eq 9, 3) := by decide +kernel
theorem dX12_isBlank_18 : decode cX12_isBlank 18 = .ok (.iload_n 0, 1) := by decide +kernel
theorem dX12_isBlank_19 : decode cX12_isBlank 19 = .ok (.bipush 32, 2) := by decide +kernel
theorem dX12_isBlank_21 : decode cX12_isBlank 21 = .ok (.if_icmp .ne 7, 3) := by decide +kernel
theorem dX12_isBlank_24 : decode cX12_isBlank 24 = .ok (.iconst 1, 1) := by decide +kernel
theorem dX12_isBlank_25 : decode cX12_isBlank 25 = .ok (.goto 4, 3) := by decide +kernel
theorem dX12_isBlank_28 : decode cX12_isBlank 28 = .ok (.iconst 0, 1) := by decide +kernel
theorem dX12_isBlank_29 : decode cX12_isBlank 29 = .ok (.ireturn, 1) := by decide +kernel
theorem dX12_isDigit_0 : decode cX12_isDigit 0 = .ok (.iload_n 0, 1) := by decide +kernel
theorem dX12_isDigit_1 : decode cX12_isDigit 1 = .ok (.bipush 48, 2) := by decide +kernel
theorem dX12_isDigit_3 : decode cX12_isDigit 3 = .ok (.if_icmp .lt 13, 3) := by decide +kernel
theorem dX12_isDigit_6 : decode cX12_isDigit 6 = .ok (.iload_n 0, 1) := by decide +kernel
theorem dX12_isDigit_7 : decode cX12_isDigit 7 = .ok (.bipush 57, 2) := by decide +kernel
theorem dX12_isDigit_9 : decode cX12_isDigit 9 = .ok (.if_icmp .gt 7, 3) := by decide +kernel
theorem dX12_isDigit_12 : decode cX12_isDigit 12 = .ok (.iconst 1, 1) := by decide +kernel
theorem dX12_isDigit_13 : decode cX12_isDigit 13 = .ok (.goto 4, 3) := by decide +kernel
theorem dX12_isDigit_16 : decode cX12_isDigit 16 = .ok (.iconst 0, 1) := by decide +kernel
theorem dX12_isDigit_17 : decode cX12_isDigit 17 = .ok (.ireturn, 1) := by decide +kernel
theorem dX12_isLetter_0 : decode cX12_isLetter 0 = .ok (.iload_n 0, 1) := by decide +kernel
theorem dX12_isLetter_1 : decode cX12_isLetter 1 = .ok (.bipush 97, 2) := by decide +kernel
theorem dX12_isLetter_3 : decode cX12_isLetter 3 = .ok (.if_icmp .lt 13, 3) := by decide +kernel
theorem dX12_isLetter_6 : decode cX12_isLetter 6 = .ok (.iload_n 0, 1) := by decide +kernel
theorem dX12_isLetter_7 : decode cX12_isLetter 7 = .ok (.bipush 122, 2) := by decide +kernel
theorem dX12_isLetter_9 : decode cX12_isLetter 9 = .ok (.if_icmp .gt 7, 3) := by decide +kernel
theorem dX12_isLetter_12 : decode cX12_isLetter 12 = .ok (.iconst 1, 1) := by decide +kernel
theorem dX12_isLetter_13 : decode cX12_isLetter 13 = .ok (.goto 4, 3) := by decide +kernel
theorem dX12_isLetter_16 : decode cX12_isLetter 16 = .ok (.iconst 0, 1) := by decide +kernel
theorem dX12_isLetter_17 : decode cX12_isLetter 17 = .ok (.ireturn, 1) := by decide +kernel
theorem dX12_takeWord_0 : decode cX12_takeWord 0 = .ok (.aload_n 0, 1) := by decide +kernel
theorem dX12_takeWord_1 : decode cX12_takeWord 1 = .ok (.getfield 230, 3) := by decide +kernel
theorem dX12_takeWord_4 : decode cX12_takeWord 4 = .ok (.istore_n 1, 1) := by decide +kernel
theorem dX12_takeWord_5 : decode cX12_takeWord 5 = .ok (.aload_n 0, 1) := by decide +kernel
theorem dX12_takeWord_6 : decode cX12_takeWord 6 = .ok (.iload_n 1, 1) := by decide +kernel
theorem dX12_takeWord_7 : decode cX12_takeWord 7 = .ok (.invokevirtual 233, 3) := by decide +kernel
theorem dX12_takeWord_10 : decode cX12_takeWord 10 = .ok (.invokestatic 237, 3) := by decide +kernel
theorem dX12_takeWord_13 : decode cX12_takeWord 13 = .ok (.ifCond .ne 13, 3) := by decide +kernel
theorem dX12_takeWord_16 : decode cX12_takeWord 16 = .ok (.aload_n 0, 1) := by decide +kernel
theorem dX12_takeWord_17 : decode cX12_takeWord 17 = .ok (.iload_n 1, 1) := by decide +kernel
theorem dX12_takeWord_18 : decode cX12_takeWord 18 = .ok (.invokevirtual 233, 3) := by decide +kernel
theorem dX12_takeWord_21 : decode cX12_takeWord 21 = .ok (.bipush 35, 2) := by decide +kernel
theorem dX12_takeWord_23 : decode cX12_takeWord 23 = .ok (.if_icmp .ne 44, 3) := by decide +kernel
theorem dX12_takeWord_26 : decode cX12_takeWord 26 = .ok (.aload_n 0, 1) := by decide +kernel
theorem dX12_takeWord_27 : decode cX12_takeWord 27 = .ok (.iload_n 1, 1) := by decide +kernel
theorem dX12_takeWord_28 : decode cX12_takeWord 28 = .ok (.invokevirtual 233, 3) := by decide +kernel
theorem dX12_takeWord_31 : decode cX12_takeWord 31 = .ok (.bipush 35, 2) := by decide +kernel
theorem dX12_takeWord_33 : decode cX12_takeWord 33 = .ok (.if_icmp .ne 28, 3) := by decide +kernel
theorem dX12_takeWord_36 : decode cX12_takeWord 36 = .ok (.aload_n 0, 1) := by decide +kernel
theorem dX12_takeWord_37 : decode cX12_takeWord 37 = .ok (.iload_n 1, 1) := by decide +kernel
theorem dX12_takeWord_38 : decode cX12_takeWord 38 = .ok (.invokevirtual 233, 3) := by decide +kernel
theorem dX12_takeWord_41 : decode cX12_takeWord 41 = .ok (.iconst (-1), 1) := by decide +kernel
theorem dX12_takeWord_42 : decode cX12_takeWord 42 = .ok (.if_icmp .eq (-37), 3) := by decide +kernel
theorem dX12_takeWord_45 : decode cX12_takeWord 45 = .ok (.aload_n 0, 1) := by decide +kernel
theorem dX12_takeWord_46 : decode cX12_takeWord 46 = .ok (.iload_n 1, 1) := by decide +kernel
theorem dX12_takeWord_47 : decode cX12_takeWord 47 = .ok (.invokevirtual 233, 3) := by decide +kernel
theorem dX12_takeWord_50 : decode cX12_takeWord 50 = .ok (.bipush 10, 2) := by decide +kernel
theorem dX12_takeWord_52 : decode cX12_takeWord 52 = .ok (.if_icmp .eq (-47), 3) := by decide +kernel
theorem dX12_takeWord_55 : decode cX12_takeWord 55 = .ok (.iinc 1 1, 3) := by decide +kernel
theorem dX12_takeWord_58 : decode cX12_takeWord 58 = .ok (.goto (-22), 3) := by decide +kernel
theorem dX12_takeWord_61 : decode cX12_takeWord 61 = .ok (.iinc 1 1, 3) := by decide +kernel
theorem dX12_takeWord_64 : decode cX12_takeWord 64 = .ok (.goto (-59), 3) := by decide +kernel
theorem dX12_takeWord_67 : decode cX12_takeWord 67 = .ok (.aload_n 0, 1) := by decide +kernel
theorem dX12_takeWord_68 : decode cX12_takeWord 68 = .ok (.iload_n 1, 1) := by decide +kernel
theorem dX12_takeWord_69 : decode cX12_takeWord 69 = .ok (.putfield 241, 3) := by decide +kernel
theorem dX12_takeWord_72 : decode cX12_takeWord 72 = .ok (.aload_n 0, 1) := by decide +kernel
theorem dX12_takeWord_73 : decode cX12_takeWord 73 = .ok (.iload_n 1, 1) := by decide +kernel
theorem dX12_takeWord_74 : decode cX12_takeWord 74 = .ok (.invokevirtual 233, 3) := by decide +kernel
theorem dX12_takeWord_77 : decode cX12_takeWord 77 = .ok (.iconst (-1), 1) := by decide +kernel
theorem dX12_takeWord_78 : decode cX12_takeWord 78 = .ok (.if_icmp .eq 20, 3) := by decide +kernel
theorem dX12_takeWord_81 : decode cX12_takeWord 81 = .ok (.aload_n 0, 1) := by decide +kernel
theorem dX12_takeWord_82 : decode cX12_takeWord 82 = .ok (.iload_n 1, 1) := by decide +kernel
theorem dX12_takeWord_83 : decode cX12_takeWord 83 = .ok (.invokevirtual 233, 3) := by decide +kernel
theorem dX12_takeWord_86 : decode cX12_takeWord 86 = .ok (.invokestatic 237, 3) := by decide +kernel
theorem dX12_takeWord_89 : decode cX12_takeWord 89 = .ok (.ifCond .ne 9, 3) := by decide +kernel
theorem dX12_takeWord_92 : decode cX12_takeWord 92 = .ok (.iinc 1 1, 3) := by decide +kernel
theorem dX12_takeWord_95 : decode cX12_takeWord 95 = .ok (.goto (-23), 3) := by decide +kernel
theorem dX12_takeWord_98 : decode cX12_takeWord 98 = .ok (.aload_n 0, 1) := by decide +kernel
theorem dX12_takeWord_99 : decode cX12_takeWord 99 = .ok (.iload_n 1, 1) := by decide +kernel
theorem dX12_takeWord_100 : decode cX12_takeWord 100 = .ok (.putfield 230, 3) := by decide +kernel
theorem dX12_takeWord_103 : decode cX12_takeWord 103 = .ok (.return_, 1) := by decide +kernel
theorem dX12_operation_0 : decode cX12_operation 0 = .ok (.lconst 0, 1) := by decide +kernel
theorem dX12_operation_1 : decode cX12_operation 1 = .ok (.lstore_n 3, 1) := by decide +kernel
theorem dX12_operation_2 : decode cX12_operation 2 = .ok (.iconst 1, 1) := by decide +kernel
theorem dX12_operation_3 : decode cX12_operation 3 = .ok (.istore 5, 2) := by decide +kernel
theorem dX12_operation_5 : decode cX12_operation 5 = .ok (.iconst 0, 1) := by decide +kernel
theorem dX12_operation_6 : decode cX12_operation 6 = .ok (.istore 6, 2) := by decide +kernel
theorem dX12_operation_8 : decode cX12_operation 8 = .ok (.iload 6, 2) := by decide +kernel
theorem dX12_operation_10 : decode cX12_operation 10 = .ok (.iload_n 2, 1) := by decide +kernel
theorem dX12_operation_11 : decode cX12_operation 11 = .ok (.if_icmp .ge 53, 3) := by decide +kernel
theorem dX12_operation_14 : decode cX12_operation 14 = .ok (.iload_n 2, 1) := by decide +kernel
theorem dX12_operation_15 : decode cX12_operation 15 = .ok (.bipush 8, 2) := by decide +kernel
theorem dX12_operation_17 : decode cX12_operation 17 = .ok (.if_icmp .ge 47, 3) := by decide +kernel
theorem dX12_operation_20 : decode cX12_operation 20 = .ok (.lload_n 3, 1) := by decide +kernel
theorem dX12_operation_21 : decode cX12_operation 21 = .ok (.bipush 8, 2) := by decide +kernel
theorem dX12_operation_23 : decode cX12_operation 23 = .ok (.lshl, 1) := by decide +kernel
theorem dX12_operation_24 : decode cX12_operation 24 = .ok (.aload_n 0, 1) := by decide +kernel
theorem dX12_operation_25 : decode cX12_operation 25 = .ok (.iload_n 1, 1) := by decide +kernel
theorem dX12_operation_26 : decode cX12_operation 26 = .ok (.iload 6, 2) := by decide +kernel
theorem dX12_operation_28 : decode cX12_operation 28 = .ok (.iadd, 1) := by decide +kernel
theorem dX12_operation_29 : decode cX12_operation 29 = .ok (.invokevirtual 233, 3) := by decide +kernel
theorem dX12_operation_32 : decode cX12_operation 32 = .ok (.i2l, 1) := by decide +kernel
theorem dX12_operation_33 : decode cX12_operation 33 = .ok (.lor, 1) := by decide +kernel
theorem dX12_operation_34 : decode cX12_operation 34 = .ok (.lstore_n 3, 1) := by decide +kernel
theorem dX12_operation_35 : decode cX12_operation 35 = .ok (.iload 5, 2) := by decide +kernel
theorem dX12_operation_37 : decode cX12_operation 37 = .ok (.ifCond .eq 18, 3) := by decide +kernel
theorem dX12_operation_40 : decode cX12_operation 40 = .ok (.aload_n 0, 1) := by decide +kernel
theorem dX12_operation_41 : decode cX12_operation 41 = .ok (.iload_n 1, 1) := by decide +kernel
theorem dX12_operation_42 : decode cX12_operation 42 = .ok (.iload 6, 2) := by decide +kernel
theorem dX12_operation_44 : decode cX12_operation 44 = .ok (.iadd, 1) := by decide +kernel
theorem dX12_operation_45 : decode cX12_operation 45 = .ok (.invokevirtual 233, 3) := by decide +kernel
theorem dX12_operation_48 : decode cX12_operation 48 = .ok (.ifCond .eq 7, 3) := by decide +kernel
theorem dX12_operation_51 : decode cX12_operation 51 = .ok (.iconst 1, 1) := by decide +kernel
theorem dX12_operation_52 : decode cX12_operation 52 = .ok (.goto 4, 3) := by decide +kernel
theorem dX12_operation_55 : decode cX12_operation 55 = .ok (.iconst 0, 1) := by decide +kernel
theorem dX12_operation_56 : decode cX12_operation 56 = .ok (.istore 5, 2) := by decide +kernel
theorem dX12_operation_58 : decode cX12_operation 58 = .ok (.iinc 6 1, 3) := by decide +kernel
theorem dX12_operation_61 : decode cX12_operation 61 = .ok (.goto (-53), 3) := by decide +kernel
theorem dX12_operation_64 : decode cX12_operation 64 = .ok (.iconst (-1), 1) := by decide +kernel
theorem dX12_operation_65 : decode cX12_operation 65 = .ok (.istore 6, 2) := by decide +kernel
theorem dX12_operation_67 : decode cX12_operation 67 = .ok (.iconst 0, 1) := by decide +kernel
theorem dX12_operation_68 : decode cX12_operation 68 = .ok (.istore 7, 2) := by decide +kernel
theorem dX12_operation_70 : decode cX12_operation 70 = .ok (.iload 7, 2) := by decide +kernel
theorem dX12_operation_72 : decode cX12_operation 72 = .ok (.bipush 42, 2) := by decide +kernel
theorem dX12_operation_74 : decode cX12_operation 74 = .ok (.if_icmp .ge 43, 3) := by decide +kernel
theorem dX12_operation_77 : decode cX12_operation 77 = .ok (.iload 5, 2) := by decide +kernel
theorem dX12_operation_79 : decode cX12_operation 79 = .ok (.ifCond .eq 28, 3) := by decide +kernel
theorem dX12_operation_82 : decode cX12_operation 82 = .ok (.iload_n 2, 1) := by decide +kernel
theorem dX12_operation_83 : decode cX12_operation 83 = .ok (.bipush 8, 2) := by decide +kernel
theorem dX12_operation_85 : decode cX12_operation 85 = .ok (.if_icmp .ge 22, 3) := by decide +kernel
theorem dX12_operation_88 : decode cX12_operation 88 = .ok (.aload_n 0, 1) := by decide +kernel
theorem dX12_operation_89 : decode cX12_operation 89 = .ok (.getfield 97, 3) := by decide +kernel
theorem dX12_operation_92 : decode cX12_operation 92 = .ok (.iload 7, 2) := by decide +kernel
theorem dX12_operation_94 : decode cX12_operation 94 = .ok (.laload, 1) := by decide +kernel
theorem dX12_operation_95 : decode cX12_operation 95 = .ok (.lload_n 3, 1) := by decide +kernel
theorem dX12_operation_96 : decode cX12_operation 96 = .ok (.lcmp, 1) := by decide +kernel
theorem dX12_operation_97 : decode cX12_operation 97 = .ok (.ifCond .ne 10, 3) := by decide +kernel
theorem dX12_operation_100 : decode cX12_operation 100 = .ok (.iload 7, 2) := by decide +kernel
theorem dX12_operation_102 : decode cX12_operation 102 = .ok (.iconst 1, 1) := by decide +kernel
theorem dX12_operation_103 : decode cX12_operation 103 = .ok (.iadd, 1) := by decide +kernel
theorem dX12_operation_104 : decode cX12_operation 104 = .ok (.goto 5, 3) := by decide +kernel
theorem dX12_operation_107 : decode cX12_operation 107 = .ok (.iload 6, 2) := by decide +kernel
theorem dX12_operation_109 : decode cX12_operation 109 = .ok (.istore 6, 2) := by decide +kernel
theorem dX12_operation_111 : decode cX12_operation 111 = .ok (.iinc 7 1, 3) := by decide +kernel
theorem dX12_operation_114 : decode cX12_operation 114 = .ok (.goto (-44), 3) := by decide +kernel
theorem dX12_operation_117 : decode cX12_operation 117 = .ok (.iload 6, 2) := by decide +kernel
theorem dX12_operation_119 : decode cX12_operation 119 = .ok (.ireturn, 1) := by decide +kernel
theorem dX12_isName_0 : decode cX12_isName 0 = .ok (.iload_n 2, 1) := by decide +kernel
theorem dX12_isName_1 : decode cX12_isName 1 = .ok (.iconst 1, 1) := by decide +kernel
theorem dX12_isName_2 : decode cX12_isName 2 = .ok (.if_icmp .lt 34, 3) := by decide +kernel
theorem dX12_isName_5 : decode cX12_isName 5 = .ok (.iload_n 2, 1) := by decide +kernel
theorem dX12_isName_6 : decode cX12_isName 6 = .ok (.bipush 12, 2) := by decide +kernel
theorem dX12_isName_8 : decode cX12_isName 8 = .ok (.if_icmp .gt 28, 3) := by decide +kernel
theorem dX12_isName_11 : decode cX12_isName 11 = .ok (.aload_n 0, 1) := by decide +kernel
theorem dX12_isName_12 : decode cX12_isName 12 = .ok (.iload_n 1, 1) := by decide +kernel
theorem dX12_isName_13 : decode cX12_isName 13 = .ok (.invokevirtual 233, 3) := by decide +kernel
theorem dX12_isName_16 : decode cX12_isName 16 = .ok (.invokestatic 244, 3) := by decide +kernel
theorem dX12_isName_19 : decode cX12_isName 19 = .ok (.ifCond .eq 17, 3) := by decide +kernel
theorem dX12_isName_22 : decode cX12_isName 22 = .ok (.aload_n 0, 1) := by decide +kernel
theorem dX12_isName_23 : decode cX12_isName 23 = .ok (.iload_n 1, 1) := by decide +kernel
theorem dX12_isName_24 : decode cX12_isName 24 = .ok (.iload_n 2, 1) := by decide +kernel
theorem dX12_isName_25 : decode cX12_isName 25 = .ok (.invokevirtual 247, 3) := by decide +kernel
theorem dX12_isName_28 : decode cX12_isName 28 = .ok (.iconst (-1), 1) := by decide +kernel
theorem dX12_isName_29 : decode cX12_isName 29 = .ok (.if_icmp .ne 7, 3) := by decide +kernel
theorem dX12_isName_32 : decode cX12_isName 32 = .ok (.iconst 1, 1) := by decide +kernel
theorem dX12_isName_33 : decode cX12_isName 33 = .ok (.goto 4, 3) := by decide +kernel
theorem dX12_isName_36 : decode cX12_isName 36 = .ok (.iconst 0, 1) := by decide +kernel
theorem dX12_isName_37 : decode cX12_isName 37 = .ok (.istore_n 3, 1) := by decide +kernel
theorem dX12_isName_38 : decode cX12_isName 38 = .ok (.iconst 1, 1) := by decide +kernel
theorem dX12_isName_39 : decode cX12_isName 39 = .ok (.istore 4, 2) := by decide +kernel
theorem dX12_isName_41 : decode cX12_isName 41 = .ok (.iload 4, 2) := by decide +kernel
theorem dX12_isName_43 : decode cX12_isName 43 = .ok (.iload_n 2, 1) := by decide +kernel
theorem dX12_isName_44 : decode cX12_isName 44 = .ok (.if_icmp .ge 47, 3) := by decide +kernel
theorem dX12_isName_47 : decode cX12_isName 47 = .ok (.iload_n 3, 1) := by decide +kernel
theorem dX12_isName_48 : decode cX12_isName 48 = .ok (.ifCond .eq 43, 3) := by decide +kernel
theorem dX12_isName_51 : decode cX12_isName 51 = .ok (.aload_n 0, 1) := by decide +kernel
theorem dX12_isName_52 : decode cX12_isName 52 = .ok (.iload_n 1, 1) := by decide +kernel
theorem dX12_isName_53 : decode cX12_isName 53 = .ok (.iload 4, 2) := by decide +kernel
theorem dX12_isName_55 : decode cX12_isName 55 = .ok (.iadd, 1) := by decide +kernel
theorem dX12_isName_56 : decode cX12_isName 56 = .ok (.invokevirtual 233, 3) := by decide +kernel
theorem dX12_isName_59 : decode cX12_isName 59 = .ok (.invokestatic 244, 3) := by decide +kernel
theorem dX12_isName_62 : decode cX12_isName 62 = .ok (.ifCond .ne 17, 3) := by decide +kernel
theorem dX12_isName_65 : decode cX12_isName 65 = .ok (.aload_n 0, 1) := by decide +kernel
theorem dX12_isName_66 : decode cX12_isName 66 = .ok (.iload_n 1, 1) := by decide +kernel
theorem dX12_isName_67 : decode cX12_isName 67 = .ok (.iload 4, 2) := by decide +kernel
theorem dX12_isName_69 : decode cX12_isName 69 = .ok (.iadd, 1) := by decide +kernel
theorem dX12_isName_70 : decode cX12_isName 70 = .ok (.invokevirtual 233, 3) := by decide +kernel
theorem dX12_isName_73 : decode cX12_isName 73 = .ok (.invokestatic 251, 3) := by decide +kernel
theorem dX12_isName_76 : decode cX12_isName 76 = .ok (.ifCond .eq 7, 3) := by decide +kernel
theorem dX12_isName_79 : decode cX12_isName 79 = .ok (.iconst 1, 1) := by decide +kernel
theorem dX12_isName_80 : decode cX12_isName 80 = .ok (.goto 4, 3) := by decide +kernel
theorem dX12_isName_83 : decode cX12_isName 83 = .ok (.iconst 0, 1) := by decide +kernel
theorem dX12_isName_84 : decode cX12_isName 84 = .ok (.istore_n 3, 1) := by decide +kernel
theorem dX12_isName_85 : decode cX12_isName 85 = .ok (.iinc 4 1, 3) := by decide +kernel
theorem dX12_isName_88 : decode cX12_isName 88 = .ok (.goto (-47), 3) := by decide +kernel
theorem dX12_isName_91 : decode cX12_isName 91 = .ok (.iload_n 3, 1) := by decide +kernel
theorem dX12_isName_92 : decode cX12_isName 92 = .ok (.ireturn, 1) := by decide +kernel
theorem dX12_isNumber_0 : decode cX12_isNumber 0 = .ok (.aload_n 0, 1) := by decide +kernel
theorem dX12_isNumber_1 : decode cX12_isNumber 1 = .ok (.aload_n 0, 1) := by decide +kernel
theorem dX12_isNumber_2 : decode cX12_isNumber 2 = .ok (.getfield 241, 3) := by decide +kernel
theorem dX12_isNumber_5 : decode cX12_isNumber 5 = .ok (.invokevirtual 233, 3) := by decide +kernel
theorem dX12_isNumber_8 : decode cX12_isNumber 8 = .ok (.bipush 45, 2) := by decide +kernel
theorem dX12_isNumber_10 : decode cX12_isNumber 10 = .ok (.if_icmp .ne 12, 3) := by decide +kernel
theorem dX12_isNumber_13 : decode cX12_isNumber 13 = .ok (.aload_n 0, 1) := by decide +kernel
theorem dX12_isNumber_14 : decode cX12_isNumber 14 = .ok (.getfield 241, 3) := by decide +kernel
theorem dX12_isNumber_17 : decode cX12_isNumber 17 = .ok (.iconst 1, 1) := by decide +kernel
theorem dX12_isNumber_18 : decode cX12_isNumber 18 = .ok (.iadd, 1) := by decide +kernel
theorem dX12_isNumber_19 : decode cX12_isNumber 19 = .ok (.goto 7, 3) := by decide +kernel
theorem dX12_isNumber_22 : decode cX12_isNumber 22 = .ok (.aload_n 0, 1) := by decide +kernel
theorem dX12_isNumber_23 : decode cX12_isNumber 23 = .ok (.getfield 241, 3) := by decide +kernel
theorem dX12_isNumber_26 : decode cX12_isNumber 26 = .ok (.istore_n 1, 1) := by decide +kernel
theorem dX12_isNumber_27 : decode cX12_isNumber 27 = .ok (.iload_n 1, 1) := by decide +kernel
theorem dX12_isNumber_28 : decode cX12_isNumber 28 = .ok (.aload_n 0, 1) := by decide +kernel
theorem dX12_isNumber_29 : decode cX12_isNumber 29 = .ok (.getfield 230, 3) := by decide +kernel
theorem dX12_isNumber_32 : decode cX12_isNumber 32 = .ok (.if_icmp .ge 7, 3) := by decide +kernel
theorem dX12_isNumber_35 : decode cX12_isNumber 35 = .ok (.iconst 1, 1) := by decide +kernel
theorem dX12_isNumber_36 : decode cX12_isNumber 36 = .ok (.goto 4, 3) := by decide +kernel
theorem dX12_isNumber_39 : decode cX12_isNumber 39 = .ok (.iconst 0, 1) := by decide +kernel
theorem dX12_isNumber_40 : decode cX12_isNumber 40 = .ok (.istore_n 2, 1) := by decide +kernel
theorem dX12_isNumber_41 : decode cX12_isNumber 41 = .ok (.iload_n 1, 1) := by decide +kernel
theorem dX12_isNumber_42 : decode cX12_isNumber 42 = .ok (.istore_n 3, 1) := by decide +kernel
theorem dX12_isNumber_43 : decode cX12_isNumber 43 = .ok (.iload_n 3, 1) := by decide +kernel
theorem dX12_isNumber_44 : decode cX12_isNumber 44 = .ok (.aload_n 0, 1) := by decide +kernel
theorem dX12_isNumber_45 : decode cX12_isNumber 45 = .ok (.getfield 230, 3) := by decide +kernel
theorem dX12_isNumber_48 : decode cX12_isNumber 48 = .ok (.if_icmp .ge 22, 3) := by decide +kernel
theorem dX12_isNumber_51 : decode cX12_isNumber 51 = .ok (.iload_n 2, 1) := by decide +kernel
theorem dX12_isNumber_52 : decode cX12_isNumber 52 = .ok (.ifCond .eq 18, 3) := by decide +kernel
theorem dX12_isNumber_55 : decode cX12_isNumber 55 = .ok (.aload_n 0, 1) := by decide +kernel
theorem dX12_isNumber_56 : decode cX12_isNumber 56 = .ok (.iload_n 3, 1) := by decide +kernel
theorem dX12_isNumber_57 : decode cX12_isNumber 57 = .ok (.invokevirtual 233, 3) := by decide +kernel
theorem dX12_isNumber_60 : decode cX12_isNumber 60 = .ok (.invokestatic 251, 3) := by decide +kernel
theorem dX12_isNumber_63 : decode cX12_isNumber 63 = .ok (.istore_n 2, 1) := by decide +kernel
theorem dX12_isNumber_64 : decode cX12_isNumber 64 = .ok (.iinc 3 1, 3) := by decide +kernel
theorem dX12_isNumber_67 : decode cX12_isNumber 67 = .ok (.goto (-24), 3) := by decide +kernel
theorem dX12_isNumber_70 : decode cX12_isNumber 70 = .ok (.aload_n 0, 1) := by decide +kernel
theorem dX12_isNumber_71 : decode cX12_isNumber 71 = .ok (.invokevirtual 254, 3) := by decide +kernel
theorem dX12_isNumber_74 : decode cX12_isNumber 74 = .ok (.lstore_n 3, 1) := by decide +kernel
theorem dX12_isNumber_75 : decode cX12_isNumber 75 = .ok (.iload_n 2, 1) := by decide +kernel
theorem dX12_isNumber_76 : decode cX12_isNumber 76 = .ok (.ifCond .eq 23, 3) := by decide +kernel
theorem dX12_isNumber_79 : decode cX12_isNumber 79 = .ok (.lload_n 3, 1) := by decide +kernel
theorem dX12_isNumber_80 : decode cX12_isNumber 80 = .ok (.ldc2_w 258, 3) := by decide +kernel
theorem dX12_isNumber_83 : decode cX12_isNumber 83 = .ok (.lcmp, 1) := by decide +kernel
theorem dX12_isNumber_84 : decode cX12_isNumber 84 = .ok (.ifCond .lt 15, 3) := by decide +kernel
theorem dX12_isNumber_87 : decode cX12_isNumber 87 = .ok (.lload_n 3, 1) := by decide +kernel
theorem dX12_isNumber_88 : decode cX12_isNumber 88 = .ok (.ldc2_w 260, 3) := by decide +kernel
theorem dX12_isNumber_91 : decode cX12_isNumber 91 = .ok (.lcmp, 1) := by decide +kernel
theorem dX12_isNumber_92 : decode cX12_isNumber 92 = .ok (.ifCond .gt 7, 3) := by decide +kernel
theorem dX12_isNumber_95 : decode cX12_isNumber 95 = .ok (.iconst 1, 1) := by decide +kernel
theorem dX12_isNumber_96 : decode cX12_isNumber 96 = .ok (.goto 4, 3) := by decide +kernel
theorem dX12_isNumber_99 : decode cX12_isNumber 99 = .ok (.iconst 0, 1) := by decide +kernel
theorem dX12_isNumber_100 : decode cX12_isNumber 100 = .ok (.ireturn, 1) := by decide +kernel
theorem dX12_valueOfWord_0 : decode cX12_valueOfWord 0 = .ok (.aload_n 0, 1) := by decide +kernel
theorem dX12_valueOfWord_1 : decode cX12_valueOfWord 1 = .ok (.aload_n 0, 1) := by decide +kernel
theorem dX12_valueOfWord_2 : decode cX12_valueOfWord 2 = .ok (.getfield 241, 3) := by decide +kernel
theorem dX12_valueOfWord_5 : decode cX12_valueOfWord 5 = .ok (.invokevirtual 233, 3) := by decide +kernel
theorem dX12_valueOfWord_8 : decode cX12_valueOfWord 8 = .ok (.bipush 45, 2) := by decide +kernel
theorem dX12_valueOfWord_10 : decode cX12_valueOfWord 10 = .ok (.if_icmp .ne 7, 3) := by decide +kernel
theorem dX12_valueOfWord_13 : decode cX12_valueOfWord 13 = .ok (.iconst 1, 1) := by decide +kernel
theorem dX12_valueOfWord_14 : decode cX12_valueOfWord 14 = .ok (.goto 4, 3) := by decide +kernel
theorem dX12_valueOfWord_17 : decode cX12_valueOfWord 17 = .ok (.iconst 0, 1) := by decide +kernel
theorem dX12_valueOfWord_18 : decode cX12_valueOfWord 18 = .ok (.istore_n 1, 1) := by decide +kernel
theorem dX12_valueOfWord_19 : decode cX12_valueOfWord 19 = .ok (.lconst 0, 1) := by decide +kernel
theorem dX12_valueOfWord_20 : decode cX12_valueOfWord 20 = .ok (.lstore_n 2, 1) := by decide +kernel
theorem dX12_valueOfWord_21 : decode cX12_valueOfWord 21 = .ok (.iload_n 1, 1) := by decide +kernel
theorem dX12_valueOfWord_22 : decode cX12_valueOfWord 22 = .ok (.ifCond .eq 12, 3) := by decide +kernel
theorem dX12_valueOfWord_25 : decode cX12_valueOfWord 25 = .ok (.aload_n 0, 1) := by decide +kernel
theorem dX12_valueOfWord_26 : decode cX12_valueOfWord 26 = .ok (.getfield 241, 3) := by decide +kernel
theorem dX12_valueOfWord_29 : decode cX12_valueOfWord 29 = .ok (.iconst 1, 1) := by decide +kernel
theorem dX12_valueOfWord_30 : decode cX12_valueOfWord 30 = .ok (.iadd, 1) := by decide +kernel
theorem dX12_valueOfWord_31 : decode cX12_valueOfWord 31 = .ok (.goto 7, 3) := by decide +kernel
theorem dX12_valueOfWord_34 : decode cX12_valueOfWord 34 = .ok (.aload_n 0, 1) := by decide +kernel
theorem dX12_valueOfWord_35 : decode cX12_valueOfWord 35 = .ok (.getfield 241, 3) := by decide +kernel
theorem dX12_valueOfWord_38 : decode cX12_valueOfWord 38 = .ok (.istore 4, 2) := by decide +kernel
theorem dX12_valueOfWord_40 : decode cX12_valueOfWord 40 = .ok (.iload 4, 2) := by decide +kernel
theorem dX12_valueOfWord_42 : decode cX12_valueOfWord 42 = .ok (.aload_n 0, 1) := by decide +kernel
theorem dX12_valueOfWord_43 : decode cX12_valueOfWord 43 = .ok (.getfield 230, 3) := by decide +kernel
theorem dX12_valueOfWord_46 : decode cX12_valueOfWord 46 = .ok (.if_icmp .ge 39, 3) := by decide +kernel
theorem dX12_valueOfWord_49 : decode cX12_valueOfWord 49 = .ok (.lload_n 2, 1) := by decide +kernel
theorem dX12_valueOfWord_50 : decode cX12_valueOfWord 50 = .ok (.ldc2_w 262, 3) := by decide +kernel
theorem dX12_valueOfWord_53 : decode cX12_valueOfWord 53 = .ok (.lcmp, 1) := by decide +kernel
theorem dX12_valueOfWord_54 : decode cX12_valueOfWord 54 = .ok (.ifCond .le 7, 3) := by decide +kernel
theorem dX12_valueOfWord_57 : decode cX12_valueOfWord 57 = .ok (.lload_n 2, 1) := by decide +kernel
theorem dX12_valueOfWord_58 : decode cX12_valueOfWord 58 = .ok (.goto 20, 3) := by decide +kernel
theorem dX12_valueOfWord_61 : decode cX12_valueOfWord 61 = .ok (.ldc2_w 264, 3) := by decide +kernel
theorem dX12_valueOfWord_64 : decode cX12_valueOfWord 64 = .ok (.lload_n 2, 1) := by decide +kernel
theorem dX12_valueOfWord_65 : decode cX12_valueOfWord 65 = .ok (.lmul, 1) := by decide +kernel
theorem dX12_valueOfWord_66 : decode cX12_valueOfWord 66 = .ok (.aload_n 0, 1) := by decide +kernel
theorem dX12_valueOfWord_67 : decode cX12_valueOfWord 67 = .ok (.iload 4, 2) := by decide +kernel
theorem dX12_valueOfWord_69 : decode cX12_valueOfWord 69 = .ok (.invokevirtual 233, 3) := by decide +kernel
theorem dX12_valueOfWord_72 : decode cX12_valueOfWord 72 = .ok (.i2l, 1) := by decide +kernel
theorem dX12_valueOfWord_73 : decode cX12_valueOfWord 73 = .ok (.ladd, 1) := by decide +kernel
theorem dX12_valueOfWord_74 : decode cX12_valueOfWord 74 = .ok (.ldc2_w 266, 3) := by decide +kernel
theorem dX12_valueOfWord_77 : decode cX12_valueOfWord 77 = .ok (.lsub, 1) := by decide +kernel
theorem dX12_valueOfWord_78 : decode cX12_valueOfWord 78 = .ok (.lstore_n 2, 1) := by decide +kernel
theorem dX12_valueOfWord_79 : decode cX12_valueOfWord 79 = .ok (.iinc 4 1, 3) := by decide +kernel
theorem dX12_valueOfWord_82 : decode cX12_valueOfWord 82 = .ok (.goto (-42), 3) := by decide +kernel
theorem dX12_valueOfWord_85 : decode cX12_valueOfWord 85 = .ok (.iload_n 1, 1) := by decide +kernel
theorem dX12_valueOfWord_86 : decode cX12_valueOfWord 86 = .ok (.ifCond .eq 8, 3) := by decide +kernel
theorem dX12_valueOfWord_89 : decode cX12_valueOfWord 89 = .ok (.lload_n 2, 1) := by decide +kernel
theorem dX12_valueOfWord_90 : decode cX12_valueOfWord 90 = .ok (.lneg, 1) := by decide +kernel
theorem dX12_valueOfWord_91 : decode cX12_valueOfWord 91 = .ok (.goto 4, 3) := by decide +kernel
theorem dX12_valueOfWord_94 : decode cX12_valueOfWord 94 = .ok (.lload_n 2, 1) := by decide +kernel
theorem dX12_valueOfWord_95 : decode cX12_valueOfWord 95 = .ok (.lreturn, 1) := by decide +kernel
theorem dX12_labelOf_0 : decode cX12_labelOf 0 = .ok (.iconst (-1), 1) := by decide +kernel
theorem dX12_labelOf_1 : decode cX12_labelOf 1 = .ok (.istore_n 3, 1) := by decide +kernel
theorem dX12_labelOf_2 : decode cX12_labelOf 2 = .ok (.iconst 0, 1) := by decide +kernel
theorem dX12_labelOf_3 : decode cX12_labelOf 3 = .ok (.istore 4, 2) := by decide +kernel
theorem dX12_labelOf_5 : decode cX12_labelOf 5 = .ok (.iload 4, 2) := by decide +kernel
theorem dX12_labelOf_7 : decode cX12_labelOf 7 = .ok (.aload_n 0, 1) := by decide +kernel
theorem dX12_labelOf_8 : decode cX12_labelOf 8 = .ok (.getfield 268, 3) := by decide +kernel
theorem dX12_labelOf_11 : decode cX12_labelOf 11 = .ok (.if_icmp .ge 91, 3) := by decide +kernel
theorem dX12_labelOf_14 : decode cX12_labelOf 14 = .ok (.aload_n 0, 1) := by decide +kernel
theorem dX12_labelOf_15 : decode cX12_labelOf 15 = .ok (.getfield 125, 3) := by decide +kernel
theorem dX12_labelOf_18 : decode cX12_labelOf 18 = .ok (.iload 4, 2) := by decide +kernel
theorem dX12_labelOf_20 : decode cX12_labelOf 20 = .ok (.iaload, 1) := by decide +kernel
theorem dX12_labelOf_21 : decode cX12_labelOf 21 = .ok (.iload_n 2, 1) := by decide +kernel
theorem dX12_labelOf_22 : decode cX12_labelOf 22 = .ok (.if_icmp .ne 7, 3) := by decide +kernel
theorem dX12_labelOf_25 : decode cX12_labelOf 25 = .ok (.iconst 1, 1) := by decide +kernel
theorem dX12_labelOf_26 : decode cX12_labelOf 26 = .ok (.goto 4, 3) := by decide +kernel
theorem dX12_labelOf_29 : decode cX12_labelOf 29 = .ok (.iconst 0, 1) := by decide +kernel
theorem dX12_labelOf_30 : decode cX12_labelOf 30 = .ok (.istore 5, 2) := by decide +kernel
theorem dX12_labelOf_32 : decode cX12_labelOf 32 = .ok (.iconst 0, 1) := by decide +kernel
theorem dX12_labelOf_33 : decode cX12_labelOf 33 = .ok (.istore 6, 2) := by decide +kernel
theorem dX12_labelOf_35 : decode cX12_labelOf 35 = .ok (.iload 6, 2) := by decide +kernel
theorem dX12_labelOf_37 : decode cX12_labelOf 37 = .ok (.iload_n 2, 1) := by decide +kernel
theorem dX12_labelOf_38 : decode cX12_labelOf 38 = .ok (.if_icmp .ge 46, 3) := by decide +kernel
theorem dX12_labelOf_41 : decode cX12_labelOf 41 = .ok (.iload 5, 2) := by decide +kernel
theorem dX12_labelOf_43 : decode cX12_labelOf 43 = .ok (.ifCond .eq 41, 3) := by decide +kernel
theorem dX12_labelOf_46 : decode cX12_labelOf 46 = .ok (.aload_n 0, 1) := by decide +kernel
theorem dX12_labelOf_47 : decode cX12_labelOf 47 = .ok (.aload_n 0, 1) := by decide +kernel
theorem dX12_labelOf_48 : decode cX12_labelOf 48 = .ok (.getfield 122, 3) := by decide +kernel
theorem dX12_labelOf_51 : decode cX12_labelOf 51 = .ok (.iload 4, 2) := by decide +kernel
theorem dX12_labelOf_53 : decode cX12_labelOf 53 = .ok (.iaload, 1) := by decide +kernel
theorem dX12_labelOf_54 : decode cX12_labelOf 54 = .ok (.iload 6, 2) := by decide +kernel
theorem dX12_labelOf_56 : decode cX12_labelOf 56 = .ok (.iadd, 1) := by decide +kernel
theorem dX12_labelOf_57 : decode cX12_labelOf 57 = .ok (.invokevirtual 233, 3) := by decide +kernel
theorem dX12_labelOf_60 : decode cX12_labelOf 60 = .ok (.aload_n 0, 1) := by decide +kernel
theorem dX12_labelOf_61 : decode cX12_labelOf 61 = .ok (.iload_n 1, 1) := by decide +kernel
theorem dX12_labelOf_62 : decode cX12_labelOf 62 = .ok (.iload 6, 2) := by decide +kernel
theorem dX12_labelOf_64 : decode cX12_labelOf 64 = .ok (.iadd, 1) := by decide +kernel
theorem dX12_labelOf_65 : decode cX12_labelOf 65 = .ok (.invokevirtual 233, 3) := by decide +kernel
theorem dX12_labelOf_68 : decode cX12_labelOf 68 = .ok (.if_icmp .ne 7, 3) := by decide +kernel
theorem dX12_labelOf_71 : decode cX12_labelOf 71 = .ok (.iconst 1, 1) := by decide +kernel
theorem dX12_labelOf_72 : decode cX12_labelOf 72 = .ok (.goto 4, 3) := by decide +kernel
theorem dX12_labelOf_75 : decode cX12_labelOf 75 = .ok (.iconst 0, 1) := by decide +kernel
theorem dX12_labelOf_76 : decode cX12_labelOf 76 = .ok (.istore 5, 2) := by decide +kernel
theorem dX12_labelOf_78 : decode cX12_labelOf 78 = .ok (.iinc 6 1, 3) := by decide +kernel
theorem dX12_labelOf_81 : decode cX12_labelOf 81 = .ok (.goto (-46), 3) := by decide +kernel
theorem dX12_labelOf_84 : decode cX12_labelOf 84 = .ok (.iload 5, 2) := by decide +kernel
theorem dX12_labelOf_86 : decode cX12_labelOf 86 = .ok (.ifCond .eq 8, 3) := by decide +kernel
theorem dX12_labelOf_89 : decode cX12_labelOf 89 = .ok (.iload 4, 2) := by decide +kernel
theorem dX12_labelOf_91 : decode cX12_labelOf 91 = .ok (.goto 4, 3) := by decide +kernel
theorem dX12_labelOf_94 : decode cX12_labelOf 94 = .ok (.iload_n 3, 1) := by decide +kernel
theorem dX12_labelOf_95 : decode cX12_labelOf 95 = .ok (.istore_n 3, 1) := by decide +kernel
theorem dX12_labelOf_96 : decode cX12_labelOf 96 = .ok (.iinc 4 1, 3) := by decide +kernel
theorem dX12_labelOf_99 : decode cX12_labelOf 99 = .ok (.goto (-94), 3) := by decide +kernel
theorem dX12_labelOf_102 : decode cX12_labelOf 102 = .ok (.iload_n 3, 1) := by decide +kernel
theorem dX12_labelOf_103 : decode cX12_labelOf 103 = .ok (.ireturn, 1) := by decide +kernel
theorem dX12_flaw_0 : decode cX12_flaw 0 = .ok (.aload_n 0, 1) := by decide +kernel
theorem dX12_flaw_1 : decode cX12_flaw 1 = .ok (.getfield 271, 3) := by decide +kernel
theorem dX12_flaw_4 : decode cX12_flaw 4 = .ok (.ifCond .ne 13, 3) := by decide +kernel
theorem dX12_flaw_7 : decode cX12_flaw 7 = .ok (.aload_n 0, 1) := by decide +kernel
theorem dX12_flaw_8 : decode cX12_flaw 8 = .ok (.iload_n 1, 1) := by decide +kernel
theorem dX12_flaw_9 : decode cX12_flaw 9 = .ok (.putfield 271, 3) := by decide +kernel
theorem dX12_flaw_12 : decode cX12_flaw 12 = .ok (.aload_n 0, 1) := by decide +kernel
theorem dX12_flaw_13 : decode cX12_flaw 13 = .ok (.iload_n 2, 1) := by decide +kernel
theorem dX12_flaw_14 : decode cX12_flaw 14 = .ok (.putfield 274, 3) := by decide +kernel
theorem dX12_flaw_17 : decode cX12_flaw 17 = .ok (.return_, 1) := by decide +kernel
theorem dX12_readLabel_0 : decode cX12_readLabel 0 = .ok (.aload_n 0, 1) := by decide +kernel
theorem dX12_readLabel_1 : decode cX12_readLabel 1 = .ok (.getfield 230, 3) := by decide +kernel
theorem dX12_readLabel_4 : decode cX12_readLabel 4 = .ok (.aload_n 0, 1) := by decide +kernel
theorem dX12_readLabel_5 : decode cX12_readLabel 5 = .ok (.getfield 241, 3) := by decide +kernel
theorem dX12_readLabel_8 : decode cX12_readLabel 8 = .ok (.isub, 1) := by decide +kernel
theorem dX12_readLabel_9 : decode cX12_readLabel 9 = .ok (.iconst 1, 1) := by decide +kernel
theorem dX12_readLabel_10 : decode cX12_readLabel 10 = .ok (.isub, 1) := by decide +kernel
theorem dX12_readLabel_11 : decode cX12_readLabel 11 = .ok (.istore_n 2, 1) := by decide +kernel
theorem dX12_readLabel_12 : decode cX12_readLabel 12 = .ok (.aload_n 0, 1) := by decide +kernel
theorem dX12_readLabel_13 : decode cX12_readLabel 13 = .ok (.aload_n 0, 1) := by decide +kernel
theorem dX12_readLabel_14 : decode cX12_readLabel 14 = .ok (.getfield 241, 3) := by decide +kernel
theorem dX12_readLabel_17 : decode cX12_readLabel 17 = .ok (.iload_n 2, 1) := by decide +kernel
theorem dX12_readLabel_18 : decode cX12_readLabel 18 = .ok (.invokevirtual 277, 3) := by decide +kernel
theorem dX12_readLabel_21 : decode cX12_readLabel 21 = .ok (.ifCond .ne 15, 3) := by decide +kernel
theorem dX12_readLabel_24 : decode cX12_readLabel 24 = .ok (.aload_n 0, 1) := by decide +kernel
theorem dX12_readLabel_25 : decode cX12_readLabel 25 = .ok (.iconst 1, 1) := by decide +kernel
theorem dX12_readLabel_26 : decode cX12_readLabel 26 = .ok (.aload_n 0, 1) := by decide +kernel
theorem dX12_readLabel_27 : decode cX12_readLabel 27 = .ok (.getfield 241, 3) := by decide +kernel
theorem dX12_readLabel_30 : decode cX12_readLabel 30 = .ok (.invokevirtual 281, 3) := by decide +kernel
theorem dX12_readLabel_33 : decode cX12_readLabel 33 = .ok (.goto 97, 3) := by decide +kernel
theorem dX12_readLabel_36 : decode cX12_readLabel 36 = .ok (.aload_n 0, 1) := by decide +kernel
theorem dX12_readLabel_37 : decode cX12_readLabel 37 = .ok (.aload_n 0, 1) := by decide +kernel
theorem dX12_readLabel_38 : decode cX12_readLabel 38 = .ok (.getfield 241, 3) := by decide +kernel
theorem dX12_readLabel_41 : decode cX12_readLabel 41 = .ok (.iload_n 2, 1) := by decide +kernel
theorem dX12_readLabel_42 : decode cX12_readLabel 42 = .ok (.invokevirtual 285, 3) := by decide +kernel
theorem dX12_readLabel_45 : decode cX12_readLabel 45 = .ok (.iconst (-1), 1) := by decide +kernel
theorem dX12_readLabel_46 : decode cX12_readLabel 46 = .ok (.if_icmp .eq 15, 3) := by decide +kernel
theorem dX12_readLabel_49 : decode cX12_readLabel 49 = .ok (.aload_n 0, 1) := by decide +kernel
theorem dX12_readLabel_50 : decode cX12_readLabel 50 = .ok (.iconst 3, 1) := by decide +kernel
theorem dX12_readLabel_51 : decode cX12_readLabel 51 = .ok (.aload_n 0, 1) := by decide +kernel
theorem dX12_readLabel_52 : decode cX12_readLabel 52 = .ok (.getfield 241, 3) := by decide +kernel
theorem dX12_readLabel_55 : decode cX12_readLabel 55 = .ok (.invokevirtual 281, 3) := by decide +kernel
theorem dX12_readLabel_58 : decode cX12_readLabel 58 = .ok (.goto 72, 3) := by decide +kernel
theorem dX12_readLabel_61 : decode cX12_readLabel 61 = .ok (.aload_n 0, 1) := by decide +kernel
theorem dX12_readLabel_62 : decode cX12_readLabel 62 = .ok (.getfield 268, 3) := by decide +kernel
theorem dX12_readLabel_65 : decode cX12_readLabel 65 = .ok (.bipush 32, 2) := by decide +kernel
theorem dX12_readLabel_67 : decode cX12_readLabel 67 = .ok (.if_icmp .ne 15, 3) := by decide +kernel
theorem dX12_readLabel_70 : decode cX12_readLabel 70 = .ok (.aload_n 0, 1) := by decide +kernel
theorem dX12_readLabel_71 : decode cX12_readLabel 71 = .ok (.iconst 4, 1) := by decide +kernel
theorem dX12_readLabel_72 : decode cX12_readLabel 72 = .ok (.aload_n 0, 1) := by decide +kernel
theorem dX12_readLabel_73 : decode cX12_readLabel 73 = .ok (.getfield 241, 3) := by decide +kernel
theorem dX12_readLabel_76 : decode cX12_readLabel 76 = .ok (.invokevirtual 281, 3) := by decide +kernel
theorem dX12_readLabel_79 : decode cX12_readLabel 79 = .ok (.goto 51, 3) := by decide +kernel
theorem dX12_readLabel_82 : decode cX12_readLabel 82 = .ok (.aload_n 0, 1) := by decide +kernel
theorem dX12_readLabel_83 : decode cX12_readLabel 83 = .ok (.getfield 122, 3) := by decide +kernel
theorem dX12_readLabel_86 : decode cX12_readLabel 86 = .ok (.aload_n 0, 1) := by decide +kernel
theorem dX12_readLabel_87 : decode cX12_readLabel 87 = .ok (.getfield 268, 3) := by decide +kernel
theorem dX12_readLabel_90 : decode cX12_readLabel 90 = .ok (.aload_n 0, 1) := by decide +kernel
theorem dX12_readLabel_91 : decode cX12_readLabel 91 = .ok (.getfield 241, 3) := by decide +kernel
theorem dX12_readLabel_94 : decode cX12_readLabel 94 = .ok (.iastore, 1) := by decide +kernel
theorem dX12_readLabel_95 : decode cX12_readLabel 95 = .ok (.aload_n 0, 1) := by decide +kernel
theorem dX12_readLabel_96 : decode cX12_readLabel 96 = .ok (.getfield 125, 3) := by decide +kernel
theorem dX12_readLabel_99 : decode cX12_readLabel 99 = .ok (.aload_n 0, 1) := by decide +kernel
theorem dX12_readLabel_100 : decode cX12_readLabel 100 = .ok (.getfield 268, 3) := by decide +kernel
theorem dX12_readLabel_103 : decode cX12_readLabel 103 = .ok (.iload_n 2, 1) := by decide +kernel
theorem dX12_readLabel_104 : decode cX12_readLabel 104 = .ok (.iastore, 1) := by decide +kernel
theorem dX12_readLabel_105 : decode cX12_readLabel 105 = .ok (.aload_n 0, 1) := by decide +kernel
theorem dX12_readLabel_106 : decode cX12_readLabel 106 = .ok (.getfield 128, 3) := by decide +kernel
theorem dX12_readLabel_109 : decode cX12_readLabel 109 = .ok (.aload_n 0, 1) := by decide +kernel
theorem dX12_readLabel_110 : decode cX12_readLabel 110 = .ok (.getfield 268, 3) := by decide +kernel
theorem dX12_readLabel_113 : decode cX12_readLabel 113 = .ok (.aload_n 0, 1) := by decide +kernel
theorem dX12_readLabel_114 : decode cX12_readLabel 114 = .ok (.getfield 115, 3) := by decide +kernel
theorem dX12_readLabel_117 : decode cX12_readLabel 117 = .ok (.iload_n 1, 1) := by decide +kernel
theorem dX12_readLabel_118 : decode cX12_readLabel 118 = .ok (.iaload, 1) := by decide +kernel
theorem dX12_readLabel_119 : decode cX12_readLabel 119 = .ok (.iastore, 1) := by decide +kernel
theorem dX12_readLabel_120 : decode cX12_readLabel 120 = .ok (.aload_n 0, 1) := by decide +kernel
theorem dX12_readLabel_121 : decode cX12_readLabel 121 = .ok (.dup, 1) := by decide +kernel
theorem dX12_readLabel_122 : decode cX12_readLabel 122 = .ok (.getfield 268, 3) := by decide +kernel
theorem dX12_readLabel_125 : decode cX12_readLabel 125 = .ok (.iconst 1, 1) := by decide +kernel
theorem dX12_readLabel_126 : decode cX12_readLabel 126 = .ok (.iadd, 1) := by decide +kernel
theorem dX12_readLabel_127 : decode cX12_readLabel 127 = .ok (.putfield 268, 3) := by decide +kernel
theorem dX12_readLabel_130 : decode cX12_readLabel 130 = .ok (.return_, 1) := by decide +kernel
theorem dX12_put_0 : decode cX12_put 0 = .ok (.aload_n 0, 1) := by decide +kernel
theorem dX12_put_1 : decode cX12_put 1 = .ok (.getfield 115, 3) := by decide +kernel
theorem dX12_put_4 : decode cX12_put 4 = .ok (.iload_n 1, 1) := by decide +kernel
theorem dX12_put_5 : decode cX12_put 5 = .ok (.iaload, 1) := by decide +kernel
theorem dX12_put_6 : decode cX12_put 6 = .ok (.sipush 256, 3) := by decide +kernel
theorem dX12_put_9 : decode cX12_put 9 = .ok (.if_icmp .ne 13, 3) := by decide +kernel
theorem dX12_put_12 : decode cX12_put 12 = .ok (.aload_n 0, 1) := by decide +kernel
theorem dX12_put_13 : decode cX12_put 13 = .ok (.iconst 5, 1) := by decide +kernel
theorem dX12_put_14 : decode cX12_put 14 = .ok (.aload_n 0, 1) := by decide +kernel
theorem dX12_put_15 : decode cX12_put 15 = .ok (.getfield 241, 3) := by decide +kernel
theorem dX12_put_18 : decode cX12_put 18 = .ok (.invokevirtual 281, 3) := by decide +kernel
theorem dX12_put_21 : decode cX12_put 21 = .ok (.return_, 1) := by decide +kernel
theorem dX12_put_22 : decode cX12_put 22 = .ok (.aload_n 0, 1) := by decide +kernel
theorem dX12_put_23 : decode cX12_put 23 = .ok (.getfield 109, 3) := by decide +kernel
theorem dX12_put_26 : decode cX12_put 26 = .ok (.sipush 256, 3) := by decide +kernel
theorem dX12_put_29 : decode cX12_put 29 = .ok (.iload_n 1, 1) := by decide +kernel
theorem dX12_put_30 : decode cX12_put 30 = .ok (.imul, 1) := by decide +kernel
theorem dX12_put_31 : decode cX12_put 31 = .ok (.aload_n 0, 1) := by decide +kernel
theorem dX12_put_32 : decode cX12_put 32 = .ok (.getfield 115, 3) := by decide +kernel
theorem dX12_put_35 : decode cX12_put 35 = .ok (.iload_n 1, 1) := by decide +kernel
theorem dX12_put_36 : decode cX12_put 36 = .ok (.iaload, 1) := by decide +kernel
theorem dX12_put_37 : decode cX12_put 37 = .ok (.iadd, 1) := by decide +kernel
theorem dX12_put_38 : decode cX12_put 38 = .ok (.iload_n 2, 1) := by decide +kernel
theorem dX12_put_39 : decode cX12_put 39 = .ok (.iastore, 1) := by decide +kernel
theorem dX12_put_40 : decode cX12_put 40 = .ok (.aload_n 0, 1) := by decide +kernel
theorem dX12_put_41 : decode cX12_put 41 = .ok (.getfield 112, 3) := by decide +kernel
theorem dX12_put_44 : decode cX12_put 44 = .ok (.sipush 256, 3) := by decide +kernel
theorem dX12_put_47 : decode cX12_put 47 = .ok (.iload_n 1, 1) := by decide +kernel
theorem dX12_put_48 : decode cX12_put 48 = .ok (.imul, 1) := by decide +kernel
theorem dX12_put_49 : decode cX12_put 49 = .ok (.aload_n 0, 1) := by decide +kernel
theorem dX12_put_50 : decode cX12_put 50 = .ok (.getfield 115, 3) := by decide +kernel
theorem dX12_put_53 : decode cX12_put 53 = .ok (.iload_n 1, 1) := by decide +kernel
theorem dX12_put_54 : decode cX12_put 54 = .ok (.iaload, 1) := by decide +kernel
theorem dX12_put_55 : decode cX12_put 55 = .ok (.iadd, 1) := by decide +kernel
theorem dX12_put_56 : decode cX12_put 56 = .ok (.iload_n 3, 1) := by decide +kernel
theorem dX12_put_57 : decode cX12_put 57 = .ok (.iastore, 1) := by decide +kernel
theorem dX12_put_58 : decode cX12_put 58 = .ok (.aload_n 0, 1) := by decide +kernel
theorem dX12_put_59 : decode cX12_put 59 = .ok (.getfield 115, 3) := by decide +kernel
theorem dX12_put_62 : decode cX12_put 62 = .ok (.iload_n 1, 1) := by decide +kernel
theorem dX12_put_63 : decode cX12_put 63 = .ok (.dup2, 1) := by decide +kernel
theorem dX12_put_64 : decode cX12_put 64 = .ok (.iaload, 1) := by decide +kernel
theorem dX12_put_65 : decode cX12_put 65 = .ok (.iconst 1, 1) := by decide +kernel
theorem dX12_put_66 : decode cX12_put 66 = .ok (.iadd, 1) := by decide +kernel
theorem dX12_put_67 : decode cX12_put 67 = .ok (.iastore, 1) := by decide +kernel
theorem dX12_put_68 : decode cX12_put 68 = .ok (.return_, 1) := by decide +kernel
theorem dX12_readWord_0 : decode cX12_readWord 0 = .ok (.aload_n 0, 1) := by decide +kernel
theorem dX12_readWord_1 : decode cX12_readWord 1 = .ok (.aload_n 0, 1) := by decide +kernel
theorem dX12_readWord_2 : decode cX12_readWord 2 = .ok (.getfield 241, 3) := by decide +kernel
theorem dX12_readWord_5 : decode cX12_readWord 5 = .ok (.aload_n 0, 1) := by decide +kernel
theorem dX12_readWord_6 : decode cX12_readWord 6 = .ok (.getfield 230, 3) := by decide +kernel
theorem dX12_readWord_9 : decode cX12_readWord 9 = .ok (.aload_n 0, 1) := by decide +kernel
theorem dX12_readWord_10 : decode cX12_readWord 10 = .ok (.getfield 241, 3) := by decide +kernel
theorem dX12_readWord_13 : decode cX12_readWord 13 = .ok (.isub, 1) := by decide +kernel
theorem dX12_readWord_14 : decode cX12_readWord 14 = .ok (.invokevirtual 247, 3) := by decide +kernel
theorem dX12_readWord_17 : decode cX12_readWord 17 = .ok (.istore_n 2, 1) := by decide +kernel
theorem dX12_readWord_18 : decode cX12_readWord 18 = .ok (.aload_n 0, 1) := by decide +kernel
theorem dX12_readWord_19 : decode cX12_readWord 19 = .ok (.aload_n 0, 1) := by decide +kernel
theorem dX12_readWord_20 : decode cX12_readWord 20 = .ok (.getfield 230, 3) := by decide +kernel
theorem dX12_readWord_23 : decode cX12_readWord 23 = .ok (.iconst 1, 1) := by decide +kernel
theorem dX12_readWord_24 : decode cX12_readWord 24 = .ok (.isub, 1) := by decide +kernel
theorem dX12_readWord_25 : decode cX12_readWord 25 = .ok (.invokevirtual 233, 3) := by decide +kernel
theorem dX12_readWord_28 : decode cX12_readWord 28 = .ok (.bipush 58, 2) := by decide +kernel
theorem dX12_readWord_30 : decode cX12_readWord 30 = .ok (.if_icmp .ne 11, 3) := by decide +kernel
theorem dX12_readWord_33 : decode cX12_readWord 33 = .ok (.aload_n 0, 1) := by decide +kernel
theorem dX12_readWord_34 : decode cX12_readWord 34 = .ok (.iload_n 1, 1) := by decide +kernel
theorem dX12_readWord_35 : decode cX12_readWord 35 = .ok (.invokevirtual 288, 3) := by decide +kernel
theorem dX12_readWord_38 : decode cX12_readWord 38 = .ok (.goto 136, 3) := by decide +kernel
theorem dX12_readWord_41 : decode cX12_readWord 41 = .ok (.iload_n 2, 1) := by decide +kernel
theorem dX12_readWord_42 : decode cX12_readWord 42 = .ok (.iconst (-1), 1) := by decide +kernel
theorem dX12_readWord_43 : decode cX12_readWord 43 = .ok (.if_icmp .ne 36, 3) := by decide +kernel
theorem dX12_readWord_46 : decode cX12_readWord 46 = .ok (.aload_n 0, 1) := by decide +kernel
theorem dX12_readWord_47 : decode cX12_readWord 47 = .ok (.invokevirtual 292, 3) := by decide +kernel
theorem dX12_readWord_50 : decode cX12_readWord 50 = .ok (.ifCond .eq 17, 3) := by decide +kernel
theorem dX12_readWord_53 : decode cX12_readWord 53 = .ok (.aload_n 0, 1) := by decide +kernel
theorem dX12_readWord_54 : decode cX12_readWord 54 = .ok (.iload_n 1, 1) := by decide +kernel
theorem dX12_readWord_55 : decode cX12_readWord 55 = .ok (.iconst 0, 1) := by decide +kernel
theorem dX12_readWord_56 : decode cX12_readWord 56 = .ok (.aload_n 0, 1) := by decide +kernel
theorem dX12_readWord_57 : decode cX12_readWord 57 = .ok (.invokevirtual 254, 3) := by decide +kernel
theorem dX12_readWord_60 : decode cX12_readWord 60 = .ok (.l2i, 1) := by decide +kernel
theorem dX12_readWord_61 : decode cX12_readWord 61 = .ok (.invokevirtual 296, 3) := by decide +kernel
theorem dX12_readWord_64 : decode cX12_readWord 64 = .ok (.goto 110, 3) := by decide +kernel
theorem dX12_readWord_67 : decode cX12_readWord 67 = .ok (.aload_n 0, 1) := by decide +kernel
theorem dX12_readWord_68 : decode cX12_readWord 68 = .ok (.iconst 1, 1) := by decide +kernel
theorem dX12_readWord_69 : decode cX12_readWord 69 = .ok (.aload_n 0, 1) := by decide +kernel
theorem dX12_readWord_70 : decode cX12_readWord 70 = .ok (.getfield 241, 3) := by decide +kernel
theorem dX12_readWord_73 : decode cX12_readWord 73 = .ok (.invokevirtual 281, 3) := by decide +kernel
theorem dX12_readWord_76 : decode cX12_readWord 76 = .ok (.goto 98, 3) := by decide +kernel
theorem dX12_readWord_79 : decode cX12_readWord 79 = .ok (.aload_n 0, 1) := by decide +kernel
theorem dX12_readWord_80 : decode cX12_readWord 80 = .ok (.iload_n 1, 1) := by decide +kernel
theorem dX12_readWord_81 : decode cX12_readWord 81 = .ok (.iload_n 2, 1) := by decide +kernel
theorem dX12_readWord_82 : decode cX12_readWord 82 = .ok (.iconst 0, 1) := by decide +kernel
theorem dX12_readWord_83 : decode cX12_readWord 83 = .ok (.invokevirtual 296, 3) := by decide +kernel
theorem dX12_readWord_86 : decode cX12_readWord 86 = .ok (.iload_n 2, 1) := by decide +kernel
theorem dX12_readWord_87 : decode cX12_readWord 87 = .ok (.bipush 39, 2) := by decide +kernel
theorem dX12_readWord_89 : decode cX12_readWord 89 = .ok (.if_icmp .lt 85, 3) := by decide +kernel
theorem dX12_readWord_92 : decode cX12_readWord 92 = .ok (.aload_n 0, 1) := by decide +kernel
theorem dX12_readWord_93 : decode cX12_readWord 93 = .ok (.getfield 271, 3) := by decide +kernel
theorem dX12_readWord_96 : decode cX12_readWord 96 = .ok (.ifCond .ne 78, 3) := by decide +kernel
theorem dX12_readWord_99 : decode cX12_readWord 99 = .ok (.aload_n 0, 1) := by decide +kernel
theorem dX12_readWord_100 : decode cX12_readWord 100 = .ok (.invokevirtual 300, 3) := by decide +kernel
theorem dX12_readWord_103 : decode cX12_readWord 103 = .ok (.aload_n 0, 1) := by decide +kernel
theorem dX12_readWord_104 : decode cX12_readWord 104 = .ok (.aload_n 0, 1) := by decide +kernel
theorem dX12_readWord_105 : decode cX12_readWord 105 = .ok (.getfield 241, 3) := by decide +kernel
theorem dX12_readWord_108 : decode cX12_readWord 108 = .ok (.aload_n 0, 1) := by decide +kernel
theorem dX12_readWord_109 : decode cX12_readWord 109 = .ok (.getfield 230, 3) := by decide +kernel
theorem dX12_readWord_112 : decode cX12_readWord 112 = .ok (.aload_n 0, 1) := by decide +kernel
theorem dX12_readWord_113 : decode cX12_readWord 113 = .ok (.getfield 241, 3) := by decide +kernel
theorem dX12_readWord_116 : decode cX12_readWord 116 = .ok (.isub, 1) := by decide +kernel
theorem dX12_readWord_117 : decode cX12_readWord 117 = .ok (.invokevirtual 277, 3) := by decide +kernel
theorem dX12_readWord_120 : decode cX12_readWord 120 = .ok (.ifCond .eq 45, 3) := by decide +kernel
theorem dX12_readWord_123 : decode cX12_readWord 123 = .ok (.aload_n 0, 1) := by decide +kernel
theorem dX12_readWord_124 : decode cX12_readWord 124 = .ok (.getfield 131, 3) := by decide +kernel
theorem dX12_readWord_127 : decode cX12_readWord 127 = .ok (.aload_n 0, 1) := by decide +kernel
theorem dX12_readWord_128 : decode cX12_readWord 128 = .ok (.getfield 115, 3) := by decide +kernel
theorem dX12_readWord_131 : decode cX12_readWord 131 = .ok (.iload_n 1, 1) := by decide +kernel
theorem dX12_readWord_132 : decode cX12_readWord 132 = .ok (.iaload, 1) := by decide +kernel
theorem dX12_readWord_133 : decode cX12_readWord 133 = .ok (.iconst 1, 1) := by decide +kernel
theorem dX12_readWord_134 : decode cX12_readWord 134 = .ok (.isub, 1) := by decide +kernel
theorem dX12_readWord_135 : decode cX12_readWord 135 = .ok (.aload_n 0, 1) := by decide +kernel
theorem dX12_readWord_136 : decode cX12_readWord 136 = .ok (.getfield 241, 3) := by decide +kernel
theorem dX12_readWord_139 : decode cX12_readWord 139 = .ok (.iastore, 1) := by decide +kernel
theorem dX12_readWord_140 : decode cX12_readWord 140 = .ok (.aload_n 0, 1) := by decide +kernel
theorem dX12_readWord_141 : decode cX12_readWord 141 = .ok (.getfield 134, 3) := by decide +kernel
theorem dX12_readWord_144 : decode cX12_readWord 144 = .ok (.aload_n 0, 1) := by decide +kernel
theorem dX12_readWord_145 : decode cX12_readWord 145 = .ok (.getfield 115, 3) := by decide +kernel
theorem dX12_readWord_148 : decode cX12_readWord 148 = .ok (.iload_n 1, 1) := by decide +kernel
theorem dX12_readWord_149 : decode cX12_readWord 149 = .ok (.iaload, 1) := by decide +kernel
theorem dX12_readWord_150 : decode cX12_readWord 150 = .ok (.iconst 1, 1) := by decide +kernel
theorem dX12_readWord_151 : decode cX12_readWord 151 = .ok (.isub, 1) := by decide +kernel
theorem dX12_readWord_152 : decode cX12_readWord 152 = .ok (.aload_n 0, 1) := by decide +kernel
theorem dX12_readWord_153 : decode cX12_readWord 153 = .ok (.getfield 230, 3) := by decide +kernel
theorem dX12_readWord_156 : decode cX12_readWord 156 = .ok (.aload_n 0, 1) := by decide +kernel
theorem dX12_readWord_157 : decode cX12_readWord 157 = .ok (.getfield 241, 3) := by decide +kernel
theorem dX12_readWord_160 : decode cX12_readWord 160 = .ok (.isub, 1) := by decide +kernel
theorem dX12_readWord_161 : decode cX12_readWord 161 = .ok (.iastore, 1) := by decide +kernel
theorem dX12_readWord_162 : decode cX12_readWord 162 = .ok (.goto 12, 3) := by decide +kernel
theorem dX12_readWord_165 : decode cX12_readWord 165 = .ok (.aload_n 0, 1) := by decide +kernel
theorem dX12_readWord_166 : decode cX12_readWord 166 = .ok (.iconst 2, 1) := by decide +kernel
theorem dX12_readWord_167 : decode cX12_readWord 167 = .ok (.aload_n 0, 1) := by decide +kernel
theorem dX12_readWord_168 : decode cX12_readWord 168 = .ok (.getfield 241, 3) := by decide +kernel
theorem dX12_readWord_171 : decode cX12_readWord 171 = .ok (.invokevirtual 281, 3) := by decide +kernel
theorem dX12_readWord_174 : decode cX12_readWord 174 = .ok (.return_, 1) := by decide +kernel
theorem dX12_readAll_0 : decode cX12_readAll 0 = .ok (.aload_n 0, 1) := by decide +kernel
theorem dX12_readAll_1 : decode cX12_readAll 1 = .ok (.iconst 0, 1) := by decide +kernel
theorem dX12_readAll_2 : decode cX12_readAll 2 = .ok (.putfield 271, 3) := by decide +kernel
theorem dX12_readAll_5 : decode cX12_readAll 5 = .ok (.aload_n 0, 1) := by decide +kernel
theorem dX12_readAll_6 : decode cX12_readAll 6 = .ok (.iconst 0, 1) := by decide +kernel
theorem dX12_readAll_7 : decode cX12_readAll 7 = .ok (.putfield 274, 3) := by decide +kernel
theorem dX12_readAll_10 : decode cX12_readAll 10 = .ok (.aload_n 0, 1) := by decide +kernel
theorem dX12_readAll_11 : decode cX12_readAll 11 = .ok (.iconst 0, 1) := by decide +kernel
theorem dX12_readAll_12 : decode cX12_readAll 12 = .ok (.putfield 268, 3) := by decide +kernel
theorem dX12_readAll_15 : decode cX12_readAll 15 = .ok (.aload_n 0, 1) := by decide +kernel
theorem dX12_readAll_16 : decode cX12_readAll 16 = .ok (.getfield 115, 3) := by decide +kernel
theorem dX12_readAll_19 : decode cX12_readAll 19 = .ok (.iload_n 1, 1) := by decide +kernel
theorem dX12_readAll_20 : decode cX12_readAll 20 = .ok (.iconst 0, 1) := by decide +kernel
theorem dX12_readAll_21 : decode cX12_readAll 21 = .ok (.iastore, 1) := by decide +kernel
theorem dX12_readAll_22 : decode cX12_readAll 22 = .ok (.aload_n 0, 1) := by decide +kernel
theorem dX12_readAll_23 : decode cX12_readAll 23 = .ok (.iconst 0, 1) := by decide +kernel
theorem dX12_readAll_24 : decode cX12_readAll 24 = .ok (.putfield 230, 3) := by decide +kernel
theorem dX12_readAll_27 : decode cX12_readAll 27 = .ok (.aload_n 0, 1) := by decide +kernel
theorem dX12_readAll_28 : decode cX12_readAll 28 = .ok (.invokevirtual 300, 3) := by decide +kernel
theorem dX12_readAll_31 : decode cX12_readAll 31 = .ok (.aload_n 0, 1) := by decide +kernel
theorem dX12_readAll_32 : decode cX12_readAll 32 = .ok (.getfield 241, 3) := by decide +kernel
theorem dX12_readAll_35 : decode cX12_readAll 35 = .ok (.aload_n 0, 1) := by decide +kernel
theorem dX12_readAll_36 : decode cX12_readAll 36 = .ok (.getfield 227, 3) := by decide +kernel
theorem dX12_readAll_39 : decode cX12_readAll 39 = .ok (.if_icmp .ge 22, 3) := by decide +kernel
theorem dX12_readAll_42 : decode cX12_readAll 42 = .ok (.aload_n 0, 1) := by decide +kernel
theorem dX12_readAll_43 : decode cX12_readAll 43 = .ok (.getfield 271, 3) := by decide +kernel
theorem dX12_readAll_46 : decode cX12_readAll 46 = .ok (.ifCond .ne 15, 3) := by decide +kernel
theorem dX12_readAll_49 : decode cX12_readAll 49 = .ok (.aload_n 0, 1) := by decide +kernel
theorem dX12_readAll_50 : decode cX12_readAll 50 = .ok (.iload_n 1, 1) := by decide +kernel
theorem dX12_readAll_51 : decode cX12_readAll 51 = .ok (.invokevirtual 303, 3) := by decide +kernel
theorem dX12_readAll_54 : decode cX12_readAll 54 = .ok (.aload_n 0, 1) := by decide +kernel
theorem dX12_readAll_55 : decode cX12_readAll 55 = .ok (.invokevirtual 300, 3) := by decide +kernel
theorem dX12_readAll_58 : decode cX12_readAll 58 = .ok (.goto (-27), 3) := by decide +kernel
theorem dX12_readAll_61 : decode cX12_readAll 61 = .ok (.iconst 0, 1) := by decide +kernel
theorem dX12_readAll_62 : decode cX12_readAll 62 = .ok (.istore_n 2, 1) := by decide +kernel
theorem dX12_readAll_63 : decode cX12_readAll 63 = .ok (.iload_n 2, 1) := by decide +kernel
theorem dX12_readAll_64 : decode cX12_readAll 64 = .ok (.aload_n 0, 1) := by decide +kernel
theorem dX12_readAll_65 : decode cX12_readAll 65 = .ok (.getfield 115, 3) := by decide +kernel
theorem dX12_readAll_68 : decode cX12_readAll 68 = .ok (.iload_n 1, 1) := by decide +kernel
theorem dX12_readAll_69 : decode cX12_readAll 69 = .ok (.iaload, 1) := by decide +kernel
theorem dX12_readAll_70 : decode cX12_readAll 70 = .ok (.if_icmp .ge 88, 3) := by decide +kernel
theorem dX12_readAll_73 : decode cX12_readAll 73 = .ok (.aload_n 0, 1) := by decide +kernel
theorem dX12_readAll_74 : decode cX12_readAll 74 = .ok (.getfield 271, 3) := by decide +kernel
theorem dX12_readAll_77 : decode cX12_readAll 77 = .ok (.ifCond .ne 81, 3) := by decide +kernel
theorem dX12_readAll_80 : decode cX12_readAll 80 = .ok (.aload_n 0, 1) := by decide +kernel
theorem dX12_readAll_81 : decode cX12_readAll 81 = .ok (.getfield 109, 3) := by decide +kernel
theorem dX12_readAll_84 : decode cX12_readAll 84 = .ok (.sipush 256, 3) := by decide +kernel
theorem dX12_readAll_87 : decode cX12_readAll 87 = .ok (.iload_n 1, 1) := by decide +kernel
theorem dX12_readAll_88 : decode cX12_readAll 88 = .ok (.imul, 1) := by decide +kernel
theorem dX12_readAll_89 : decode cX12_readAll 89 = .ok (.iload_n 2, 1) := by decide +kernel
theorem dX12_readAll_90 : decode cX12_readAll 90 = .ok (.iadd, 1) := by decide +kernel
theorem dX12_readAll_91 : decode cX12_readAll 91 = .ok (.iaload, 1) := by decide +kernel
theorem dX12_readAll_92 : decode cX12_readAll 92 = .ok (.bipush 39, 2) := by decide +kernel
theorem dX12_readAll_94 : decode cX12_readAll 94 = .ok (.if_icmp .lt 58, 3) := by decide +kernel
theorem dX12_readAll_97 : decode cX12_readAll 97 = .ok (.aload_n 0, 1) := by decide +kernel
theorem dX12_readAll_98 : decode cX12_readAll 98 = .ok (.aload_n 0, 1) := by decide +kernel
theorem dX12_readAll_99 : decode cX12_readAll 99 = .ok (.getfield 131, 3) := by decide +kernel
theorem dX12_readAll_102 : decode cX12_readAll 102 = .ok (.iload_n 2, 1) := by decide +kernel
theorem dX12_readAll_103 : decode cX12_readAll 103 = .ok (.iaload, 1) := by decide +kernel
theorem dX12_readAll_104 : decode cX12_readAll 104 = .ok (.aload_n 0, 1) := by decide +kernel
theorem dX12_readAll_105 : decode cX12_readAll 105 = .ok (.getfield 134, 3) := by decide +kernel
theorem dX12_readAll_108 : decode cX12_readAll 108 = .ok (.iload_n 2, 1) := by decide +kernel
theorem dX12_readAll_109 : decode cX12_readAll 109 = .ok (.iaload, 1) := by decide +kernel
theorem dX12_readAll_110 : decode cX12_readAll 110 = .ok (.invokevirtual 285, 3) := by decide +kernel
theorem dX12_readAll_113 : decode cX12_readAll 113 = .ok (.istore_n 3, 1) := by decide +kernel
theorem dX12_readAll_114 : decode cX12_readAll 114 = .ok (.iload_n 3, 1) := by decide +kernel
theorem dX12_readAll_115 : decode cX12_readAll 115 = .ok (.iconst (-1), 1) := by decide +kernel
theorem dX12_readAll_116 : decode cX12_readAll 116 = .ok (.if_icmp .ne 18, 3) := by decide +kernel
theorem dX12_readAll_119 : decode cX12_readAll 119 = .ok (.aload_n 0, 1) := by decide +kernel
theorem dX12_readAll_120 : decode cX12_readAll 120 = .ok (.bipush 6, 2) := by decide +kernel
theorem dX12_readAll_122 : decode cX12_readAll 122 = .ok (.aload_n 0, 1) := by decide +kernel
theorem dX12_readAll_123 : decode cX12_readAll 123 = .ok (.getfield 131, 3) := by decide +kernel
theorem dX12_readAll_126 : decode cX12_readAll 126 = .ok (.iload_n 2, 1) := by decide +kernel
theorem dX12_readAll_127 : decode cX12_readAll 127 = .ok (.iaload, 1) := by decide +kernel
theorem dX12_readAll_128 : decode cX12_readAll 128 = .ok (.invokevirtual 281, 3) := by decide +kernel
theorem dX12_readAll_131 : decode cX12_readAll 131 = .ok (.goto 21, 3) := by decide +kernel
theorem dX12_readAll_134 : decode cX12_readAll 134 = .ok (.aload_n 0, 1) := by decide +kernel
theorem dX12_readAll_135 : decode cX12_readAll 135 = .ok (.getfield 112, 3) := by decide +kernel
theorem dX12_readAll_138 : decode cX12_readAll 138 = .ok (.sipush 256, 3) := by decide +kernel
theorem dX12_readAll_141 : decode cX12_readAll 141 = .ok (.iload_n 1, 1) := by decide +kernel
theorem dX12_readAll_142 : decode cX12_readAll 142 = .ok (.imul, 1) := by decide +kernel
theorem dX12_readAll_143 : decode cX12_readAll 143 = .ok (.iload_n 2, 1) := by decide +kernel
theorem dX12_readAll_144 : decode cX12_readAll 144 = .ok (.iadd, 1) := by decide +kernel
theorem dX12_readAll_145 : decode cX12_readAll 145 = .ok (.aload_n 0, 1) := by decide +kernel
theorem dX12_readAll_146 : decode cX12_readAll 146 = .ok (.getfield 128, 3) := by decide +kernel
theorem dX12_readAll_149 : decode cX12_readAll 149 = .ok (.iload_n 3, 1) := by decide +kernel
theorem dX12_readAll_150 : decode cX12_readAll 150 = .ok (.iaload, 1) := by decide +kernel
theorem dX12_readAll_151 : decode cX12_readAll 151 = .ok (.iastore, 1) := by decide +kernel
theorem dX12_readAll_152 : decode cX12_readAll 152 = .ok (.iinc 2 1, 3) := by decide +kernel
theorem dX12_readAll_155 : decode cX12_readAll 155 = .ok (.goto (-92), 3) := by decide +kernel
theorem dX12_readAll_158 : decode cX12_readAll 158 = .ok (.aload_n 0, 1) := by decide +kernel
theorem dX12_readAll_159 : decode cX12_readAll 159 = .ok (.getfield 115, 3) := by decide +kernel
theorem dX12_readAll_162 : decode cX12_readAll 162 = .ok (.iload_n 1, 1) := by decide +kernel
theorem dX12_readAll_163 : decode cX12_readAll 163 = .ok (.iaload, 1) := by decide +kernel
theorem dX12_readAll_164 : decode cX12_readAll 164 = .ok (.ifCond .ne 13, 3) := by decide +kernel
theorem dX12_readAll_167 : decode cX12_readAll 167 = .ok (.aload_n 0, 1) := by decide +kernel
theorem dX12_readAll_168 : decode cX12_readAll 168 = .ok (.bipush 7, 2) := by decide +kernel
theorem dX12_readAll_170 : decode cX12_readAll 170 = .ok (.aload_n 0, 1) := by decide +kernel
theorem dX12_readAll_171 : decode cX12_readAll 171 = .ok (.getfield 227, 3) := by decide +kernel
theorem dX12_readAll_174 : decode cX12_readAll 174 = .ok (.invokevirtual 281, 3) := by decide +kernel
theorem dX12_readAll_177 : decode cX12_readAll 177 = .ok (.return_, 1) := by decide +kernel
theorem dX12_leaveRow_0 : decode cX12_leaveRow 0 = .ok (.aload_n 0, 1) := by decide +kernel
theorem dX12_leaveRow_1 : decode cX12_leaveRow 1 = .ok (.getfield 143, 3) := by decide +kernel
theorem dX12_leaveRow_4 : decode cX12_leaveRow 4 = .ok (.iload_n 1, 1) := by decide +kernel
theorem dX12_leaveRow_5 : decode cX12_leaveRow 5 = .ok (.iaload, 1) := by decide +kernel
theorem dX12_leaveRow_6 : decode cX12_leaveRow 6 = .ok (.istore_n 2, 1) := by decide +kernel
theorem dX12_leaveRow_7 : decode cX12_leaveRow 7 = .ok (.iconst 0, 1) := by decide +kernel
theorem dX12_leaveRow_8 : decode cX12_leaveRow 8 = .ok (.istore_n 3, 1) := by decide +kernel
theorem dX12_leaveRow_9 : decode cX12_leaveRow 9 = .ok (.iconst 0, 1) := by decide +kernel
theorem dX12_leaveRow_10 : decode cX12_leaveRow 10 = .ok (.istore 4, 2) := by decide +kernel
theorem dX12_leaveRow_12 : decode cX12_leaveRow 12 = .ok (.iload 4, 2) := by decide +kernel
theorem dX12_leaveRow_14 : decode cX12_leaveRow 14 = .ok (.aload_n 0, 1) := by decide +kernel
theorem dX12_leaveRow_15 : decode cX12_leaveRow 15 = .ok (.getfield 194, 3) := by decide +kernel
theorem dX12_leaveRow_18 : decode cX12_leaveRow 18 = .ok (.iload_n 2, 1) := by decide +kernel
theorem dX12_leaveRow_19 : decode cX12_leaveRow 19 = .ok (.iaload, 1) := by decide +kernel
theorem dX12_leaveRow_20 : decode cX12_leaveRow 20 = .ok (.if_icmp .ge 45, 3) := by decide +kernel
theorem dX12_leaveRow_23 : decode cX12_leaveRow 23 = .ok (.aload_n 0, 1) := by decide +kernel
theorem dX12_leaveRow_24 : decode cX12_leaveRow 24 = .ok (.getfield 191, 3) := by decide +kernel
theorem dX12_leaveRow_27 : decode cX12_leaveRow 27 = .ok (.bipush 13, 2) := by decide +kernel
theorem dX12_leaveRow_29 : decode cX12_leaveRow 29 = .ok (.iload_n 2, 1) := by decide +kernel
theorem dX12_leaveRow_30 : decode cX12_leaveRow 30 = .ok (.imul, 1) := by decide +kernel
theorem dX12_leaveRow_31 : decode cX12_leaveRow 31 = .ok (.iload 4, 2) := by decide +kernel
theorem dX12_leaveRow_33 : decode cX12_leaveRow 33 = .ok (.iadd, 1) := by decide +kernel
theorem dX12_leaveRow_34 : decode cX12_leaveRow 34 = .ok (.iaload, 1) := by decide +kernel
theorem dX12_leaveRow_35 : decode cX12_leaveRow 35 = .ok (.istore 5, 2) := by decide +kernel
theorem dX12_leaveRow_37 : decode cX12_leaveRow 37 = .ok (.iload 5, 2) := by decide +kernel
theorem dX12_leaveRow_39 : decode cX12_leaveRow 39 = .ok (.iload_n 1, 1) := by decide +kernel
theorem dX12_leaveRow_40 : decode cX12_leaveRow 40 = .ok (.if_icmp .eq 19, 3) := by decide +kernel
theorem dX12_leaveRow_43 : decode cX12_leaveRow 43 = .ok (.aload_n 0, 1) := by decide +kernel
theorem dX12_leaveRow_44 : decode cX12_leaveRow 44 = .ok (.getfield 191, 3) := by decide +kernel
theorem dX12_leaveRow_47 : decode cX12_leaveRow 47 = .ok (.bipush 13, 2) := by decide +kernel
theorem dX12_leaveRow_49 : decode cX12_leaveRow 49 = .ok (.iload_n 2, 1) := by decide +kernel
theorem dX12_leaveRow_50 : decode cX12_leaveRow 50 = .ok (.imul, 1) := by decide +kernel
theorem dX12_leaveRow_51 : decode cX12_leaveRow 51 = .ok (.iload_n 3, 1) := by decide +kernel
theorem dX12_leaveRow_52 : decode cX12_leaveRow 52 = .ok (.iadd, 1) := by decide +kernel
theorem dX12_leaveRow_53 : decode cX12_leaveRow 53 = .ok (.iload 5, 2) := by decide +kernel
theorem dX12_leaveRow_55 : decode cX12_leaveRow 55 = .ok (.iastore, 1) := by decide +kernel
theorem dX12_leaveRow_56 : decode cX12_leaveRow 56 = .ok (.iinc 3 1, 3) := by decide +kernel
theorem dX12_leaveRow_59 : decode cX12_leaveRow 59 = .ok (.iinc 4 1, 3) := by decide +kernel
theorem dX12_leaveRow_62 : decode cX12_leaveRow 62 = .ok (.goto (-50), 3) := by decide +kernel
theorem dX12_leaveRow_65 : decode cX12_leaveRow 65 = .ok (.aload_n 0, 1) := by decide +kernel
theorem dX12_leaveRow_66 : decode cX12_leaveRow 66 = .ok (.getfield 194, 3) := by decide +kernel
theorem dX12_leaveRow_69 : decode cX12_leaveRow 69 = .ok (.iload_n 2, 1) := by decide +kernel
theorem dX12_leaveRow_70 : decode cX12_leaveRow 70 = .ok (.iload_n 3, 1) := by decide +kernel
theorem dX12_leaveRow_71 : decode cX12_leaveRow 71 = .ok (.iastore, 1) := by decide +kernel
theorem dX12_leaveRow_72 : decode cX12_leaveRow 72 = .ok (.return_, 1) := by decide +kernel
theorem dX12_joinRow_0 : decode cX12_joinRow 0 = .ok (.aload_n 0, 1) := by decide +kernel
theorem dX12_joinRow_1 : decode cX12_joinRow 1 = .ok (.getfield 143, 3) := by decide +kernel
theorem dX12_joinRow_4 : decode cX12_joinRow 4 = .ok (.iload_n 1, 1) := by decide +kernel
theorem dX12_joinRow_5 : decode cX12_joinRow 5 = .ok (.iaload, 1) := by decide +kernel
theorem dX12_joinRow_6 : decode cX12_joinRow 6 = .ok (.istore_n 2, 1) := by decide +kernel
theorem dX12_joinRow_7 : decode cX12_joinRow 7 = .ok (.aload_n 0, 1) := by decide +kernel
theorem dX12_joinRow_8 : decode cX12_joinRow 8 = .ok (.getfield 191, 3) := by decide +kernel
theorem dX12_joinRow_11 : decode cX12_joinRow 11 = .ok (.bipush 13, 2) := by decide +kernel
theorem dX12_joinRow_13 : decode cX12_joinRow 13 = .ok (.iload_n 2, 1) := by decide +kernel
theorem dX12_joinRow_14 : decode cX12_joinRow 14 = .ok (.imul, 1) := by decide +kernel
theorem dX12_joinRow_15 : decode cX12_joinRow 15 = .ok (.aload_n 0, 1) := by decide +kernel
theorem dX12_joinRow_16 : decode cX12_joinRow 16 = .ok (.getfield 194, 3) := by decide +kernel
theorem dX12_joinRow_19 : decode cX12_joinRow 19 = .ok (.iload_n 2, 1) := by decide +kernel
theorem dX12_joinRow_20 : decode cX12_joinRow 20 = .ok (.iaload, 1) := by decide +kernel
theorem dX12_joinRow_21 : decode cX12_joinRow 21 = .ok (.iadd, 1) := by decide +kernel
theorem dX12_joinRow_22 : decode cX12_joinRow 22 = .ok (.iload_n 1, 1) := by decide +kernel
theorem dX12_joinRow_23 : decode cX12_joinRow 23 = .ok (.iastore, 1) := by decide +kernel
theorem dX12_joinRow_24 : decode cX12_joinRow 24 = .ok (.aload_n 0, 1) := by decide +kernel
theorem dX12_joinRow_25 : decode cX12_joinRow 25 = .ok (.getfield 194, 3) := by decide +kernel
theorem dX12_joinRow_28 : decode cX12_joinRow 28 = .ok (.iload_n 2, 1) := by decide +kernel
theorem dX12_joinRow_29 : decode cX12_joinRow 29 = .ok (.dup2, 1) := by decide +kernel
theorem dX12_joinRow_30 : decode cX12_joinRow 30 = .ok (.iaload, 1) := by decide +kernel
theorem dX12_joinRow_31 : decode cX12_joinRow 31 = .ok (.iconst 1, 1) := by decide +kernel
theorem dX12_joinRow_32 : decode cX12_joinRow 32 = .ok (.iadd, 1) := by decide +kernel
theorem dX12_joinRow_33 : decode cX12_joinRow 33 = .ok (.iastore, 1) := by decide +kernel
theorem dX12_joinRow_34 : decode cX12_joinRow 34 = .ok (.aload_n 0, 1) := by decide +kernel
theorem dX12_joinRow_35 : decode cX12_joinRow 35 = .ok (.getfield 188, 3) := by decide +kernel
theorem dX12_joinRow_38 : decode cX12_joinRow 38 = .ok (.iload_n 1, 1) := by decide +kernel
theorem dX12_joinRow_39 : decode cX12_joinRow 39 = .ok (.iconst 0, 1) := by decide +kernel
theorem dX12_joinRow_40 : decode cX12_joinRow 40 = .ok (.iastore, 1) := by decide +kernel
theorem dX12_joinRow_41 : decode cX12_joinRow 41 = .ok (.return_, 1) := by decide +kernel
theorem dX12_toEnd_0 : decode cX12_toEnd 0 = .ok (.aload_n 0, 1) := by decide +kernel
theorem dX12_toEnd_1 : decode cX12_toEnd 1 = .ok (.iload_n 1, 1) := by decide +kernel
theorem dX12_toEnd_2 : decode cX12_toEnd 2 = .ok (.invokevirtual 306, 3) := by decide +kernel
theorem dX12_toEnd_5 : decode cX12_toEnd 5 = .ok (.aload_n 0, 1) := by decide +kernel
theorem dX12_toEnd_6 : decode cX12_toEnd 6 = .ok (.iload_n 1, 1) := by decide +kernel
theorem dX12_toEnd_7 : decode cX12_toEnd 7 = .ok (.invokevirtual 309, 3) := by decide +kernel
theorem dX12_toEnd_10 : decode cX12_toEnd 10 = .ok (.return_, 1) := by decide +kernel
theorem dX12_wake_0 : decode cX12_wake 0 = .ok (.aload_n 0, 1) := by decide +kernel
theorem dX12_wake_1 : decode cX12_wake 1 = .ok (.getfield 137, 3) := by decide +kernel
theorem dX12_wake_4 : decode cX12_wake 4 = .ok (.iload_n 1, 1) := by decide +kernel
theorem dX12_wake_5 : decode cX12_wake 5 = .ok (.iconst 1, 1) := by decide +kernel
theorem dX12_wake_6 : decode cX12_wake 6 = .ok (.iastore, 1) := by decide +kernel
theorem dX12_wake_7 : decode cX12_wake 7 = .ok (.aload_n 0, 1) := by decide +kernel
theorem dX12_wake_8 : decode cX12_wake 8 = .ok (.getfield 185, 3) := by decide +kernel
theorem dX12_wake_11 : decode cX12_wake 11 = .ok (.iload_n 1, 1) := by decide +kernel
theorem dX12_wake_12 : decode cX12_wake 12 = .ok (.iconst 0, 1) := by decide +kernel
theorem dX12_wake_13 : decode cX12_wake 13 = .ok (.iastore, 1) := by decide +kernel
theorem dX12_wake_14 : decode cX12_wake 14 = .ok (.aload_n 0, 1) := by decide +kernel
theorem dX12_wake_15 : decode cX12_wake 15 = .ok (.iload_n 1, 1) := by decide +kernel
theorem dX12_wake_16 : decode cX12_wake 16 = .ok (.invokevirtual 309, 3) := by decide +kernel
theorem dX12_wake_19 : decode cX12_wake 19 = .ok (.return_, 1) := by decide +kernel
theorem dX12_waitFor_0 : decode cX12_waitFor 0 = .ok (.aload_n 0, 1) := by decide +kernel
theorem dX12_waitFor_1 : decode cX12_waitFor 1 = .ok (.iload_n 1, 1) := by decide +kernel
theorem dX12_waitFor_2 : decode cX12_waitFor 2 = .ok (.invokevirtual 306, 3) := by decide +kernel
theorem dX12_waitFor_5 : decode cX12_waitFor 5 = .ok (.aload_n 0, 1) := by decide +kernel
theorem dX12_waitFor_6 : decode cX12_waitFor 6 = .ok (.getfield 137, 3) := by decide +kernel
theorem dX12_waitFor_9 : decode cX12_waitFor 9 = .ok (.iload_n 1, 1) := by decide +kernel
theorem dX12_waitFor_10 : decode cX12_waitFor 10 = .ok (.iload_n 2, 1) := by decide +kernel
theorem dX12_waitFor_11 : decode cX12_waitFor 11 = .ok (.iastore, 1) := by decide +kernel
theorem dX12_waitFor_12 : decode cX12_waitFor 12 = .ok (.aload_n 0, 1) := by decide +kernel
theorem dX12_waitFor_13 : decode cX12_waitFor 13 = .ok (.getfield 185, 3) := by decide +kernel
theorem dX12_waitFor_16 : decode cX12_waitFor 16 = .ok (.iload_n 1, 1) := by decide +kernel
theorem dX12_waitFor_17 : decode cX12_waitFor 17 = .ok (.iload_n 3, 1) := by decide +kernel
theorem dX12_waitFor_18 : decode cX12_waitFor 18 = .ok (.iastore, 1) := by decide +kernel
theorem dX12_waitFor_19 : decode cX12_waitFor 19 = .ok (.aload_n 0, 1) := by decide +kernel
theorem dX12_waitFor_20 : decode cX12_waitFor 20 = .ok (.getfield 188, 3) := by decide +kernel
theorem dX12_waitFor_23 : decode cX12_waitFor 23 = .ok (.iload_n 1, 1) := by decide +kernel
theorem dX12_waitFor_24 : decode cX12_waitFor 24 = .ok (.iconst 0, 1) := by decide +kernel
theorem dX12_waitFor_25 : decode cX12_waitFor 25 = .ok (.iastore, 1) := by decide +kernel
theorem dX12_waitFor_26 : decode cX12_waitFor 26 = .ok (.return_, 1) := by decide +kernel
theorem dX12_isProcess_0 : decode cX12_isProcess 0 = .ok (.iload_n 1, 1) := by decide +kernel
theorem dX12_isProcess_1 : decode cX12_isProcess 1 = .ok (.iconst 1, 1) := by decide +kernel
theorem dX12_isProcess_2 : decode cX12_isProcess 2 = .ok (.if_icmp .lt 13, 3) := by decide +kernel
theorem dX12_isProcess_5 : decode cX12_isProcess 5 = .ok (.iload_n 1, 1) := by decide +kernel
theorem dX12_isProcess_6 : decode cX12_isProcess 6 = .ok (.bipush 12, 2) := by decide +kernel
theorem dX12_isProcess_8 : decode cX12_isProcess 8 = .ok (.if_icmp .gt 7, 3) := by decide +kernel
theorem dX12_isProcess_11 : decode cX12_isProcess 11 = .ok (.iconst 1, 1) := by decide +kernel
theorem dX12_isProcess_12 : decode cX12_isProcess 12 = .ok (.goto 4, 3) := by decide +kernel
theorem dX12_isProcess_15 : decode cX12_isProcess 15 = .ok (.iconst 0, 1) := by decide +kernel
theorem dX12_isProcess_16 : decode cX12_isProcess 16 = .ok (.ireturn, 1) := by decide +kernel
theorem dX12_isAlive_0 : decode cX12_isAlive 0 = .ok (.aload_n 0, 1) := by decide +kernel
theorem dX12_isAlive_1 : decode cX12_isAlive 1 = .ok (.iload_n 1, 1) := by decide +kernel
theorem dX12_isAlive_2 : decode cX12_isAlive 2 = .ok (.invokevirtual 312, 3) := by decide +kernel
theorem dX12_isAlive_5 : decode cX12_isAlive 5 = .ok (.ifCond .eq 28, 3) := by decide +kernel
theorem dX12_isAlive_8 : decode cX12_isAlive 8 = .ok (.aload_n 0, 1) := by decide +kernel
theorem dX12_isAlive_9 : decode cX12_isAlive 9 = .ok (.getfield 137, 3) := by decide +kernel
theorem dX12_isAlive_12 : decode cX12_isAlive 12 = .ok (.iload_n 1, 1) := by decide +kernel
theorem dX12_isAlive_13 : decode cX12_isAlive 13 = .ok (.iaload, 1) := by decide +kernel
theorem dX12_isAlive_14 : decode cX12_isAlive 14 = .ok (.iconst 1, 1) := by decide +kernel
theorem dX12_isAlive_15 : decode cX12_isAlive 15 = .ok (.if_icmp .lt 18, 3) := by decide +kernel
theorem dX12_isAlive_18 : decode cX12_isAlive 18 = .ok (.aload_n 0, 1) := by decide +kernel
theorem dX12_isAlive_19 : decode cX12_isAlive 19 = .ok (.getfield 137, 3) := by decide +kernel
theorem dX12_isAlive_22 : decode cX12_isAlive 22 = .ok (.iload_n 1, 1) := by decide +kernel
theorem dX12_isAlive_23 : decode cX12_isAlive 23 = .ok (.iaload, 1) := by decide +kernel
theorem dX12_isAlive_24 : decode cX12_isAlive 24 = .ok (.bipush 6, 2) := by decide +kernel
theorem dX12_isAlive_26 : decode cX12_isAlive 26 = .ok (.if_icmp .gt 7, 3) := by decide +kernel
theorem dX12_isAlive_29 : decode cX12_isAlive 29 = .ok (.iconst 1, 1) := by decide +kernel
theorem dX12_isAlive_30 : decode cX12_isAlive 30 = .ok (.goto 4, 3) := by decide +kernel
theorem dX12_isAlive_33 : decode cX12_isAlive 33 = .ok (.iconst 0, 1) := by decide +kernel
theorem dX12_isAlive_34 : decode cX12_isAlive 34 = .ok (.ireturn, 1) := by decide +kernel
theorem dX12_leaveSemaphore_0 : decode cX12_leaveSemaphore 0 = .ok (.aload_n 0, 1) := by decide +kernel
theorem dX12_leaveSemaphore_1 : decode cX12_leaveSemaphore 1 = .ok (.getfield 185, 3) := by decide +kernel
theorem dX12_leaveSemaphore_4 : decode cX12_leaveSemaphore 4 = .ok (.iload_n 1, 1) := by decide +kernel
theorem dX12_leaveSemaphore_5 : decode cX12_leaveSemaphore 5 = .ok (.iaload, 1) := by decide +kernel
theorem dX12_leaveSemaphore_6 : decode cX12_leaveSemaphore 6 = .ok (.istore_n 2, 1) := by decide +kernel
theorem dX12_leaveSemaphore_7 : decode cX12_leaveSemaphore 7 = .ok (.iconst 0, 1) := by decide +kernel
theorem dX12_leaveSemaphore_8 : decode cX12_leaveSemaphore 8 = .ok (.istore_n 3, 1) := by decide +kernel
theorem dX12_leaveSemaphore_9 : decode cX12_leaveSemaphore 9 = .ok (.iconst 0, 1) := by decide +kernel
theorem dX12_leaveSemaphore_10 : decode cX12_leaveSemaphore 10 = .ok (.istore 4, 2) := by decide +kernel
theorem dX12_leaveSemaphore_12 : decode cX12_leaveSemaphore 12 = .ok (.iload 4, 2) := by decide +kernel
theorem dX12_leaveSemaphore_14 : decode cX12_leaveSemaphore 14 = .ok (.aload_n 0, 1) := by decide +kernel
theorem dX12_leaveSemaphore_15 : decode cX12_leaveSemaphore 15 = .ok (.getfield 206, 3) := by decide +kernel
theorem dX12_leaveSemaphore_18 : decode cX12_leaveSemaphore 18 = .ok (.iload_n 2, 1) := by decide +kernel
theorem dX12_leaveSemaphore_19 : decode cX12_leaveSemaphore 19 = .ok (.iaload, 1) := by decide +kernel
theorem dX12_leaveSemaphore_20 : decode cX12_leaveSemaphore 20 = .ok (.if_icmp .ge 45, 3) := by decide +kernel
theorem dX12_leaveSemaphore_23 : decode cX12_leaveSemaphore 23 = .ok (.aload_n 0, 1) := by decide +kernel
theorem dX12_leaveSemaphore_24 : decode cX12_leaveSemaphore 24 = .ok (.getfield 203, 3) := by decide +kernel
theorem dX12_leaveSemaphore_27 : decode cX12_leaveSemaphore 27 = .ok (.bipush 13, 2) := by decide +kernel
theorem dX12_leaveSemaphore_29 : decode cX12_leaveSemaphore 29 = .ok (.iload_n 2, 1) := by decide +kernel
theorem dX12_leaveSemaphore_30 : decode cX12_leaveSemaphore 30 = .ok (.imul, 1) := by decide +kernel
theorem dX12_leaveSemaphore_31 : decode cX12_leaveSemaphore 31 = .ok (.iload 4, 2) := by decide +kernel
theorem dX12_leaveSemaphore_33 : decode cX12_leaveSemaphore 33 = .ok (.iadd, 1) := by decide +kernel
theorem dX12_leaveSemaphore_34 : decode cX12_leaveSemaphore 34 = .ok (.iaload, 1) := by decide +kernel
theorem dX12_leaveSemaphore_35 : decode cX12_leaveSemaphore 35 = .ok (.istore 5, 2) := by decide +kernel
theorem dX12_leaveSemaphore_37 : decode cX12_leaveSemaphore 37 = .ok (.iload 5, 2) := by decide +kernel
theorem dX12_leaveSemaphore_39 : decode cX12_leaveSemaphore 39 = .ok (.iload_n 1, 1) := by decide +kernel
theorem dX12_leaveSemaphore_40 : decode cX12_leaveSemaphore 40 = .ok (.if_icmp .eq 19, 3) := by decide +kernel
theorem dX12_leaveSemaphore_43 : decode cX12_leaveSemaphore 43 = .ok (.aload_n 0, 1) := by decide +kernel
theorem dX12_leaveSemaphore_44 : decode cX12_leaveSemaphore 44 = .ok (.getfield 203, 3) := by decide +kernel
theorem dX12_leaveSemaphore_47 : decode cX12_leaveSemaphore 47 = .ok (.bipush 13, 2) := by decide +kernel
theorem dX12_leaveSemaphore_49 : decode cX12_leaveSemaphore 49 = .ok (.iload_n 2, 1) := by decide +kernel
theorem dX12_leaveSemaphore_50 : decode cX12_leaveSemaphore 50 = .ok (.imul, 1) := by decide +kernel
theorem dX12_leaveSemaphore_51 : decode cX12_leaveSemaphore 51 = .ok (.iload_n 3, 1) := by decide +kernel
theorem dX12_leaveSemaphore_52 : decode cX12_leaveSemaphore 52 = .ok (.iadd, 1) := by decide +kernel
theorem dX12_leaveSemaphore_53 : decode cX12_leaveSemaphore 53 = .ok (.iload 5, 2) := by decide +kernel
theorem dX12_leaveSemaphore_55 : decode cX12_leaveSemaphore 55 = .ok (.iastore, 1) := by decide +kernel
theorem dX12_leaveSemaphore_56 : decode cX12_leaveSemaphore 56 = .ok (.iinc 3 1, 3) := by decide +kernel
theorem dX12_leaveSemaphore_59 : decode cX12_leaveSemaphore 59 = .ok (.iinc 4 1, 3) := by decide +kernel
theorem dX12_leaveSemaphore_62 : decode cX12_leaveSemaphore 62 = .ok (.goto (-50), 3) := by decide +kernel
theorem dX12_leaveSemaphore_65 : decode cX12_leaveSemaphore 65 = .ok (.aload_n 0, 1) := by decide +kernel
theorem dX12_leaveSemaphore_66 : decode cX12_leaveSemaphore 66 = .ok (.getfield 206, 3) := by decide +kernel
theorem dX12_leaveSemaphore_69 : decode cX12_leaveSemaphore 69 = .ok (.iload_n 2, 1) := by decide +kernel
theorem dX12_leaveSemaphore_70 : decode cX12_leaveSemaphore 70 = .ok (.iload_n 3, 1) := by decide +kernel
theorem dX12_leaveSemaphore_71 : decode cX12_leaveSemaphore 71 = .ok (.iastore, 1) := by decide +kernel
theorem dX12_leaveSemaphore_72 : decode cX12_leaveSemaphore 72 = .ok (.return_, 1) := by decide +kernel
theorem dX12_sweep_0 : decode cX12_sweep 0 = .ok (.iconst 0, 1) := by decide +kernel
theorem dX12_sweep_1 : decode cX12_sweep 1 = .ok (.istore_n 1, 1) := by decide +kernel
theorem dX12_sweep_2 : decode cX12_sweep 2 = .ok (.iload_n 1, 1) := by decide +kernel
theorem dX12_sweep_3 : decode cX12_sweep 3 = .ok (.bipush 13, 2) := by decide +kernel
theorem dX12_sweep_5 : decode cX12_sweep 5 = .ok (.if_icmp .ge 78, 3) := by decide +kernel
theorem dX12_sweep_8 : decode cX12_sweep 8 = .ok (.iconst 0, 1) := by decide +kernel
theorem dX12_sweep_9 : decode cX12_sweep 9 = .ok (.istore_n 2, 1) := by decide +kernel
theorem dX12_sweep_10 : decode cX12_sweep 10 = .ok (.iconst 1, 1) := by decide +kernel
theorem dX12_sweep_11 : decode cX12_sweep 11 = .ok (.istore_n 3, 1) := by decide +kernel
theorem dX12_sweep_12 : decode cX12_sweep 12 = .ok (.iload_n 3, 1) := by decide +kernel
theorem dX12_sweep_13 : decode cX12_sweep 13 = .ok (.bipush 12, 2) := by decide +kernel
theorem dX12_sweep_15 : decode cX12_sweep 15 = .ok (.if_icmp .gt 38, 3) := by decide +kernel
theorem dX12_sweep_18 : decode cX12_sweep 18 = .ok (.iload_n 2, 1) := by decide +kernel
theorem dX12_sweep_19 : decode cX12_sweep 19 = .ok (.ifCond .ne 22, 3) := by decide +kernel
theorem dX12_sweep_22 : decode cX12_sweep 22 = .ok (.aload_n 0, 1) := by decide +kernel
theorem dX12_sweep_23 : decode cX12_sweep 23 = .ok (.getfield 137, 3) := by decide +kernel
theorem dX12_sweep_26 : decode cX12_sweep 26 = .ok (.iload_n 3, 1) := by decide +kernel
theorem dX12_sweep_27 : decode cX12_sweep 27 = .ok (.iaload, 1) := by decide +kernel
theorem dX12_sweep_28 : decode cX12_sweep 28 = .ok (.ifCond .eq 17, 3) := by decide +kernel
theorem dX12_sweep_31 : decode cX12_sweep 31 = .ok (.aload_n 0, 1) := by decide +kernel
theorem dX12_sweep_32 : decode cX12_sweep 32 = .ok (.getfield 149, 3) := by decide +kernel
theorem dX12_sweep_35 : decode cX12_sweep 35 = .ok (.iload_n 3, 1) := by decide +kernel
theorem dX12_sweep_36 : decode cX12_sweep 36 = .ok (.iaload, 1) := by decide +kernel
theorem dX12_sweep_37 : decode cX12_sweep 37 = .ok (.iload_n 1, 1) := by decide +kernel
theorem dX12_sweep_38 : decode cX12_sweep 38 = .ok (.if_icmp .ne 7, 3) := by decide +kernel
theorem dX12_sweep_41 : decode cX12_sweep 41 = .ok (.iconst 1, 1) := by decide +kernel
theorem dX12_sweep_42 : decode cX12_sweep 42 = .ok (.goto 4, 3) := by decide +kernel
theorem dX12_sweep_45 : decode cX12_sweep 45 = .ok (.iconst 0, 1) := by decide +kernel
theorem dX12_sweep_46 : decode cX12_sweep 46 = .ok (.istore_n 2, 1) := by decide +kernel
theorem dX12_sweep_47 : decode cX12_sweep 47 = .ok (.iinc 3 1, 3) := by decide +kernel
theorem dX12_sweep_50 : decode cX12_sweep 50 = .ok (.goto (-38), 3) := by decide +kernel
theorem dX12_sweep_53 : decode cX12_sweep 53 = .ok (.aload_n 0, 1) := by decide +kernel
theorem dX12_sweep_54 : decode cX12_sweep 54 = .ok (.getfield 118, 3) := by decide +kernel
theorem dX12_sweep_57 : decode cX12_sweep 57 = .ok (.iload_n 1, 1) := by decide +kernel
theorem dX12_sweep_58 : decode cX12_sweep 58 = .ok (.aload_n 0, 1) := by decide +kernel
theorem dX12_sweep_59 : decode cX12_sweep 59 = .ok (.getfield 118, 3) := by decide +kernel
theorem dX12_sweep_62 : decode cX12_sweep 62 = .ok (.iload_n 1, 1) := by decide +kernel
theorem dX12_sweep_63 : decode cX12_sweep 63 = .ok (.baload, 1) := by decide +kernel
theorem dX12_sweep_64 : decode cX12_sweep 64 = .ok (.ifCond .eq 11, 3) := by decide +kernel
theorem dX12_sweep_67 : decode cX12_sweep 67 = .ok (.iload_n 2, 1) := by decide +kernel
theorem dX12_sweep_68 : decode cX12_sweep 68 = .ok (.ifCond .eq 7, 3) := by decide +kernel
theorem dX12_sweep_71 : decode cX12_sweep 71 = .ok (.iconst 1, 1) := by decide +kernel
theorem dX12_sweep_72 : decode cX12_sweep 72 = .ok (.goto 4, 3) := by decide +kernel
theorem dX12_sweep_75 : decode cX12_sweep 75 = .ok (.iconst 0, 1) := by decide +kernel
theorem dX12_sweep_76 : decode cX12_sweep 76 = .ok (.bastore, 1) := by decide +kernel
theorem dX12_sweep_77 : decode cX12_sweep 77 = .ok (.iinc 1 1, 3) := by decide +kernel
theorem dX12_sweep_80 : decode cX12_sweep 80 = .ok (.goto (-78), 3) := by decide +kernel
theorem dX12_sweep_83 : decode cX12_sweep 83 = .ok (.return_, 1) := by decide +kernel
theorem dX12_release_0 : decode cX12_release 0 = .ok (.aload_n 0, 1) := by decide +kernel
theorem dX12_release_1 : decode cX12_release 1 = .ok (.getfield 137, 3) := by decide +kernel
theorem dX12_release_4 : decode cX12_release 4 = .ok (.iload_n 1, 1) := by decide +kernel
theorem dX12_release_5 : decode cX12_release 5 = .ok (.iconst 0, 1) := by decide +kernel
theorem dX12_release_6 : decode cX12_release 6 = .ok (.iastore, 1) := by decide +kernel
theorem dX12_release_7 : decode cX12_release 7 = .ok (.aload_n 0, 1) := by decide +kernel
theorem dX12_release_8 : decode cX12_release 8 = .ok (.getfield 140, 3) := by decide +kernel
theorem dX12_release_11 : decode cX12_release 11 = .ok (.iload_n 1, 1) := by decide +kernel
theorem dX12_release_12 : decode cX12_release 12 = .ok (.iconst 0, 1) := by decide +kernel
theorem dX12_release_13 : decode cX12_release 13 = .ok (.iastore, 1) := by decide +kernel
theorem dX12_release_14 : decode cX12_release 14 = .ok (.aload_n 0, 1) := by decide +kernel
theorem dX12_release_15 : decode cX12_release 15 = .ok (.getfield 143, 3) := by decide +kernel
theorem dX12_release_18 : decode cX12_release 18 = .ok (.iload_n 1, 1) := by decide +kernel
theorem dX12_release_19 : decode cX12_release 19 = .ok (.iconst 0, 1) := by decide +kernel
theorem dX12_release_20 : decode cX12_release 20 = .ok (.iastore, 1) := by decide +kernel
theorem dX12_release_21 : decode cX12_release 21 = .ok (.aload_n 0, 1) := by decide +kernel
theorem dX12_release_22 : decode cX12_release 22 = .ok (.getfield 146, 3) := by decide +kernel
theorem dX12_release_25 : decode cX12_release 25 = .ok (.iload_n 1, 1) := by decide +kernel
theorem dX12_release_26 : decode cX12_release 26 = .ok (.iconst 0, 1) := by decide +kernel
theorem dX12_release_27 : decode cX12_release 27 = .ok (.iastore, 1) := by decide +kernel
theorem dX12_release_28 : decode cX12_release 28 = .ok (.aload_n 0, 1) := by decide +kernel
theorem dX12_release_29 : decode cX12_release 29 = .ok (.getfield 182, 3) := by decide +kernel
theorem dX12_release_32 : decode cX12_release 32 = .ok (.iload_n 1, 1) := by decide +kernel
theorem dX12_release_33 : decode cX12_release 33 = .ok (.iconst 0, 1) := by decide +kernel
theorem dX12_release_34 : decode cX12_release 34 = .ok (.iastore, 1) := by decide +kernel
theorem dX12_release_35 : decode cX12_release 35 = .ok (.return_, 1) := by decide +kernel
theorem dX12_finish_0 : decode cX12_finish 0 = .ok (.aload_n 0, 1) := by decide +kernel
theorem dX12_finish_1 : decode cX12_finish 1 = .ok (.getfield 137, 3) := by decide +kernel
theorem dX12_finish_4 : decode cX12_finish 4 = .ok (.iload_n 1, 1) := by decide +kernel
theorem dX12_finish_5 : decode cX12_finish 5 = .ok (.iaload, 1) := by decide +kernel
theorem dX12_finish_6 : decode cX12_finish 6 = .ok (.iconst 1, 1) := by decide +kernel
theorem dX12_finish_7 : decode cX12_finish 7 = .ok (.if_icmp .ne 11, 3) := by decide +kernel
theorem dX12_finish_10 : decode cX12_finish 10 = .ok (.aload_n 0, 1) := by decide +kernel
theorem dX12_finish_11 : decode cX12_finish 11 = .ok (.iload_n 1, 1) := by decide +kernel
theorem dX12_finish_12 : decode cX12_finish 12 = .ok (.invokevirtual 306, 3) := by decide +kernel
theorem dX12_finish_15 : decode cX12_finish 15 = .ok (.goto 19, 3) := by decide +kernel
theorem dX12_finish_18 : decode cX12_finish 18 = .ok (.aload_n 0, 1) := by decide +kernel
theorem dX12_finish_19 : decode cX12_finish 19 = .ok (.getfield 137, 3) := by decide +kernel
theorem dX12_finish_22 : decode cX12_finish 22 = .ok (.iload_n 1, 1) := by decide +kernel
theorem dX12_finish_23 : decode cX12_finish 23 = .ok (.iaload, 1) := by decide +kernel
theorem dX12_finish_24 : decode cX12_finish 24 = .ok (.bipush 6, 2) := by decide +kernel
theorem dX12_finish_26 : decode cX12_finish 26 = .ok (.if_icmp .ne 8, 3) := by decide +kernel
theorem dX12_finish_29 : decode cX12_finish 29 = .ok (.aload_n 0, 1) := by decide +kernel
theorem dX12_finish_30 : decode cX12_finish 30 = .ok (.iload_n 1, 1) := by decide +kernel
theorem dX12_finish_31 : decode cX12_finish 31 = .ok (.invokevirtual 315, 3) := by decide +kernel
theorem dX12_finish_34 : decode cX12_finish 34 = .ok (.iconst 0, 1) := by decide +kernel
theorem dX12_finish_35 : decode cX12_finish 35 = .ok (.istore_n 3, 1) := by decide +kernel
theorem dX12_finish_36 : decode cX12_finish 36 = .ok (.iload_n 3, 1) := by decide +kernel
theorem dX12_finish_37 : decode cX12_finish 37 = .ok (.aload_n 0, 1) := by decide +kernel
theorem dX12_finish_38 : decode cX12_finish 38 = .ok (.getfield 221, 3) := by decide +kernel
theorem dX12_finish_41 : decode cX12_finish 41 = .ok (.if_icmp .ge 35, 3) := by decide +kernel
theorem dX12_finish_44 : decode cX12_finish 44 = .ok (.aload_n 0, 1) := by decide +kernel
theorem dX12_finish_45 : decode cX12_finish 45 = .ok (.getfield 218, 3) := by decide +kernel
theorem dX12_finish_48 : decode cX12_finish 48 = .ok (.iload_n 3, 1) := by decide +kernel
theorem dX12_finish_49 : decode cX12_finish 49 = .ok (.aload_n 0, 1) := by decide +kernel
theorem dX12_finish_50 : decode cX12_finish 50 = .ok (.getfield 218, 3) := by decide +kernel
theorem dX12_finish_53 : decode cX12_finish 53 = .ok (.iload_n 3, 1) := by decide +kernel
theorem dX12_finish_54 : decode cX12_finish 54 = .ok (.iaload, 1) := by decide +kernel
theorem dX12_finish_55 : decode cX12_finish 55 = .ok (.iload_n 1, 1) := by decide +kernel
theorem dX12_finish_56 : decode cX12_finish 56 = .ok (.if_icmp .ne 7, 3) := by decide +kernel
theorem dX12_finish_59 : decode cX12_finish 59 = .ok (.iconst 0, 1) := by decide +kernel
theorem dX12_finish_60 : decode cX12_finish 60 = .ok (.goto 9, 3) := by decide +kernel
theorem dX12_finish_63 : decode cX12_finish 63 = .ok (.aload_n 0, 1) := by decide +kernel
theorem dX12_finish_64 : decode cX12_finish 64 = .ok (.getfield 218, 3) := by decide +kernel
theorem dX12_finish_67 : decode cX12_finish 67 = .ok (.iload_n 3, 1) := by decide +kernel
theorem dX12_finish_68 : decode cX12_finish 68 = .ok (.iaload, 1) := by decide +kernel
theorem dX12_finish_69 : decode cX12_finish 69 = .ok (.iastore, 1) := by decide +kernel
theorem dX12_finish_70 : decode cX12_finish 70 = .ok (.iinc 3 1, 3) := by decide +kernel
theorem dX12_finish_73 : decode cX12_finish 73 = .ok (.goto (-37), 3) := by decide +kernel
theorem dX12_finish_76 : decode cX12_finish 76 = .ok (.aload_n 0, 1) := by decide +kernel
theorem dX12_finish_77 : decode cX12_finish 77 = .ok (.invokevirtual 318, 3) := by decide +kernel
theorem dX12_finish_80 : decode cX12_finish 80 = .ok (.aload_n 0, 1) := by decide +kernel
theorem dX12_finish_81 : decode cX12_finish 81 = .ok (.getfield 167, 3) := by decide +kernel
theorem dX12_finish_84 : decode cX12_finish 84 = .ok (.iload_n 1, 1) := by decide +kernel
theorem dX12_finish_85 : decode cX12_finish 85 = .ok (.iconst 0, 1) := by decide +kernel
theorem dX12_finish_86 : decode cX12_finish 86 = .ok (.iastore, 1) := by decide +kernel
theorem dX12_finish_87 : decode cX12_finish 87 = .ok (.aload_n 0, 1) := by decide +kernel
theorem dX12_finish_88 : decode cX12_finish 88 = .ok (.getfield 176, 3) := by decide +kernel
theorem dX12_finish_91 : decode cX12_finish 91 = .ok (.iload_n 1, 1) := by decide +kernel
theorem dX12_finish_92 : decode cX12_finish 92 = .ok (.iconst 0, 1) := by decide +kernel
theorem dX12_finish_93 : decode cX12_finish 93 = .ok (.iastore, 1) := by decide +kernel
theorem dX12_finish_94 : decode cX12_finish 94 = .ok (.aload_n 0, 1) := by decide +kernel
theorem dX12_finish_95 : decode cX12_finish 95 = .ok (.getfield 152, 3) := by decide +kernel
theorem dX12_finish_98 : decode cX12_finish 98 = .ok (.iload_n 1, 1) := by decide +kernel
theorem dX12_finish_99 : decode cX12_finish 99 = .ok (.iconst 0, 1) := by decide +kernel
theorem dX12_finish_100 : decode cX12_finish 100 = .ok (.iastore, 1) := by decide +kernel
theorem dX12_finish_101 : decode cX12_finish 101 = .ok (.aload_n 0, 1) := by decide +kernel
theorem dX12_finish_102 : decode cX12_finish 102 = .ok (.getfield 155, 3) := by decide +kernel
theorem dX12_finish_105 : decode cX12_finish 105 = .ok (.iload_n 1, 1) := by decide +kernel
theorem dX12_finish_106 : decode cX12_finish 106 = .ok (.iconst 0, 1) := by decide +kernel
theorem dX12_finish_107 : decode cX12_finish 107 = .ok (.iastore, 1) := by decide +kernel
theorem dX12_finish_108 : decode cX12_finish 108 = .ok (.aload_n 0, 1) := by decide +kernel
theorem dX12_finish_109 : decode cX12_finish 109 = .ok (.getfield 161, 3) := by decide +kernel
theorem dX12_finish_112 : decode cX12_finish 112 = .ok (.iload_n 1, 1) := by decide +kernel
theorem dX12_finish_113 : decode cX12_finish 113 = .ok (.iconst 0, 1) := by decide +kernel
theorem dX12_finish_114 : decode cX12_finish 114 = .ok (.iastore, 1) := by decide +kernel
theorem dX12_finish_115 : decode cX12_finish 115 = .ok (.aload_n 0, 1) := by decide +kernel
theorem dX12_finish_116 : decode cX12_finish 116 = .ok (.getfield 185, 3) := by decide +kernel
theorem dX12_finish_119 : decode cX12_finish 119 = .ok (.iload_n 1, 1) := by decide +kernel
theorem dX12_finish_120 : decode cX12_finish 120 = .ok (.iconst 0, 1) := by decide +kernel
theorem dX12_finish_121 : decode cX12_finish 121 = .ok (.iastore, 1) := by decide +kernel
theorem dX12_finish_122 : decode cX12_finish 122 = .ok (.aload_n 0, 1) := by decide +kernel
theorem dX12_finish_123 : decode cX12_finish 123 = .ok (.getfield 188, 3) := by decide +kernel
theorem dX12_finish_126 : decode cX12_finish 126 = .ok (.iload_n 1, 1) := by decide +kernel
theorem dX12_finish_127 : decode cX12_finish 127 = .ok (.iconst 0, 1) := by decide +kernel
theorem dX12_finish_128 : decode cX12_finish 128 = .ok (.iastore, 1) := by decide +kernel
theorem dX12_finish_129 : decode cX12_finish 129 = .ok (.aload_n 0, 1) := by decide +kernel
theorem dX12_finish_130 : decode cX12_finish 130 = .ok (.getfield 137, 3) := by decide +kernel
theorem dX12_finish_133 : decode cX12_finish 133 = .ok (.iload_n 1, 1) := by decide +kernel
theorem dX12_finish_134 : decode cX12_finish 134 = .ok (.bipush 7, 2) := by decide +kernel
theorem dX12_finish_136 : decode cX12_finish 136 = .ok (.iastore, 1) := by decide +kernel
theorem dX12_finish_137 : decode cX12_finish 137 = .ok (.aload_n 0, 1) := by decide +kernel
theorem dX12_finish_138 : decode cX12_finish 138 = .ok (.getfield 140, 3) := by decide +kernel
theorem dX12_finish_141 : decode cX12_finish 141 = .ok (.iload_n 1, 1) := by decide +kernel
theorem dX12_finish_142 : decode cX12_finish 142 = .ok (.iload_n 2, 1) := by decide +kernel
theorem dX12_finish_143 : decode cX12_finish 143 = .ok (.iastore, 1) := by decide +kernel
theorem dX12_finish_144 : decode cX12_finish 144 = .ok (.iconst 1, 1) := by decide +kernel
theorem dX12_finish_145 : decode cX12_finish 145 = .ok (.istore_n 3, 1) := by decide +kernel
theorem dX12_finish_146 : decode cX12_finish 146 = .ok (.iload_n 3, 1) := by decide +kernel
theorem dX12_finish_147 : decode cX12_finish 147 = .ok (.bipush 12, 2) := by decide +kernel
theorem dX12_finish_149 : decode cX12_finish 149 = .ok (.if_icmp .gt 51, 3) := by decide +kernel
theorem dX12_finish_152 : decode cX12_finish 152 = .ok (.aload_n 0, 1) := by decide +kernel
theorem dX12_finish_153 : decode cX12_finish 153 = .ok (.getfield 137, 3) := by decide +kernel
theorem dX12_finish_156 : decode cX12_finish 156 = .ok (.iload_n 3, 1) := by decide +kernel
theorem dX12_finish_157 : decode cX12_finish 157 = .ok (.iaload, 1) := by decide +kernel
theorem dX12_finish_158 : decode cX12_finish 158 = .ok (.ifCond .eq 36, 3) := by decide +kernel
theorem dX12_finish_161 : decode cX12_finish 161 = .ok (.aload_n 0, 1) := by decide +kernel
theorem dX12_finish_162 : decode cX12_finish 162 = .ok (.getfield 146, 3) := by decide +kernel
theorem dX12_finish_165 : decode cX12_finish 165 = .ok (.iload_n 3, 1) := by decide +kernel
theorem dX12_finish_166 : decode cX12_finish 166 = .ok (.iaload, 1) := by decide +kernel
theorem dX12_finish_167 : decode cX12_finish 167 = .ok (.iload_n 1, 1) := by decide +kernel
theorem dX12_finish_168 : decode cX12_finish 168 = .ok (.if_icmp .ne 26, 3) := by decide +kernel
theorem dX12_finish_171 : decode cX12_finish 171 = .ok (.aload_n 0, 1) := by decide +kernel
theorem dX12_finish_172 : decode cX12_finish 172 = .ok (.getfield 146, 3) := by decide +kernel
theorem dX12_finish_175 : decode cX12_finish 175 = .ok (.iload_n 3, 1) := by decide +kernel
theorem dX12_finish_176 : decode cX12_finish 176 = .ok (.iconst 0, 1) := by decide +kernel
theorem dX12_finish_177 : decode cX12_finish 177 = .ok (.iastore, 1) := by decide +kernel
theorem dX12_finish_178 : decode cX12_finish 178 = .ok (.aload_n 0, 1) := by decide +kernel
theorem dX12_finish_179 : decode cX12_finish 179 = .ok (.getfield 137, 3) := by decide +kernel
theorem dX12_finish_182 : decode cX12_finish 182 = .ok (.iload_n 3, 1) := by decide +kernel
theorem dX12_finish_183 : decode cX12_finish 183 = .ok (.iaload, 1) := by decide +kernel
theorem dX12_finish_184 : decode cX12_finish 184 = .ok (.bipush 7, 2) := by decide +kernel
theorem dX12_finish_186 : decode cX12_finish 186 = .ok (.if_icmp .ne 8, 3) := by decide +kernel
theorem dX12_finish_189 : decode cX12_finish 189 = .ok (.aload_n 0, 1) := by decide +kernel
theorem dX12_finish_190 : decode cX12_finish 190 = .ok (.iload_n 3, 1) := by decide +kernel
theorem dX12_finish_191 : decode cX12_finish 191 = .ok (.invokevirtual 321, 3) := by decide +kernel
theorem dX12_finish_194 : decode cX12_finish 194 = .ok (.iinc 3 1, 3) := by decide +kernel
theorem dX12_finish_197 : decode cX12_finish 197 = .ok (.goto (-51), 3) := by decide +kernel
theorem dX12_finish_200 : decode cX12_finish 200 = .ok (.aload_n 0, 1) := by decide +kernel
theorem dX12_finish_201 : decode cX12_finish 201 = .ok (.getfield 146, 3) := by decide +kernel
theorem dX12_finish_204 : decode cX12_finish 204 = .ok (.iload_n 1, 1) := by decide +kernel
theorem dX12_finish_205 : decode cX12_finish 205 = .ok (.iaload, 1) := by decide +kernel
theorem dX12_finish_206 : decode cX12_finish 206 = .ok (.istore_n 3, 1) := by decide +kernel
theorem dX12_finish_207 : decode cX12_finish 207 = .ok (.iload_n 3, 1) := by decide +kernel
theorem dX12_finish_208 : decode cX12_finish 208 = .ok (.ifCond .le 28, 3) := by decide +kernel
theorem dX12_finish_211 : decode cX12_finish 211 = .ok (.aload_n 0, 1) := by decide +kernel
theorem dX12_finish_212 : decode cX12_finish 212 = .ok (.getfield 137, 3) := by decide +kernel
theorem dX12_finish_215 : decode cX12_finish 215 = .ok (.iload_n 3, 1) := by decide +kernel
theorem dX12_finish_216 : decode cX12_finish 216 = .ok (.iaload, 1) := by decide +kernel
theorem dX12_finish_217 : decode cX12_finish 217 = .ok (.iconst 3, 1) := by decide +kernel
theorem dX12_finish_218 : decode cX12_finish 218 = .ok (.if_icmp .ne 18, 3) := by decide +kernel
theorem dX12_finish_221 : decode cX12_finish 221 = .ok (.aload_n 0, 1) := by decide +kernel
theorem dX12_finish_222 : decode cX12_finish 222 = .ok (.getfield 185, 3) := by decide +kernel
theorem dX12_finish_225 : decode cX12_finish 225 = .ok (.iload_n 3, 1) := by decide +kernel
theorem dX12_finish_226 : decode cX12_finish 226 = .ok (.iaload, 1) := by decide +kernel
theorem dX12_finish_227 : decode cX12_finish 227 = .ok (.iload_n 1, 1) := by decide +kernel
theorem dX12_finish_228 : decode cX12_finish 228 = .ok (.if_icmp .ne 8, 3) := by decide +kernel
theorem dX12_finish_231 : decode cX12_finish 231 = .ok (.aload_n 0, 1) := by decide +kernel
theorem dX12_finish_232 : decode cX12_finish 232 = .ok (.iload_n 3, 1) := by decide +kernel
theorem dX12_finish_233 : decode cX12_finish 233 = .ok (.invokevirtual 324, 3) := by decide +kernel
theorem dX12_finish_236 : decode cX12_finish 236 = .ok (.aload_n 0, 1) := by decide +kernel
theorem dX12_finish_237 : decode cX12_finish 237 = .ok (.invokevirtual 327, 3) := by decide +kernel
theorem dX12_finish_240 : decode cX12_finish 240 = .ok (.return_, 1) := by decide +kernel
theorem dX12_start_0 : decode cX12_start 0 = .ok (.iconst 1, 1) := by decide +kernel
theorem dX12_start_1 : decode cX12_start 1 = .ok (.istore 5, 2) := by decide +kernel
theorem dX12_start_3 : decode cX12_start 3 = .ok (.iload 5, 2) := by decide +kernel
theorem dX12_start_5 : decode cX12_start 5 = .ok (.bipush 12, 2) := by decide +kernel
theorem dX12_start_7 : decode cX12_start 7 = .ok (.if_icmp .gt 19, 3) := by decide +kernel
theorem dX12_start_10 : decode cX12_start 10 = .ok (.aload_n 0, 1) := by decide +kernel
theorem dX12_start_11 : decode cX12_start 11 = .ok (.getfield 137, 3) := by decide +kernel
theorem dX12_start_14 : decode cX12_start 14 = .ok (.iload 5, 2) := by decide +kernel
theorem dX12_start_16 : decode cX12_start 16 = .ok (.iaload, 1) := by decide +kernel
theorem dX12_start_17 : decode cX12_start 17 = .ok (.ifCond .eq 9, 3) := by decide +kernel
theorem dX12_start_20 : decode cX12_start 20 = .ok (.iinc 5 1, 3) := by decide +kernel
theorem dX12_start_23 : decode cX12_start 23 = .ok (.goto (-20), 3) := by decide +kernel
theorem dX12_start_26 : decode cX12_start 26 = .ok (.iload 5, 2) := by decide +kernel
theorem dX12_start_28 : decode cX12_start 28 = .ok (.bipush 12, 2) := by decide +kernel
theorem dX12_start_30 : decode cX12_start 30 = .ok (.if_icmp .le 5, 3) := by decide +kernel
theorem dX12_start_33 : decode cX12_start 33 = .ok (.iconst 0, 1) := by decide +kernel
theorem dX12_start_34 : decode cX12_start 34 = .ok (.ireturn, 1) := by decide +kernel
theorem dX12_start_35 : decode cX12_start 35 = .ok (.aload_n 0, 1) := by decide +kernel
theorem dX12_start_36 : decode cX12_start 36 = .ok (.getfield 140, 3) := by decide +kernel
theorem dX12_start_39 : decode cX12_start 39 = .ok (.iload 5, 2) := by decide +kernel
theorem dX12_start_41 : decode cX12_start 41 = .ok (.iconst 0, 1) := by decide +kernel
theorem dX12_start_42 : decode cX12_start 42 = .ok (.iastore, 1) := by decide +kernel
theorem dX12_start_43 : decode cX12_start 43 = .ok (.aload_n 0, 1) := by decide +kernel
theorem dX12_start_44 : decode cX12_start 44 = .ok (.getfield 143, 3) := by decide +kernel
theorem dX12_start_47 : decode cX12_start 47 = .ok (.iload 5, 2) := by decide +kernel
theorem dX12_start_49 : decode cX12_start 49 = .ok (.iload_n 2, 1) := by decide +kernel
theorem dX12_start_50 : decode cX12_start 50 = .ok (.iastore, 1) := by decide +kernel
theorem dX12_start_51 : decode cX12_start 51 = .ok (.aload_n 0, 1) := by decide +kernel
theorem dX12_start_52 : decode cX12_start 52 = .ok (.getfield 146, 3) := by decide +kernel
theorem dX12_start_55 : decode cX12_start 55 = .ok (.iload 5, 2) := by decide +kernel
theorem dX12_start_57 : decode cX12_start 57 = .ok (.iload 4, 2) := by decide +kernel
theorem dX12_start_59 : decode cX12_start 59 = .ok (.iastore, 1) := by decide +kernel
theorem dX12_start_60 : decode cX12_start 60 = .ok (.aload_n 0, 1) := by decide +kernel
theorem dX12_start_61 : decode cX12_start 61 = .ok (.getfield 149, 3) := by decide +kernel
theorem dX12_start_64 : decode cX12_start 64 = .ok (.iload 5, 2) := by decide +kernel
theorem dX12_start_66 : decode cX12_start 66 = .ok (.iload_n 1, 1) := by decide +kernel
theorem dX12_start_67 : decode cX12_start 67 = .ok (.iastore, 1) := by decide +kernel
theorem dX12_start_68 : decode cX12_start 68 = .ok (.aload_n 0, 1) := by decide +kernel
theorem dX12_start_69 : decode cX12_start 69 = .ok (.getfield 152, 3) := by decide +kernel
theorem dX12_start_72 : decode cX12_start 72 = .ok (.iload 5, 2) := by decide +kernel
theorem dX12_start_74 : decode cX12_start 74 = .ok (.iload_n 3, 1) := by decide +kernel
theorem dX12_start_75 : decode cX12_start 75 = .ok (.iastore, 1) := by decide +kernel
theorem dX12_start_76 : decode cX12_start 76 = .ok (.aload_n 0, 1) := by decide +kernel
theorem dX12_start_77 : decode cX12_start 77 = .ok (.getfield 155, 3) := by decide +kernel
theorem dX12_start_80 : decode cX12_start 80 = .ok (.iload 5, 2) := by decide +kernel
theorem dX12_start_82 : decode cX12_start 82 = .ok (.iconst 0, 1) := by decide +kernel
theorem dX12_start_83 : decode cX12_start 83 = .ok (.iastore, 1) := by decide +kernel
theorem dX12_start_84 : decode cX12_start 84 = .ok (.aload_n 0, 1) := by decide +kernel
theorem dX12_start_85 : decode cX12_start 85 = .ok (.getfield 161, 3) := by decide +kernel
theorem dX12_start_88 : decode cX12_start 88 = .ok (.iload 5, 2) := by decide +kernel
theorem dX12_start_90 : decode cX12_start 90 = .ok (.iconst 0, 1) := by decide +kernel
theorem dX12_start_91 : decode cX12_start 91 = .ok (.iastore, 1) := by decide +kernel
theorem dX12_start_92 : decode cX12_start 92 = .ok (.aload_n 0, 1) := by decide +kernel
theorem dX12_start_93 : decode cX12_start 93 = .ok (.getfield 167, 3) := by decide +kernel
theorem dX12_start_96 : decode cX12_start 96 = .ok (.iload 5, 2) := by decide +kernel
theorem dX12_start_98 : decode cX12_start 98 = .ok (.iconst 0, 1) := by decide +kernel
theorem dX12_start_99 : decode cX12_start 99 = .ok (.iastore, 1) := by decide +kernel
theorem dX12_start_100 : decode cX12_start 100 = .ok (.aload_n 0, 1) := by decide +kernel
theorem dX12_start_101 : decode cX12_start 101 = .ok (.getfield 176, 3) := by decide +kernel
theorem dX12_start_104 : decode cX12_start 104 = .ok (.iload 5, 2) := by decide +kernel
theorem dX12_start_106 : decode cX12_start 106 = .ok (.iconst 0, 1) := by decide +kernel
theorem dX12_start_107 : decode cX12_start 107 = .ok (.iastore, 1) := by decide +kernel
theorem dX12_start_108 : decode cX12_start 108 = .ok (.aload_n 0, 1) := by decide +kernel
theorem dX12_start_109 : decode cX12_start 109 = .ok (.getfield 182, 3) := by decide +kernel
theorem dX12_start_112 : decode cX12_start 112 = .ok (.iload 5, 2) := by decide +kernel
theorem dX12_start_114 : decode cX12_start 114 = .ok (.iconst 0, 1) := by decide +kernel
theorem dX12_start_115 : decode cX12_start 115 = .ok (.iastore, 1) := by decide +kernel
theorem dX12_start_116 : decode cX12_start 116 = .ok (.aload_n 0, 1) := by decide +kernel
theorem dX12_start_117 : decode cX12_start 117 = .ok (.iload 5, 2) := by decide +kernel
theorem dX12_start_119 : decode cX12_start 119 = .ok (.invokevirtual 324, 3) := by decide +kernel
theorem dX12_start_122 : decode cX12_start 122 = .ok (.iload 5, 2) := by decide +kernel
theorem dX12_start_124 : decode cX12_start 124 = .ok (.ireturn, 1) := by decide +kernel
theorem dX12_joinBlocks_0 : decode cX12_joinBlocks 0 = .ok (.iconst 0, 1) := by decide +kernel
theorem dX12_joinBlocks_1 : decode cX12_joinBlocks 1 = .ok (.istore_n 1, 1) := by decide +kernel
theorem dX12_joinBlocks_2 : decode cX12_joinBlocks 2 = .ok (.iconst 1, 1) := by decide +kernel
theorem dX12_joinBlocks_3 : decode cX12_joinBlocks 3 = .ok (.istore_n 2, 1) := by decide +kernel
theorem dX12_joinBlocks_4 : decode cX12_joinBlocks 4 = .ok (.iload_n 2, 1) := by decide +kernel
theorem dX12_joinBlocks_5 : decode cX12_joinBlocks 5 = .ok (.aload_n 0, 1) := by decide +kernel
theorem dX12_joinBlocks_6 : decode cX12_joinBlocks 6 = .ok (.getfield 221, 3) := by decide +kernel
theorem dX12_joinBlocks_9 : decode cX12_joinBlocks 9 = .ok (.if_icmp .ge 84, 3) := by decide +kernel
theorem dX12_joinBlocks_12 : decode cX12_joinBlocks 12 = .ok (.aload_n 0, 1) := by decide +kernel
theorem dX12_joinBlocks_13 : decode cX12_joinBlocks 13 = .ok (.getfield 218, 3) := by decide +kernel
theorem dX12_joinBlocks_16 : decode cX12_joinBlocks 16 = .ok (.iload_n 1, 1) := by decide +kernel
theorem dX12_joinBlocks_17 : decode cX12_joinBlocks 17 = .ok (.iaload, 1) := by decide +kernel
theorem dX12_joinBlocks_18 : decode cX12_joinBlocks 18 = .ok (.ifCond .ne 30, 3) := by decide +kernel
theorem dX12_joinBlocks_21 : decode cX12_joinBlocks 21 = .ok (.aload_n 0, 1) := by decide +kernel
theorem dX12_joinBlocks_22 : decode cX12_joinBlocks 22 = .ok (.getfield 218, 3) := by decide +kernel
theorem dX12_joinBlocks_25 : decode cX12_joinBlocks 25 = .ok (.iload_n 2, 1) := by decide +kernel
theorem dX12_joinBlocks_26 : decode cX12_joinBlocks 26 = .ok (.iaload, 1) := by decide +kernel
theorem dX12_joinBlocks_27 : decode cX12_joinBlocks 27 = .ok (.ifCond .ne 21, 3) := by decide +kernel
theorem dX12_joinBlocks_30 : decode cX12_joinBlocks 30 = .ok (.aload_n 0, 1) := by decide +kernel
theorem dX12_joinBlocks_31 : decode cX12_joinBlocks 31 = .ok (.getfield 215, 3) := by decide +kernel
theorem dX12_joinBlocks_34 : decode cX12_joinBlocks 34 = .ok (.iload_n 1, 1) := by decide +kernel
theorem dX12_joinBlocks_35 : decode cX12_joinBlocks 35 = .ok (.dup2, 1) := by decide +kernel
theorem dX12_joinBlocks_36 : decode cX12_joinBlocks 36 = .ok (.iaload, 1) := by decide +kernel
theorem dX12_joinBlocks_37 : decode cX12_joinBlocks 37 = .ok (.aload_n 0, 1) := by decide +kernel
theorem dX12_joinBlocks_38 : decode cX12_joinBlocks 38 = .ok (.getfield 215, 3) := by decide +kernel
theorem dX12_joinBlocks_41 : decode cX12_joinBlocks 41 = .ok (.iload_n 2, 1) := by decide +kernel
theorem dX12_joinBlocks_42 : decode cX12_joinBlocks 42 = .ok (.iaload, 1) := by decide +kernel
theorem dX12_joinBlocks_43 : decode cX12_joinBlocks 43 = .ok (.iadd, 1) := by decide +kernel
theorem dX12_joinBlocks_44 : decode cX12_joinBlocks 44 = .ok (.iastore, 1) := by decide +kernel
theorem dX12_joinBlocks_45 : decode cX12_joinBlocks 45 = .ok (.goto 42, 3) := by decide +kernel
theorem dX12_joinBlocks_48 : decode cX12_joinBlocks 48 = .ok (.iinc 1 1, 3) := by decide +kernel
theorem dX12_joinBlocks_51 : decode cX12_joinBlocks 51 = .ok (.aload_n 0, 1) := by decide +kernel
theorem dX12_joinBlocks_52 : decode cX12_joinBlocks 52 = .ok (.getfield 212, 3) := by decide +kernel
theorem dX12_joinBlocks_55 : decode cX12_joinBlocks 55 = .ok (.iload_n 1, 1) := by decide +kernel
theorem dX12_joinBlocks_56 : decode cX12_joinBlocks 56 = .ok (.aload_n 0, 1) := by decide +kernel
theorem dX12_joinBlocks_57 : decode cX12_joinBlocks 57 = .ok (.getfield 212, 3) := by decide +kernel
theorem dX12_joinBlocks_60 : decode cX12_joinBlocks 60 = .ok (.iload_n 2, 1) := by decide +kernel
theorem dX12_joinBlocks_61 : decode cX12_joinBlocks 61 = .ok (.iaload, 1) := by decide +kernel
theorem dX12_joinBlocks_62 : decode cX12_joinBlocks 62 = .ok (.iastore, 1) := by decide +kernel
theorem dX12_joinBlocks_63 : decode cX12_joinBlocks 63 = .ok (.aload_n 0, 1) := by decide +kernel
theorem dX12_joinBlocks_64 : decode cX12_joinBlocks 64 = .ok (.getfield 215, 3) := by decide +kernel
theorem dX12_joinBlocks_67 : decode cX12_joinBlocks 67 = .ok (.iload_n 1, 1) := by decide +kernel
theorem dX12_joinBlocks_68 : decode cX12_joinBlocks 68 = .ok (.aload_n 0, 1) := by decide +kernel
theorem dX12_joinBlocks_69 : decode cX12_joinBlocks 69 = .ok (.getfield 215, 3) := by decide +kernel
theorem dX12_joinBlocks_72 : decode cX12_joinBlocks 72 = .ok (.iload_n 2, 1) := by decide +kernel
theorem dX12_joinBlocks_73 : decode cX12_joinBlocks 73 = .ok (.iaload, 1) := by decide +kernel
theorem dX12_joinBlocks_74 : decode cX12_joinBlocks 74 = .ok (.iastore, 1) := by decide +kernel
theorem dX12_joinBlocks_75 : decode cX12_joinBlocks 75 = .ok (.aload_n 0, 1) := by decide +kernel
theorem dX12_joinBlocks_76 : decode cX12_joinBlocks 76 = .ok (.getfield 218, 3) := by decide +kernel
theorem dX12_joinBlocks_79 : decode cX12_joinBlocks 79 = .ok (.iload_n 1, 1) := by decide +kernel
theorem dX12_joinBlocks_80 : decode cX12_joinBlocks 80 = .ok (.aload_n 0, 1) := by decide +kernel
theorem dX12_joinBlocks_81 : decode cX12_joinBlocks 81 = .ok (.getfield 218, 3) := by decide +kernel
theorem dX12_joinBlocks_84 : decode cX12_joinBlocks 84 = .ok (.iload_n 2, 1) := by decide +kernel
theorem dX12_joinBlocks_85 : decode cX12_joinBlocks 85 = .ok (.iaload, 1) := by decide +kernel
theorem dX12_joinBlocks_86 : decode cX12_joinBlocks 86 = .ok (.iastore, 1) := by decide +kernel
theorem dX12_joinBlocks_87 : decode cX12_joinBlocks 87 = .ok (.iinc 2 1, 3) := by decide +kernel
theorem dX12_joinBlocks_90 : decode cX12_joinBlocks 90 = .ok (.goto (-86), 3) := by decide +kernel
theorem dX12_joinBlocks_93 : decode cX12_joinBlocks 93 = .ok (.aload_n 0, 1) := by decide +kernel
theorem dX12_joinBlocks_94 : decode cX12_joinBlocks 94 = .ok (.iload_n 1, 1) := by decide +kernel
theorem dX12_joinBlocks_95 : decode cX12_joinBlocks 95 = .ok (.iconst 1, 1) := by decide +kernel
theorem dX12_joinBlocks_96 : decode cX12_joinBlocks 96 = .ok (.iadd, 1) := by decide +kernel
theorem dX12_joinBlocks_97 : decode cX12_joinBlocks 97 = .ok (.putfield 221, 3) := by decide +kernel
theorem dX12_joinBlocks_100 : decode cX12_joinBlocks 100 = .ok (.return_, 1) := by decide +kernel
theorem dX12_allocate_0 : decode cX12_allocate 0 = .ok (.iload_n 2, 1) := by decide +kernel
theorem dX12_allocate_1 : decode cX12_allocate 1 = .ok (.iconst 1, 1) := by decide +kernel
theorem dX12_allocate_2 : decode cX12_allocate 2 = .ok (.if_icmp .lt 10, 3) := by decide +kernel
theorem dX12_allocate_5 : decode cX12_allocate 5 = .ok (.iload_n 2, 1) := by decide +kernel
theorem dX12_allocate_6 : decode cX12_allocate 6 = .ok (.sipush 1024, 3) := by decide +kernel
theorem dX12_allocate_9 : decode cX12_allocate 9 = .ok (.if_icmp .le 5, 3) := by decide +kernel
theorem dX12_allocate_12 : decode cX12_allocate 12 = .ok (.iconst (-1), 1) := by decide +kernel
theorem dX12_allocate_13 : decode cX12_allocate 13 = .ok (.ireturn, 1) := by decide +kernel
theorem dX12_allocate_14 : decode cX12_allocate 14 = .ok (.iconst 0, 1) := by decide +kernel
theorem dX12_allocate_15 : decode cX12_allocate 15 = .ok (.istore_n 3, 1) := by decide +kernel
theorem dX12_allocate_16 : decode cX12_allocate 16 = .ok (.iload_n 3, 1) := by decide +kernel
theorem dX12_allocate_17 : decode cX12_allocate 17 = .ok (.aload_n 0, 1) := by decide +kernel
theorem dX12_allocate_18 : decode cX12_allocate 18 = .ok (.getfield 221, 3) := by decide +kernel
theorem dX12_allocate_21 : decode cX12_allocate 21 = .ok (.if_icmp .ge 28, 3) := by decide +kernel
theorem dX12_allocate_24 : decode cX12_allocate 24 = .ok (.aload_n 0, 1) := by decide +kernel
theorem dX12_allocate_25 : decode cX12_allocate 25 = .ok (.getfield 218, 3) := by decide +kernel
theorem dX12_allocate_28 : decode cX12_allocate 28 = .ok (.iload_n 3, 1) := by decide +kernel
theorem dX12_allocate_29 : decode cX12_allocate 29 = .ok (.iaload, 1) := by decide +kernel
theorem dX12_allocate_30 : decode cX12_allocate 30 = .ok (.ifCond .ne 13, 3) := by decide +kernel
theorem dX12_allocate_33 : decode cX12_allocate 33 = .ok (.aload_n 0, 1) := by decide +kernel
theorem dX12_allocate_34 : decode cX12_allocate 34 = .ok (.getfield 215, 3) := by decide +kernel
theorem dX12_allocate_37 : decode cX12_allocate 37 = .ok (.iload_n 3, 1) := by decide +kernel
theorem dX12_allocate_38 : decode cX12_allocate 38 = .ok (.iaload, 1) := by decide +kernel
theorem dX12_allocate_39 : decode cX12_allocate 39 = .ok (.iload_n 2, 1) := by decide +kernel
theorem dX12_allocate_40 : decode cX12_allocate 40 = .ok (.if_icmp .ge 9, 3) := by decide +kernel
theorem dX12_allocate_43 : decode cX12_allocate 43 = .ok (.iinc 3 1, 3) := by decide +kernel
theorem dX12_allocate_46 : decode cX12_allocate 46 = .ok (.goto (-30), 3) := by decide +kernel
theorem dX12_allocate_49 : decode cX12_allocate 49 = .ok (.iload_n 3, 1) := by decide +kernel
theorem dX12_allocate_50 : decode cX12_allocate 50 = .ok (.aload_n 0, 1) := by decide +kernel
theorem dX12_allocate_51 : decode cX12_allocate 51 = .ok (.getfield 221, 3) := by decide +kernel
theorem dX12_allocate_54 : decode cX12_allocate 54 = .ok (.if_icmp .ne 5, 3) := by decide +kernel
theorem dX12_allocate_57 : decode cX12_allocate 57 = .ok (.iconst (-1), 1) := by decide +kernel
theorem dX12_allocate_58 : decode cX12_allocate 58 = .ok (.ireturn, 1) := by decide +kernel
theorem dX12_allocate_59 : decode cX12_allocate 59 = .ok (.aload_n 0, 1) := by decide +kernel
theorem dX12_allocate_60 : decode cX12_allocate 60 = .ok (.getfield 215, 3) := by decide +kernel
theorem dX12_allocate_63 : decode cX12_allocate 63 = .ok (.iload_n 3, 1) := by decide +kernel
theorem dX12_allocate_64 : decode cX12_allocate 64 = .ok (.iaload, 1) := by decide +kernel
theorem dX12_allocate_65 : decode cX12_allocate 65 = .ok (.iload_n 2, 1) := by decide +kernel
theorem dX12_allocate_66 : decode cX12_allocate 66 = .ok (.if_icmp .le 129, 3) := by decide +kernel
theorem dX12_allocate_69 : decode cX12_allocate 69 = .ok (.aload_n 0, 1) := by decide +kernel
theorem dX12_allocate_70 : decode cX12_allocate 70 = .ok (.getfield 221, 3) := by decide +kernel
theorem dX12_allocate_73 : decode cX12_allocate 73 = .ok (.istore 4, 2) := by decide +kernel
theorem dX12_allocate_75 : decode cX12_allocate 75 = .ok (.iload 4, 2) := by decide +kernel
theorem dX12_allocate_77 : decode cX12_allocate 77 = .ok (.iload_n 3, 1) := by decide +kernel
theorem dX12_allocate_78 : decode cX12_allocate 78 = .ok (.iconst 1, 1) := by decide +kernel
theorem dX12_allocate_79 : decode cX12_allocate 79 = .ok (.iadd, 1) := by decide +kernel
theorem dX12_allocate_80 : decode cX12_allocate 80 = .ok (.if_icmp .le 57, 3) := by decide +kernel
theorem dX12_allocate_83 : decode cX12_allocate 83 = .ok (.aload_n 0, 1) := by decide +kernel
theorem dX12_allocate_84 : decode cX12_allocate 84 = .ok (.getfield 212, 3) := by decide +kernel
theorem dX12_allocate_87 : decode cX12_allocate 87 = .ok (.iload 4, 2) := by decide +kernel
theorem dX12_allocate_89 : decode cX12_allocate 89 = .ok (.aload_n 0, 1) := by decide +kernel
theorem dX12_allocate_90 : decode cX12_allocate 90 = .ok (.getfield 212, 3) := by decide +kernel
theorem dX12_allocate_93 : decode cX12_allocate 93 = .ok (.iload 4, 2) := by decide +kernel
theorem dX12_allocate_95 : decode cX12_allocate 95 = .ok (.iconst 1, 1) := by decide +kernel
theorem dX12_allocate_96 : decode cX12_allocate 96 = .ok (.isub, 1) := by decide +kernel
theorem dX12_allocate_97 : decode cX12_allocate 97 = .ok (.iaload, 1) := by decide +kernel
theorem dX12_allocate_98 : decode cX12_allocate 98 = .ok (.iastore, 1) := by decide +kernel
theorem dX12_allocate_99 : decode cX12_allocate 99 = .ok (.aload_n 0, 1) := by decide +kernel
theorem dX12_allocate_100 : decode cX12_allocate 100 = .ok (.getfield 215, 3) := by decide +kernel
theorem dX12_allocate_103 : decode cX12_allocate 103 = .ok (.iload 4, 2) := by decide +kernel
theorem dX12_allocate_105 : decode cX12_allocate 105 = .ok (.aload_n 0, 1) := by decide +kernel
theorem dX12_allocate_106 : decode cX12_allocate 106 = .ok (.getfield 215, 3) := by decide +kernel
theorem dX12_allocate_109 : decode cX12_allocate 109 = .ok (.iload 4, 2) := by decide +kernel
theorem dX12_allocate_111 : decode cX12_allocate 111 = .ok (.iconst 1, 1) := by decide +kernel
theorem dX12_allocate_112 : decode cX12_allocate 112 = .ok (.isub, 1) := by decide +kernel
theorem dX12_allocate_113 : decode cX12_allocate 113 = .ok (.iaload, 1) := by decide +kernel
theorem dX12_allocate_114 : decode cX12_allocate 114 = .ok (.iastore, 1) := by decide +kernel
theorem dX12_allocate_115 : decode cX12_allocate 115 = .ok (.aload_n 0, 1) := by decide +kernel
theorem dX12_allocate_116 : decode cX12_allocate 116 = .ok (.getfield 218, 3) := by decide +kernel
theorem dX12_allocate_119 : decode cX12_allocate 119 = .ok (.iload 4, 2) := by decide +kernel
theorem dX12_allocate_121 : decode cX12_allocate 121 = .ok (.aload_n 0, 1) := by decide +kernel
theorem dX12_allocate_122 : decode cX12_allocate 122 = .ok (.getfield 218, 3) := by decide +kernel
theorem dX12_allocate_125 : decode cX12_allocate 125 = .ok (.iload 4, 2) := by decide +kernel
theorem dX12_allocate_127 : decode cX12_allocate 127 = .ok (.iconst 1, 1) := by decide +kernel
theorem dX12_allocate_128 : decode cX12_allocate 128 = .ok (.isub, 1) := by decide +kernel
theorem dX12_allocate_129 : decode cX12_allocate 129 = .ok (.iaload, 1) := by decide +kernel
theorem dX12_allocate_130 : decode cX12_allocate 130 = .ok (.iastore, 1) := by decide +kernel
theorem dX12_allocate_131 : decode cX12_allocate 131 = .ok (.iinc 4 (-1), 3) := by decide +kernel
theorem dX12_allocate_134 : decode cX12_allocate 134 = .ok (.goto (-59), 3) := by decide +kernel
theorem dX12_allocate_137 : decode cX12_allocate 137 = .ok (.aload_n 0, 1) := by decide +kernel
theorem dX12_allocate_138 : decode cX12_allocate 138 = .ok (.dup, 1) := by decide +kernel
theorem dX12_allocate_139 : decode cX12_allocate 139 = .ok (.getfield 221, 3) := by decide +kernel
theorem dX12_allocate_142 : decode cX12_allocate 142 = .ok (.iconst 1, 1) := by decide +kernel
theorem dX12_allocate_143 : decode cX12_allocate 143 = .ok (.iadd, 1) := by decide +kernel
theorem dX12_allocate_144 : decode cX12_allocate 144 = .ok (.putfield 221, 3) := by decide +kernel
theorem dX12_allocate_147 : decode cX12_allocate 147 = .ok (.aload_n 0, 1) := by decide +kernel
theorem dX12_allocate_148 : decode cX12_allocate 148 = .ok (.getfield 212, 3) := by decide +kernel
theorem dX12_allocate_151 : decode cX12_allocate 151 = .ok (.iload_n 3, 1) := by decide +kernel
theorem dX12_allocate_152 : decode cX12_allocate 152 = .ok (.iconst 1, 1) := by decide +kernel
theorem dX12_allocate_153 : decode cX12_allocate 153 = .ok (.iadd, 1) := by decide +kernel
theorem dX12_allocate_154 : decode cX12_allocate 154 = .ok (.aload_n 0, 1) := by decide +kernel
theorem dX12_allocate_155 : decode cX12_allocate 155 = .ok (.getfield 212, 3) := by decide +kernel
theorem dX12_allocate_158 : decode cX12_allocate 158 = .ok (.iload_n 3, 1) := by decide +kernel
theorem dX12_allocate_159 : decode cX12_allocate 159 = .ok (.iaload, 1) := by decide +kernel
theorem dX12_allocate_160 : decode cX12_allocate 160 = .ok (.iload_n 2, 1) := by decide +kernel
theorem dX12_allocate_161 : decode cX12_allocate 161 = .ok (.iadd, 1) := by decide +kernel
theorem dX12_allocate_162 : decode cX12_allocate 162 = .ok (.iastore, 1) := by decide +kernel
theorem dX12_allocate_163 : decode cX12_allocate 163 = .ok (.aload_n 0, 1) := by decide +kernel
theorem dX12_allocate_164 : decode cX12_allocate 164 = .ok (.getfield 215, 3) := by decide +kernel
theorem dX12_allocate_167 : decode cX12_allocate 167 = .ok (.iload_n 3, 1) := by decide +kernel
theorem dX12_allocate_168 : decode cX12_allocate 168 = .ok (.iconst 1, 1) := by decide +kernel
theorem dX12_allocate_169 : decode cX12_allocate 169 = .ok (.iadd, 1) := by decide +kernel
theorem dX12_allocate_170 : decode cX12_allocate 170 = .ok (.aload_n 0, 1) := by decide +kernel
theorem dX12_allocate_171 : decode cX12_allocate 171 = .ok (.getfield 215, 3) := by decide +kernel
theorem dX12_allocate_174 : decode cX12_allocate 174 = .ok (.iload_n 3, 1) := by decide +kernel
theorem dX12_allocate_175 : decode cX12_allocate 175 = .ok (.iaload, 1) := by decide +kernel
theorem dX12_allocate_176 : decode cX12_allocate 176 = .ok (.iload_n 2, 1) := by decide +kernel
theorem dX12_allocate_177 : decode cX12_allocate 177 = .ok (.isub, 1) := by decide +kernel
theorem dX12_allocate_178 : decode cX12_allocate 178 = .ok (.iastore, 1) := by decide +kernel
theorem dX12_allocate_179 : decode cX12_allocate 179 = .ok (.aload_n 0, 1) := by decide +kernel
theorem dX12_allocate_180 : decode cX12_allocate 180 = .ok (.getfield 218, 3) := by decide +kernel
theorem dX12_allocate_183 : decode cX12_allocate 183 = .ok (.iload_n 3, 1) := by decide +kernel
theorem dX12_allocate_184 : decode cX12_allocate 184 = .ok (.iconst 1, 1) := by decide +kernel
theorem dX12_allocate_185 : decode cX12_allocate 185 = .ok (.iadd, 1) := by decide +kernel
theorem dX12_allocate_186 : decode cX12_allocate 186 = .ok (.iconst 0, 1) := by decide +kernel
theorem dX12_allocate_187 : decode cX12_allocate 187 = .ok (.iastore, 1) := by decide +kernel
theorem dX12_allocate_188 : decode cX12_allocate 188 = .ok (.aload_n 0, 1) := by decide +kernel
theorem dX12_allocate_189 : decode cX12_allocate 189 = .ok (.getfield 215, 3) := by decide +kernel
theorem dX12_allocate_192 : decode cX12_allocate 192 = .ok (.iload_n 3, 1) := by decide +kernel
theorem dX12_allocate_193 : decode cX12_allocate 193 = .ok (.iload_n 2, 1) := by decide +kernel
theorem dX12_allocate_194 : decode cX12_allocate 194 = .ok (.iastore, 1) := by decide +kernel
theorem dX12_allocate_195 : decode cX12_allocate 195 = .ok (.aload_n 0, 1) := by decide +kernel
theorem dX12_allocate_196 : decode cX12_allocate 196 = .ok (.getfield 218, 3) := by decide +kernel
theorem dX12_allocate_199 : decode cX12_allocate 199 = .ok (.iload_n 3, 1) := by decide +kernel
theorem dX12_allocate_200 : decode cX12_allocate 200 = .ok (.iload_n 1, 1) := by decide +kernel
theorem dX12_allocate_201 : decode cX12_allocate 201 = .ok (.iastore, 1) := by decide +kernel
theorem dX12_allocate_202 : decode cX12_allocate 202 = .ok (.iconst 0, 1) := by decide +kernel
theorem dX12_allocate_203 : decode cX12_allocate 203 = .ok (.istore 4, 2) := by decide +kernel
theorem dX12_allocate_205 : decode cX12_allocate 205 = .ok (.iload 4, 2) := by decide +kernel
theorem dX12_allocate_207 : decode cX12_allocate 207 = .ok (.iload_n 2, 1) := by decide +kernel
theorem dX12_allocate_208 : decode cX12_allocate 208 = .ok (.if_icmp .ge 24, 3) := by decide +kernel
theorem dX12_allocate_211 : decode cX12_allocate 211 = .ok (.aload_n 0, 1) := by decide +kernel
theorem dX12_allocate_212 : decode cX12_allocate 212 = .ok (.getfield 209, 3) := by decide +kernel
theorem dX12_allocate_215 : decode cX12_allocate 215 = .ok (.aload_n 0, 1) := by decide +kernel
theorem dX12_allocate_216 : decode cX12_allocate 216 = .ok (.getfield 212, 3) := by decide +kernel
theorem dX12_allocate_219 : decode cX12_allocate 219 = .ok (.iload_n 3, 1) := by decide +kernel
theorem dX12_allocate_220 : decode cX12_allocate 220 = .ok (.iaload, 1) := by decide +kernel
theorem dX12_allocate_221 : decode cX12_allocate 221 = .ok (.iload 4, 2) := by decide +kernel
theorem dX12_allocate_223 : decode cX12_allocate 223 = .ok (.iadd, 1) := by decide +kernel
theorem dX12_allocate_224 : decode cX12_allocate 224 = .ok (.iconst 0, 1) := by decide +kernel
theorem dX12_allocate_225 : decode cX12_allocate 225 = .ok (.iastore, 1) := by decide +kernel
theorem dX12_allocate_226 : decode cX12_allocate 226 = .ok (.iinc 4 1, 3) := by decide +kernel
theorem dX12_allocate_229 : decode cX12_allocate 229 = .ok (.goto (-24), 3) := by decide +kernel
theorem dX12_allocate_232 : decode cX12_allocate 232 = .ok (.aload_n 0, 1) := by decide +kernel
theorem dX12_allocate_233 : decode cX12_allocate 233 = .ok (.getfield 212, 3) := by decide +kernel
theorem dX12_allocate_236 : decode cX12_allocate 236 = .ok (.iload_n 3, 1) := by decide +kernel
theorem dX12_allocate_237 : decode cX12_allocate 237 = .ok (.iaload, 1) := by decide +kernel
theorem dX12_allocate_238 : decode cX12_allocate 238 = .ok (.ireturn, 1) := by decide +kernel
theorem dX12_blockFrom_0 : decode cX12_blockFrom 0 = .ok (.iconst (-1), 1) := by decide +kernel
theorem dX12_blockFrom_1 : decode cX12_blockFrom 1 = .ok (.istore_n 3, 1) := by decide +kernel
theorem dX12_blockFrom_2 : decode cX12_blockFrom 2 = .ok (.iconst 0, 1) := by decide +kernel
theorem dX12_blockFrom_3 : decode cX12_blockFrom 3 = .ok (.istore 4, 2) := by decide +kernel
theorem dX12_blockFrom_5 : decode cX12_blockFrom 5 = .ok (.iload 4, 2) := by decide +kernel
theorem dX12_blockFrom_7 : decode cX12_blockFrom 7 = .ok (.aload_n 0, 1) := by decide +kernel
theorem dX12_blockFrom_8 : decode cX12_blockFrom 8 = .ok (.getfield 221, 3) := by decide +kernel
theorem dX12_blockFrom_11 : decode cX12_blockFrom 11 = .ok (.if_icmp .ge 38, 3) := by decide +kernel
theorem dX12_blockFrom_14 : decode cX12_blockFrom 14 = .ok (.aload_n 0, 1) := by decide +kernel
theorem dX12_blockFrom_15 : decode cX12_blockFrom 15 = .ok (.getfield 218, 3) := by decide +kernel
theorem dX12_blockFrom_18 : decode cX12_blockFrom 18 = .ok (.iload 4, 2) := by decide +kernel
theorem dX12_blockFrom_20 : decode cX12_blockFrom 20 = .ok (.iaload, 1) := by decide +kernel
theorem dX12_blockFrom_21 : decode cX12_blockFrom 21 = .ok (.iload_n 1, 1) := by decide +kernel
theorem dX12_blockFrom_22 : decode cX12_blockFrom 22 = .ok (.if_icmp .ne 19, 3) := by decide +kernel
theorem dX12_blockFrom_25 : decode cX12_blockFrom 25 = .ok (.aload_n 0, 1) := by decide +kernel
theorem dX12_blockFrom_26 : decode cX12_blockFrom 26 = .ok (.getfield 212, 3) := by decide +kernel
theorem dX12_blockFrom_29 : decode cX12_blockFrom 29 = .ok (.iload 4, 2) := by decide +kernel
theorem dX12_blockFrom_31 : decode cX12_blockFrom 31 = .ok (.iaload, 1) := by decide +kernel
theorem dX12_blockFrom_32 : decode cX12_blockFrom 32 = .ok (.iload_n 2, 1) := by decide +kernel
theorem dX12_blockFrom_33 : decode cX12_blockFrom 33 = .ok (.if_icmp .ne 8, 3) := by decide +kernel
theorem dX12_blockFrom_36 : decode cX12_blockFrom 36 = .ok (.iload 4, 2) := by decide +kernel
theorem dX12_blockFrom_38 : decode cX12_blockFrom 38 = .ok (.goto 4, 3) := by decide +kernel
theorem dX12_blockFrom_41 : decode cX12_blockFrom 41 = .ok (.iload_n 3, 1) := by decide +kernel
theorem dX12_blockFrom_42 : decode cX12_blockFrom 42 = .ok (.istore_n 3, 1) := by decide +kernel
theorem dX12_blockFrom_43 : decode cX12_blockFrom 43 = .ok (.iinc 4 1, 3) := by decide +kernel
theorem dX12_blockFrom_46 : decode cX12_blockFrom 46 = .ok (.goto (-41), 3) := by decide +kernel
theorem dX12_blockFrom_49 : decode cX12_blockFrom 49 = .ok (.iload_n 3, 1) := by decide +kernel
theorem dX12_blockFrom_50 : decode cX12_blockFrom 50 = .ok (.ireturn, 1) := by decide +kernel
theorem dX12_holds_0 : decode cX12_holds 0 = .ok (.iconst 0, 1) := by decide +kernel
theorem dX12_holds_1 : decode cX12_holds 1 = .ok (.istore_n 3, 1) := by decide +kernel
theorem dX12_holds_2 : decode cX12_holds 2 = .ok (.iconst 0, 1) := by decide +kernel
theorem dX12_holds_3 : decode cX12_holds 3 = .ok (.istore 4, 2) := by decide +kernel
theorem dX12_holds_5 : decode cX12_holds 5 = .ok (.iload 4, 2) := by decide +kernel
theorem dX12_holds_7 : decode cX12_holds 7 = .ok (.aload_n 0, 1) := by decide +kernel
theorem dX12_holds_8 : decode cX12_holds 8 = .ok (.getfield 221, 3) := by decide +kernel
theorem dX12_holds_11 : decode cX12_holds 11 = .ok (.if_icmp .ge 60, 3) := by decide +kernel
theorem dX12_holds_14 : decode cX12_holds 14 = .ok (.iload_n 3, 1) := by decide +kernel
theorem dX12_holds_15 : decode cX12_holds 15 = .ok (.ifCond .ne 44, 3) := by decide +kernel
theorem dX12_holds_18 : decode cX12_holds 18 = .ok (.aload_n 0, 1) := by decide +kernel
theorem dX12_holds_19 : decode cX12_holds 19 = .ok (.getfield 218, 3) := by decide +kernel
theorem dX12_holds_22 : decode cX12_holds 22 = .ok (.iload 4, 2) := by decide +kernel
theorem dX12_holds_24 : decode cX12_holds 24 = .ok (.iaload, 1) := by decide +kernel
theorem dX12_holds_25 : decode cX12_holds 25 = .ok (.iload_n 1, 1) := by decide +kernel
theorem dX12_holds_26 : decode cX12_holds 26 = .ok (.if_icmp .ne 37, 3) := by decide +kernel
theorem dX12_holds_29 : decode cX12_holds 29 = .ok (.iload_n 2, 1) := by decide +kernel
theorem dX12_holds_30 : decode cX12_holds 30 = .ok (.aload_n 0, 1) := by decide +kernel
theorem dX12_holds_31 : decode cX12_holds 31 = .ok (.getfield 212, 3) := by decide +kernel
theorem dX12_holds_34 : decode cX12_holds 34 = .ok (.iload 4, 2) := by decide +kernel
theorem dX12_holds_36 : decode cX12_holds 36 = .ok (.iaload, 1) := by decide +kernel
theorem dX12_holds_37 : decode cX12_holds 37 = .ok (.if_icmp .lt 26, 3) := by decide +kernel
theorem dX12_holds_40 : decode cX12_holds 40 = .ok (.iload_n 2, 1) := by decide +kernel
theorem dX12_holds_41 : decode cX12_holds 41 = .ok (.aload_n 0, 1) := by decide +kernel
theorem dX12_holds_42 : decode cX12_holds 42 = .ok (.getfield 212, 3) := by decide +kernel
theorem dX12_holds_45 : decode cX12_holds 45 = .ok (.iload 4, 2) := by decide +kernel
theorem dX12_holds_47 : decode cX12_holds 47 = .ok (.iaload, 1) := by decide +kernel
theorem dX12_holds_48 : decode cX12_holds 48 = .ok (.isub, 1) := by decide +kernel
theorem dX12_holds_49 : decode cX12_holds 49 = .ok (.aload_n 0, 1) := by decide +kernel
theorem dX12_holds_50 : decode cX12_holds 50 = .ok (.getfield 215, 3) := by decide +kernel
theorem dX12_holds_53 : decode cX12_holds 53 = .ok (.iload 4, 2) := by decide +kernel
theorem dX12_holds_55 : decode cX12_holds 55 = .ok (.iaload, 1) := by decide +kernel
theorem dX12_holds_56 : decode cX12_holds 56 = .ok (.if_icmp .ge 7, 3) := by decide +kernel
theorem dX12_holds_59 : decode cX12_holds 59 = .ok (.iconst 1, 1) := by decide +kernel
theorem dX12_holds_60 : decode cX12_holds 60 = .ok (.goto 4, 3) := by decide +kernel
theorem dX12_holds_63 : decode cX12_holds 63 = .ok (.iconst 0, 1) := by decide +kernel
theorem dX12_holds_64 : decode cX12_holds 64 = .ok (.istore_n 3, 1) := by decide +kernel
theorem dX12_holds_65 : decode cX12_holds 65 = .ok (.iinc 4 1, 3) := by decide +kernel
theorem dX12_holds_68 : decode cX12_holds 68 = .ok (.goto (-63), 3) := by decide +kernel
theorem dX12_holds_71 : decode cX12_holds 71 = .ok (.iload_n 3, 1) := by decide +kernel
theorem dX12_holds_72 : decode cX12_holds 72 = .ok (.ireturn, 1) := by decide +kernel
theorem dX12_top_0 : decode cX12_top 0 = .ok (.aload_n 0, 1) := by decide +kernel
theorem dX12_top_1 : decode cX12_top 1 = .ok (.getfield 158, 3) := by decide +kernel
theorem dX12_top_4 : decode cX12_top 4 = .ok (.bipush 40, 2) := by decide +kernel
theorem dX12_top_6 : decode cX12_top 6 = .ok (.iload_n 1, 1) := by decide +kernel
theorem dX12_top_7 : decode cX12_top 7 = .ok (.imul, 1) := by decide +kernel
theorem dX12_top_8 : decode cX12_top 8 = .ok (.aload_n 0, 1) := by decide +kernel
theorem dX12_top_9 : decode cX12_top 9 = .ok (.getfield 155, 3) := by decide +kernel
theorem dX12_top_12 : decode cX12_top 12 = .ok (.iload_n 1, 1) := by decide +kernel
theorem dX12_top_13 : decode cX12_top 13 = .ok (.iaload, 1) := by decide +kernel
theorem dX12_top_14 : decode cX12_top 14 = .ok (.iadd, 1) := by decide +kernel
theorem dX12_top_15 : decode cX12_top 15 = .ok (.iconst 1, 1) := by decide +kernel
theorem dX12_top_16 : decode cX12_top 16 = .ok (.isub, 1) := by decide +kernel
theorem dX12_top_17 : decode cX12_top 17 = .ok (.iload_n 2, 1) := by decide +kernel
theorem dX12_top_18 : decode cX12_top 18 = .ok (.isub, 1) := by decide +kernel
theorem dX12_top_19 : decode cX12_top 19 = .ok (.iaload, 1) := by decide +kernel
theorem dX12_top_20 : decode cX12_top 20 = .ok (.ireturn, 1) := by decide +kernel
theorem dX12_setTop_0 : decode cX12_setTop 0 = .ok (.aload_n 0, 1) := by decide +kernel
theorem dX12_setTop_1 : decode cX12_setTop 1 = .ok (.getfield 158, 3) := by decide +kernel
theorem dX12_setTop_4 : decode cX12_setTop 4 = .ok (.bipush 40, 2) := by decide +kernel
theorem dX12_setTop_6 : decode cX12_setTop 6 = .ok (.iload_n 1, 1) := by decide +kernel
theorem dX12_setTop_7 : decode cX12_setTop 7 = .ok (.imul, 1) := by decide +kernel
theorem dX12_setTop_8 : decode cX12_setTop 8 = .ok (.aload_n 0, 1) := by decide +kernel
theorem dX12_setTop_9 : decode cX12_setTop 9 = .ok (.getfield 155, 3) := by decide +kernel
theorem dX12_setTop_12 : decode cX12_setTop 12 = .ok (.iload_n 1, 1) := by decide +kernel
theorem dX12_setTop_13 : decode cX12_setTop 13 = .ok (.iaload, 1) := by decide +kernel
theorem dX12_setTop_14 : decode cX12_setTop 14 = .ok (.iadd, 1) := by decide +kernel
theorem dX12_setTop_15 : decode cX12_setTop 15 = .ok (.iconst 1, 1) := by decide +kernel
theorem dX12_setTop_16 : decode cX12_setTop 16 = .ok (.isub, 1) := by decide +kernel
theorem dX12_setTop_17 : decode cX12_setTop 17 = .ok (.iload_n 2, 1) := by decide +kernel
theorem dX12_setTop_18 : decode cX12_setTop 18 = .ok (.isub, 1) := by decide +kernel
theorem dX12_setTop_19 : decode cX12_setTop 19 = .ok (.iload_n 3, 1) := by decide +kernel
theorem dX12_setTop_20 : decode cX12_setTop 20 = .ok (.iastore, 1) := by decide +kernel
theorem dX12_setTop_21 : decode cX12_setTop 21 = .ok (.return_, 1) := by decide +kernel
theorem dX12_push_0 : decode cX12_push 0 = .ok (.aload_n 0, 1) := by decide +kernel
theorem dX12_push_1 : decode cX12_push 1 = .ok (.getfield 158, 3) := by decide +kernel
theorem dX12_push_4 : decode cX12_push 4 = .ok (.bipush 40, 2) := by decide +kernel
theorem dX12_push_6 : decode cX12_push 6 = .ok (.iload_n 1, 1) := by decide +kernel
theorem dX12_push_7 : decode cX12_push 7 = .ok (.imul, 1) := by decide +kernel
theorem dX12_push_8 : decode cX12_push 8 = .ok (.aload_n 0, 1) := by decide +kernel
theorem dX12_push_9 : decode cX12_push 9 = .ok (.getfield 155, 3) := by decide +kernel
theorem dX12_push_12 : decode cX12_push 12 = .ok (.iload_n 1, 1) := by decide +kernel
theorem dX12_push_13 : decode cX12_push 13 = .ok (.iaload, 1) := by decide +kernel
theorem dX12_push_14 : decode cX12_push 14 = .ok (.iadd, 1) := by decide +kernel
theorem dX12_push_15 : decode cX12_push 15 = .ok (.iload_n 2, 1) := by decide +kernel
theorem dX12_push_16 : decode cX12_push 16 = .ok (.iastore, 1) := by decide +kernel
theorem dX12_push_17 : decode cX12_push 17 = .ok (.aload_n 0, 1) := by decide +kernel
theorem dX12_push_18 : decode cX12_push 18 = .ok (.getfield 155, 3) := by decide +kernel
theorem dX12_push_21 : decode cX12_push 21 = .ok (.iload_n 1, 1) := by decide +kernel
theorem dX12_push_22 : decode cX12_push 22 = .ok (.dup2, 1) := by decide +kernel
theorem dX12_push_23 : decode cX12_push 23 = .ok (.iaload, 1) := by decide +kernel
theorem dX12_push_24 : decode cX12_push 24 = .ok (.iconst 1, 1) := by decide +kernel
theorem dX12_push_25 : decode cX12_push 25 = .ok (.iadd, 1) := by decide +kernel
theorem dX12_push_26 : decode cX12_push 26 = .ok (.iastore, 1) := by decide +kernel
theorem dX12_push_27 : decode cX12_push 27 = .ok (.return_, 1) := by decide +kernel
theorem dX12_done_0 : decode cX12_done 0 = .ok (.aload_n 0, 1) := by decide +kernel
theorem dX12_done_1 : decode cX12_done 1 = .ok (.getfield 152, 3) := by decide +kernel
theorem dX12_done_4 : decode cX12_done 4 = .ok (.iload_n 1, 1) := by decide +kernel
theorem dX12_done_5 : decode cX12_done 5 = .ok (.dup2, 1) := by decide +kernel
theorem dX12_done_6 : decode cX12_done 6 = .ok (.iaload, 1) := by decide +kernel
theorem dX12_done_7 : decode cX12_done 7 = .ok (.iconst 1, 1) := by decide +kernel
theorem dX12_done_8 : decode cX12_done 8 = .ok (.iadd, 1) := by decide +kernel
theorem dX12_done_9 : decode cX12_done 9 = .ok (.iastore, 1) := by decide +kernel
theorem dX12_done_10 : decode cX12_done 10 = .ok (.aload_n 0, 1) := by decide +kernel
theorem dX12_done_11 : decode cX12_done 11 = .ok (.getfield 182, 3) := by decide +kernel
theorem dX12_done_14 : decode cX12_done 14 = .ok (.iload_n 1, 1) := by decide +kernel
theorem dX12_done_15 : decode cX12_done 15 = .ok (.dup2, 1) := by decide +kernel
theorem dX12_done_16 : decode cX12_done 16 = .ok (.iaload, 1) := by decide +kernel
theorem dX12_done_17 : decode cX12_done 17 = .ok (.iconst 1, 1) := by decide +kernel
theorem dX12_done_18 : decode cX12_done 18 = .ok (.iadd, 1) := by decide +kernel
theorem dX12_done_19 : decode cX12_done 19 = .ok (.iastore, 1) := by decide +kernel
theorem dX12_done_20 : decode cX12_done 20 = .ok (.return_, 1) := by decide +kernel
theorem dX12_fits_0 : decode cX12_fits 0 = .ok (.aload_n 0, 1) := by decide +kernel
theorem dX12_fits_1 : decode cX12_fits 1 = .ok (.getfield 155, 3) := by decide +kernel
theorem dX12_fits_4 : decode cX12_fits 4 = .ok (.iload_n 1, 1) := by decide +kernel
theorem dX12_fits_5 : decode cX12_fits 5 = .ok (.iaload, 1) := by decide +kernel
theorem dX12_fits_6 : decode cX12_fits 6 = .ok (.iload_n 2, 1) := by decide +kernel
theorem dX12_fits_7 : decode cX12_fits 7 = .ok (.iadd, 1) := by decide +kernel
theorem dX12_fits_8 : decode cX12_fits 8 = .ok (.bipush 40, 2) := by decide +kernel
theorem dX12_fits_10 : decode cX12_fits 10 = .ok (.if_icmp .gt 5, 3) := by decide +kernel
theorem dX12_fits_13 : decode cX12_fits 13 = .ok (.iconst 1, 1) := by decide +kernel
theorem dX12_fits_14 : decode cX12_fits 14 = .ok (.ireturn, 1) := by decide +kernel
theorem dX12_fits_15 : decode cX12_fits 15 = .ok (.aload_n 0, 1) := by decide +kernel
theorem dX12_fits_16 : decode cX12_fits 16 = .ok (.iload_n 1, 1) := by decide +kernel
theorem dX12_fits_17 : decode cX12_fits 17 = .ok (.bipush (-3), 2) := by decide +kernel
theorem dX12_fits_19 : decode cX12_fits 19 = .ok (.invokevirtual 330, 3) := by decide +kernel
theorem dX12_fits_22 : decode cX12_fits 22 = .ok (.iconst 0, 1) := by decide +kernel
theorem dX12_fits_23 : decode cX12_fits 23 = .ok (.ireturn, 1) := by decide +kernel
theorem dX12_result_0 : decode cX12_result 0 = .ok (.aload_n 0, 1) := by decide +kernel
theorem dX12_result_1 : decode cX12_result 1 = .ok (.getfield 155, 3) := by decide +kernel
theorem dX12_result_4 : decode cX12_result 4 = .ok (.iload_n 1, 1) := by decide +kernel
theorem dX12_result_5 : decode cX12_result 5 = .ok (.dup2, 1) := by decide +kernel
theorem dX12_result_6 : decode cX12_result 6 = .ok (.iaload, 1) := by decide +kernel
theorem dX12_result_7 : decode cX12_result 7 = .ok (.iload_n 2, 1) := by decide +kernel
theorem dX12_result_8 : decode cX12_result 8 = .ok (.isub, 1) := by decide +kernel
theorem dX12_result_9 : decode cX12_result 9 = .ok (.iastore, 1) := by decide +kernel
theorem dX12_result_10 : decode cX12_result 10 = .ok (.aload_n 0, 1) := by decide +kernel
theorem dX12_result_11 : decode cX12_result 11 = .ok (.iload_n 1, 1) := by decide +kernel
theorem dX12_result_12 : decode cX12_result 12 = .ok (.iload_n 3, 1) := by decide +kernel
theorem dX12_result_13 : decode cX12_result 13 = .ok (.invokevirtual 333, 3) := by decide +kernel
theorem dX12_result_16 : decode cX12_result 16 = .ok (.aload_n 0, 1) := by decide +kernel
theorem dX12_result_17 : decode cX12_result 17 = .ok (.iload_n 1, 1) := by decide +kernel
theorem dX12_result_18 : decode cX12_result 18 = .ok (.invokevirtual 336, 3) := by decide +kernel
theorem dX12_result_21 : decode cX12_result 21 = .ok (.return_, 1) := by decide +kernel
theorem dX12_reckoned_0 : decode cX12_reckoned 0 = .ok (.iload_n 0, 1) := by decide +kernel
theorem dX12_reckoned_1 : decode cX12_reckoned 1 = .ok (.tableswitch 135 6 18 #[67, 71, 75, 79, 83, 87, 91, 95, 135, 99, 106, 113, 124], 67) := by decide +kernel
theorem dX12_reckoned_68 : decode cX12_reckoned 68 = .ok (.iload_n 1, 1) := by decide +kernel
theorem dX12_reckoned_69 : decode cX12_reckoned 69 = .ok (.iload_n 2, 1) := by decide +kernel
theorem dX12_reckoned_70 : decode cX12_reckoned 70 = .ok (.iadd, 1) := by decide +kernel
theorem dX12_reckoned_71 : decode cX12_reckoned 71 = .ok (.ireturn, 1) := by decide +kernel
theorem dX12_reckoned_72 : decode cX12_reckoned 72 = .ok (.iload_n 1, 1) := by decide +kernel
theorem dX12_reckoned_73 : decode cX12_reckoned 73 = .ok (.iload_n 2, 1) := by decide +kernel
theorem dX12_reckoned_74 : decode cX12_reckoned 74 = .ok (.isub, 1) := by decide +kernel
theorem dX12_reckoned_75 : decode cX12_reckoned 75 = .ok (.ireturn, 1) := by decide +kernel
theorem dX12_reckoned_76 : decode cX12_reckoned 76 = .ok (.iload_n 1, 1) := by decide +kernel
theorem dX12_reckoned_77 : decode cX12_reckoned 77 = .ok (.iload_n 2, 1) := by decide +kernel
theorem dX12_reckoned_78 : decode cX12_reckoned 78 = .ok (.imul, 1) := by decide +kernel
theorem dX12_reckoned_79 : decode cX12_reckoned 79 = .ok (.ireturn, 1) := by decide +kernel
theorem dX12_reckoned_80 : decode cX12_reckoned 80 = .ok (.iload_n 1, 1) := by decide +kernel
theorem dX12_reckoned_81 : decode cX12_reckoned 81 = .ok (.iload_n 2, 1) := by decide +kernel
theorem dX12_reckoned_82 : decode cX12_reckoned 82 = .ok (.idiv, 1) := by decide +kernel
theorem dX12_reckoned_83 : decode cX12_reckoned 83 = .ok (.ireturn, 1) := by decide +kernel
theorem dX12_reckoned_84 : decode cX12_reckoned 84 = .ok (.iload_n 1, 1) := by decide +kernel
theorem dX12_reckoned_85 : decode cX12_reckoned 85 = .ok (.iload_n 2, 1) := by decide +kernel
theorem dX12_reckoned_86 : decode cX12_reckoned 86 = .ok (.irem, 1) := by decide +kernel
theorem dX12_reckoned_87 : decode cX12_reckoned 87 = .ok (.ireturn, 1) := by decide +kernel
theorem dX12_reckoned_88 : decode cX12_reckoned 88 = .ok (.iload_n 1, 1) := by decide +kernel
theorem dX12_reckoned_89 : decode cX12_reckoned 89 = .ok (.iload_n 2, 1) := by decide +kernel
theorem dX12_reckoned_90 : decode cX12_reckoned 90 = .ok (.iand, 1) := by decide +kernel
theorem dX12_reckoned_91 : decode cX12_reckoned 91 = .ok (.ireturn, 1) := by decide +kernel
theorem dX12_reckoned_92 : decode cX12_reckoned 92 = .ok (.iload_n 1, 1) := by decide +kernel
theorem dX12_reckoned_93 : decode cX12_reckoned 93 = .ok (.iload_n 2, 1) := by decide +kernel
theorem dX12_reckoned_94 : decode cX12_reckoned 94 = .ok (.ior, 1) := by decide +kernel
theorem dX12_reckoned_95 : decode cX12_reckoned 95 = .ok (.ireturn, 1) := by decide +kernel
theorem dX12_reckoned_96 : decode cX12_reckoned 96 = .ok (.iload_n 1, 1) := by decide +kernel
theorem dX12_reckoned_97 : decode cX12_reckoned 97 = .ok (.iload_n 2, 1) := by decide +kernel
theorem dX12_reckoned_98 : decode cX12_reckoned 98 = .ok (.ixor, 1) := by decide +kernel
theorem dX12_reckoned_99 : decode cX12_reckoned 99 = .ok (.ireturn, 1) := by decide +kernel
theorem dX12_reckoned_100 : decode cX12_reckoned 100 = .ok (.iload_n 1, 1) := by decide +kernel
theorem dX12_reckoned_101 : decode cX12_reckoned 101 = .ok (.iload_n 2, 1) := by decide +kernel
theorem dX12_reckoned_102 : decode cX12_reckoned 102 = .ok (.bipush 31, 2) := by decide +kernel
theorem dX12_reckoned_104 : decode cX12_reckoned 104 = .ok (.iand, 1) := by decide +kernel
theorem dX12_reckoned_105 : decode cX12_reckoned 105 = .ok (.ishl, 1) := by decide +kernel
theorem dX12_reckoned_106 : decode cX12_reckoned 106 = .ok (.ireturn, 1) := by decide +kernel
theorem dX12_reckoned_107 : decode cX12_reckoned 107 = .ok (.iload_n 1, 1) := by decide +kernel
theorem dX12_reckoned_108 : decode cX12_reckoned 108 = .ok (.iload_n 2, 1) := by decide +kernel
theorem dX12_reckoned_109 : decode cX12_reckoned 109 = .ok (.bipush 31, 2) := by decide +kernel
theorem dX12_reckoned_111 : decode cX12_reckoned 111 = .ok (.iand, 1) := by decide +kernel
theorem dX12_reckoned_112 : decode cX12_reckoned 112 = .ok (.ishr, 1) := by decide +kernel
theorem dX12_reckoned_113 : decode cX12_reckoned 113 = .ok (.ireturn, 1) := by decide +kernel
theorem dX12_reckoned_114 : decode cX12_reckoned 114 = .ok (.iload_n 1, 1) := by decide +kernel
theorem dX12_reckoned_115 : decode cX12_reckoned 115 = .ok (.iload_n 2, 1) := by decide +kernel
theorem dX12_reckoned_116 : decode cX12_reckoned 116 = .ok (.if_icmp .ne 7, 3) := by decide +kernel
theorem dX12_reckoned_119 : decode cX12_reckoned 119 = .ok (.iconst 1, 1) := by decide +kernel
theorem dX12_reckoned_120 : decode cX12_reckoned 120 = .ok (.goto 4, 3) := by decide +kernel
theorem dX12_reckoned_123 : decode cX12_reckoned 123 = .ok (.iconst 0, 1) := by decide +kernel
theorem dX12_reckoned_124 : decode cX12_reckoned 124 = .ok (.ireturn, 1) := by decide +kernel
theorem dX12_reckoned_125 : decode cX12_reckoned 125 = .ok (.iload_n 1, 1) := by decide +kernel
theorem dX12_reckoned_126 : decode cX12_reckoned 126 = .ok (.iload_n 2, 1) := by decide +kernel
theorem dX12_reckoned_127 : decode cX12_reckoned 127 = .ok (.if_icmp .ge 7, 3) := by decide +kernel
theorem dX12_reckoned_130 : decode cX12_reckoned 130 = .ok (.iconst 1, 1) := by decide +kernel
theorem dX12_reckoned_131 : decode cX12_reckoned 131 = .ok (.goto 4, 3) := by decide +kernel
theorem dX12_reckoned_134 : decode cX12_reckoned 134 = .ok (.iconst 0, 1) := by decide +kernel
theorem dX12_reckoned_135 : decode cX12_reckoned 135 = .ok (.ireturn, 1) := by decide +kernel
theorem dX12_reckoned_136 : decode cX12_reckoned 136 = .ok (.iload_n 1, 1) := by decide +kernel
theorem dX12_reckoned_137 : decode cX12_reckoned 137 = .ok (.iload_n 2, 1) := by decide +kernel
theorem dX12_reckoned_138 : decode cX12_reckoned 138 = .ok (.if_icmp .le 7, 3) := by decide +kernel
theorem dX12_reckoned_141 : decode cX12_reckoned 141 = .ok (.iconst 1, 1) := by decide +kernel
theorem dX12_reckoned_142 : decode cX12_reckoned 142 = .ok (.goto 4, 3) := by decide +kernel
theorem dX12_reckoned_145 : decode cX12_reckoned 145 = .ok (.iconst 0, 1) := by decide +kernel
theorem dX12_reckoned_146 : decode cX12_reckoned 146 = .ok (.ireturn, 1) := by decide +kernel
theorem dX12_plain_0 : decode cX12_plain 0 = .ok (.iload_n 2, 1) := by decide +kernel
theorem dX12_plain_1 : decode cX12_plain 1 = .ok (.ifCond .ne 7, 3) := by decide +kernel
theorem dX12_plain_4 : decode cX12_plain 4 = .ok (.iconst 0, 1) := by decide +kernel
theorem dX12_plain_5 : decode cX12_plain 5 = .ok (.goto 9, 3) := by decide +kernel
theorem dX12_plain_8 : decode cX12_plain 8 = .ok (.aload_n 0, 1) := by decide +kernel
theorem dX12_plain_9 : decode cX12_plain 9 = .ok (.iload_n 1, 1) := by decide +kernel
theorem dX12_plain_10 : decode cX12_plain 10 = .ok (.iconst 0, 1) := by decide +kernel
theorem dX12_plain_11 : decode cX12_plain 11 = .ok (.invokevirtual 339, 3) := by decide +kernel
theorem dX12_plain_14 : decode cX12_plain 14 = .ok (.istore_n 3, 1) := by decide +kernel
theorem dX12_plain_15 : decode cX12_plain 15 = .ok (.iload_n 2, 1) := by decide +kernel
theorem dX12_plain_16 : decode cX12_plain 16 = .ok (.tableswitch 219 1 14 #[72, 91, 109, 140, 164, 219, 219, 219, 219, 219, 219, 219, 219, 207], 72) := by decide +kernel
theorem dX12_plain_88 : decode cX12_plain 88 = .ok (.aload_n 0, 1) := by decide +kernel
theorem dX12_plain_89 : decode cX12_plain 89 = .ok (.iload_n 1, 1) := by decide +kernel
theorem dX12_plain_90 : decode cX12_plain 90 = .ok (.iconst 1, 1) := by decide +kernel
theorem dX12_plain_91 : decode cX12_plain 91 = .ok (.invokevirtual 342, 3) := by decide +kernel
theorem dX12_plain_94 : decode cX12_plain 94 = .ok (.ifCond .eq 184, 3) := by decide +kernel
theorem dX12_plain_97 : decode cX12_plain 97 = .ok (.aload_n 0, 1) := by decide +kernel
theorem dX12_plain_98 : decode cX12_plain 98 = .ok (.iload_n 1, 1) := by decide +kernel
theorem dX12_plain_99 : decode cX12_plain 99 = .ok (.iconst 0, 1) := by decide +kernel
theorem dX12_plain_100 : decode cX12_plain 100 = .ok (.iload_n 3, 1) := by decide +kernel
theorem dX12_plain_101 : decode cX12_plain 101 = .ok (.invokevirtual 345, 3) := by decide +kernel
theorem dX12_plain_104 : decode cX12_plain 104 = .ok (.goto 174, 3) := by decide +kernel
theorem dX12_plain_107 : decode cX12_plain 107 = .ok (.aload_n 0, 1) := by decide +kernel
theorem dX12_plain_108 : decode cX12_plain 108 = .ok (.getfield 155, 3) := by decide +kernel
theorem dX12_plain_111 : decode cX12_plain 111 = .ok (.iload_n 1, 1) := by decide +kernel
theorem dX12_plain_112 : decode cX12_plain 112 = .ok (.dup2, 1) := by decide +kernel
theorem dX12_plain_113 : decode cX12_plain 113 = .ok (.iaload, 1) := by decide +kernel
theorem dX12_plain_114 : decode cX12_plain 114 = .ok (.iconst 1, 1) := by decide +kernel
theorem dX12_plain_115 : decode cX12_plain 115 = .ok (.isub, 1) := by decide +kernel
theorem dX12_plain_116 : decode cX12_plain 116 = .ok (.iastore, 1) := by decide +kernel
theorem dX12_plain_117 : decode cX12_plain 117 = .ok (.aload_n 0, 1) := by decide +kernel
theorem dX12_plain_118 : decode cX12_plain 118 = .ok (.iload_n 1, 1) := by decide +kernel
theorem dX12_plain_119 : decode cX12_plain 119 = .ok (.invokevirtual 336, 3) := by decide +kernel
theorem dX12_plain_122 : decode cX12_plain 122 = .ok (.goto 156, 3) := by decide +kernel
theorem dX12_plain_125 : decode cX12_plain 125 = .ok (.aload_n 0, 1) := by decide +kernel
theorem dX12_plain_126 : decode cX12_plain 126 = .ok (.iload_n 1, 1) := by decide +kernel
theorem dX12_plain_127 : decode cX12_plain 127 = .ok (.iconst 1, 1) := by decide +kernel
theorem dX12_plain_128 : decode cX12_plain 128 = .ok (.invokevirtual 339, 3) := by decide +kernel
theorem dX12_plain_131 : decode cX12_plain 131 = .ok (.istore 4, 2) := by decide +kernel
theorem dX12_plain_133 : decode cX12_plain 133 = .ok (.aload_n 0, 1) := by decide +kernel
theorem dX12_plain_134 : decode cX12_plain 134 = .ok (.iload_n 1, 1) := by decide +kernel
theorem dX12_plain_135 : decode cX12_plain 135 = .ok (.iconst 1, 1) := by decide +kernel
theorem dX12_plain_136 : decode cX12_plain 136 = .ok (.iload_n 3, 1) := by decide +kernel
theorem dX12_plain_137 : decode cX12_plain 137 = .ok (.invokevirtual 348, 3) := by decide +kernel
theorem dX12_plain_140 : decode cX12_plain 140 = .ok (.aload_n 0, 1) := by decide +kernel
theorem dX12_plain_141 : decode cX12_plain 141 = .ok (.iload_n 1, 1) := by decide +kernel
theorem dX12_plain_142 : decode cX12_plain 142 = .ok (.iconst 0, 1) := by decide +kernel
theorem dX12_plain_143 : decode cX12_plain 143 = .ok (.iload 4, 2) := by decide +kernel
theorem dX12_plain_145 : decode cX12_plain 145 = .ok (.invokevirtual 348, 3) := by decide +kernel
theorem dX12_plain_148 : decode cX12_plain 148 = .ok (.aload_n 0, 1) := by decide +kernel
theorem dX12_plain_149 : decode cX12_plain 149 = .ok (.iload_n 1, 1) := by decide +kernel
theorem dX12_plain_150 : decode cX12_plain 150 = .ok (.invokevirtual 336, 3) := by decide +kernel
theorem dX12_plain_153 : decode cX12_plain 153 = .ok (.goto 125, 3) := by decide +kernel
theorem dX12_plain_156 : decode cX12_plain 156 = .ok (.aload_n 0, 1) := by decide +kernel
theorem dX12_plain_157 : decode cX12_plain 157 = .ok (.iload_n 1, 1) := by decide +kernel
theorem dX12_plain_158 : decode cX12_plain 158 = .ok (.iconst 1, 1) := by decide +kernel
theorem dX12_plain_159 : decode cX12_plain 159 = .ok (.invokevirtual 342, 3) := by decide +kernel
theorem dX12_plain_162 : decode cX12_plain 162 = .ok (.ifCond .eq 116, 3) := by decide +kernel
theorem dX12_plain_165 : decode cX12_plain 165 = .ok (.aload_n 0, 1) := by decide +kernel
theorem dX12_plain_166 : decode cX12_plain 166 = .ok (.iload_n 1, 1) := by decide +kernel
theorem dX12_plain_167 : decode cX12_plain 167 = .ok (.iconst 0, 1) := by decide +kernel
theorem dX12_plain_168 : decode cX12_plain 168 = .ok (.aload_n 0, 1) := by decide +kernel
theorem dX12_plain_169 : decode cX12_plain 169 = .ok (.iload_n 1, 1) := by decide +kernel
theorem dX12_plain_170 : decode cX12_plain 170 = .ok (.iconst 1, 1) := by decide +kernel
theorem dX12_plain_171 : decode cX12_plain 171 = .ok (.invokevirtual 339, 3) := by decide +kernel
theorem dX12_plain_174 : decode cX12_plain 174 = .ok (.invokevirtual 345, 3) := by decide +kernel
theorem dX12_plain_177 : decode cX12_plain 177 = .ok (.goto 101, 3) := by decide +kernel
theorem dX12_plain_180 : decode cX12_plain 180 = .ok (.aload_n 0, 1) := by decide +kernel
theorem dX12_plain_181 : decode cX12_plain 181 = .ok (.iload_n 1, 1) := by decide +kernel
theorem dX12_plain_182 : decode cX12_plain 182 = .ok (.iconst 2, 1) := by decide +kernel
theorem dX12_plain_183 : decode cX12_plain 183 = .ok (.invokevirtual 339, 3) := by decide +kernel
theorem dX12_plain_186 : decode cX12_plain 186 = .ok (.istore 4, 2) := by decide +kernel
theorem dX12_plain_188 : decode cX12_plain 188 = .ok (.aload_n 0, 1) := by decide +kernel
theorem dX12_plain_189 : decode cX12_plain 189 = .ok (.iload_n 1, 1) := by decide +kernel
theorem dX12_plain_190 : decode cX12_plain 190 = .ok (.iconst 2, 1) := by decide +kernel
theorem dX12_plain_191 : decode cX12_plain 191 = .ok (.aload_n 0, 1) := by decide +kernel
theorem dX12_plain_192 : decode cX12_plain 192 = .ok (.iload_n 1, 1) := by decide +kernel
theorem dX12_plain_193 : decode cX12_plain 193 = .ok (.iconst 1, 1) := by decide +kernel
theorem dX12_plain_194 : decode cX12_plain 194 = .ok (.invokevirtual 339, 3) := by decide +kernel
theorem dX12_plain_197 : decode cX12_plain 197 = .ok (.invokevirtual 348, 3) := by decide +kernel
theorem dX12_plain_200 : decode cX12_plain 200 = .ok (.aload_n 0, 1) := by decide +kernel
theorem dX12_plain_201 : decode cX12_plain 201 = .ok (.iload_n 1, 1) := by decide +kernel
theorem dX12_plain_202 : decode cX12_plain 202 = .ok (.iconst 1, 1) := by decide +kernel
theorem dX12_plain_203 : decode cX12_plain 203 = .ok (.iload_n 3, 1) := by decide +kernel
theorem dX12_plain_204 : decode cX12_plain 204 = .ok (.invokevirtual 348, 3) := by decide +kernel
theorem dX12_plain_207 : decode cX12_plain 207 = .ok (.aload_n 0, 1) := by decide +kernel
theorem dX12_plain_208 : decode cX12_plain 208 = .ok (.iload_n 1, 1) := by decide +kernel
theorem dX12_plain_209 : decode cX12_plain 209 = .ok (.iconst 0, 1) := by decide +kernel
theorem dX12_plain_210 : decode cX12_plain 210 = .ok (.iload 4, 2) := by decide +kernel
theorem dX12_plain_212 : decode cX12_plain 212 = .ok (.invokevirtual 348, 3) := by decide +kernel
theorem dX12_plain_215 : decode cX12_plain 215 = .ok (.aload_n 0, 1) := by decide +kernel
theorem dX12_plain_216 : decode cX12_plain 216 = .ok (.iload_n 1, 1) := by decide +kernel
theorem dX12_plain_217 : decode cX12_plain 217 = .ok (.invokevirtual 336, 3) := by decide +kernel
theorem dX12_plain_220 : decode cX12_plain 220 = .ok (.goto 58, 3) := by decide +kernel
theorem dX12_plain_223 : decode cX12_plain 223 = .ok (.aload_n 0, 1) := by decide +kernel
theorem dX12_plain_224 : decode cX12_plain 224 = .ok (.iload_n 1, 1) := by decide +kernel
theorem dX12_plain_225 : decode cX12_plain 225 = .ok (.iconst 1, 1) := by decide +kernel
theorem dX12_plain_226 : decode cX12_plain 226 = .ok (.iload_n 3, 1) := by decide +kernel
theorem dX12_plain_227 : decode cX12_plain 227 = .ok (.iconst (-1), 1) := by decide +kernel
theorem dX12_plain_228 : decode cX12_plain 228 = .ok (.ixor, 1) := by decide +kernel
theorem dX12_plain_229 : decode cX12_plain 229 = .ok (.invokevirtual 345, 3) := by decide +kernel
theorem dX12_plain_232 : decode cX12_plain 232 = .ok (.goto 46, 3) := by decide +kernel
theorem dX12_plain_235 : decode cX12_plain 235 = .ok (.iload_n 2, 1) := by decide +kernel
theorem dX12_plain_236 : decode cX12_plain 236 = .ok (.bipush 9, 2) := by decide +kernel
theorem dX12_plain_238 : decode cX12_plain 238 = .ok (.if_icmp .eq 9, 3) := by decide +kernel
theorem dX12_plain_241 : decode cX12_plain 241 = .ok (.iload_n 2, 1) := by decide +kernel
theorem dX12_plain_242 : decode cX12_plain 242 = .ok (.bipush 10, 2) := by decide +kernel
theorem dX12_plain_244 : decode cX12_plain 244 = .ok (.if_icmp .ne 17, 3) := by decide +kernel
theorem dX12_plain_247 : decode cX12_plain 247 = .ok (.iload_n 3, 1) := by decide +kernel
theorem dX12_plain_248 : decode cX12_plain 248 = .ok (.ifCond .ne 13, 3) := by decide +kernel
theorem dX12_plain_251 : decode cX12_plain 251 = .ok (.aload_n 0, 1) := by decide +kernel
theorem dX12_plain_252 : decode cX12_plain 252 = .ok (.iload_n 1, 1) := by decide +kernel
theorem dX12_plain_253 : decode cX12_plain 253 = .ok (.bipush (-4), 2) := by decide +kernel
theorem dX12_plain_255 : decode cX12_plain 255 = .ok (.invokevirtual 330, 3) := by decide +kernel
theorem dX12_plain_258 : decode cX12_plain 258 = .ok (.goto 20, 3) := by decide +kernel
theorem dX12_plain_261 : decode cX12_plain 261 = .ok (.aload_n 0, 1) := by decide +kernel
theorem dX12_plain_262 : decode cX12_plain 262 = .ok (.iload_n 1, 1) := by decide +kernel
theorem dX12_plain_263 : decode cX12_plain 263 = .ok (.iconst 2, 1) := by decide +kernel
theorem dX12_plain_264 : decode cX12_plain 264 = .ok (.iload_n 2, 1) := by decide +kernel
theorem dX12_plain_265 : decode cX12_plain 265 = .ok (.aload_n 0, 1) := by decide +kernel
theorem dX12_plain_266 : decode cX12_plain 266 = .ok (.iload_n 1, 1) := by decide +kernel
theorem dX12_plain_267 : decode cX12_plain 267 = .ok (.iconst 1, 1) := by decide +kernel
theorem dX12_plain_268 : decode cX12_plain 268 = .ok (.invokevirtual 339, 3) := by decide +kernel
theorem dX12_plain_271 : decode cX12_plain 271 = .ok (.iload_n 3, 1) := by decide +kernel
theorem dX12_plain_272 : decode cX12_plain 272 = .ok (.invokestatic 351, 3) := by decide +kernel
theorem dX12_plain_275 : decode cX12_plain 275 = .ok (.invokevirtual 345, 3) := by decide +kernel
theorem dX12_plain_278 : decode cX12_plain 278 = .ok (.return_, 1) := by decide +kernel
theorem dX12_memory_0 : decode cX12_memory 0 = .ok (.aload_n 0, 1) := by decide +kernel
theorem dX12_memory_1 : decode cX12_memory 1 = .ok (.iload_n 1, 1) := by decide +kernel
theorem dX12_memory_2 : decode cX12_memory 2 = .ok (.iconst 0, 1) := by decide +kernel
theorem dX12_memory_3 : decode cX12_memory 3 = .ok (.invokevirtual 339, 3) := by decide +kernel
theorem dX12_memory_6 : decode cX12_memory 6 = .ok (.istore_n 3, 1) := by decide +kernel
theorem dX12_memory_7 : decode cX12_memory 7 = .ok (.iload_n 2, 1) := by decide +kernel
theorem dX12_memory_8 : decode cX12_memory 8 = .ok (.bipush 20, 2) := by decide +kernel
theorem dX12_memory_10 : decode cX12_memory 10 = .ok (.if_icmp .eq 9, 3) := by decide +kernel
theorem dX12_memory_13 : decode cX12_memory 13 = .ok (.iload_n 2, 1) := by decide +kernel
theorem dX12_memory_14 : decode cX12_memory 14 = .ok (.bipush 21, 2) := by decide +kernel
theorem dX12_memory_16 : decode cX12_memory 16 = .ok (.if_icmp .ne 73, 3) := by decide +kernel
theorem dX12_memory_19 : decode cX12_memory 19 = .ok (.aload_n 0, 1) := by decide +kernel
theorem dX12_memory_20 : decode cX12_memory 20 = .ok (.iload_n 1, 1) := by decide +kernel
theorem dX12_memory_21 : decode cX12_memory 21 = .ok (.iload_n 3, 1) := by decide +kernel
theorem dX12_memory_22 : decode cX12_memory 22 = .ok (.invokevirtual 355, 3) := by decide +kernel
theorem dX12_memory_25 : decode cX12_memory 25 = .ok (.ifCond .ne 13, 3) := by decide +kernel
theorem dX12_memory_28 : decode cX12_memory 28 = .ok (.aload_n 0, 1) := by decide +kernel
theorem dX12_memory_29 : decode cX12_memory 29 = .ok (.iload_n 1, 1) := by decide +kernel
theorem dX12_memory_30 : decode cX12_memory 30 = .ok (.bipush (-5), 2) := by decide +kernel
theorem dX12_memory_32 : decode cX12_memory 32 = .ok (.invokevirtual 330, 3) := by decide +kernel
theorem dX12_memory_35 : decode cX12_memory 35 = .ok (.goto 190, 3) := by decide +kernel
theorem dX12_memory_38 : decode cX12_memory 38 = .ok (.iload_n 2, 1) := by decide +kernel
theorem dX12_memory_39 : decode cX12_memory 39 = .ok (.bipush 20, 2) := by decide +kernel
theorem dX12_memory_41 : decode cX12_memory 41 = .ok (.if_icmp .ne 18, 3) := by decide +kernel
theorem dX12_memory_44 : decode cX12_memory 44 = .ok (.aload_n 0, 1) := by decide +kernel
theorem dX12_memory_45 : decode cX12_memory 45 = .ok (.iload_n 1, 1) := by decide +kernel
theorem dX12_memory_46 : decode cX12_memory 46 = .ok (.iconst 1, 1) := by decide +kernel
theorem dX12_memory_47 : decode cX12_memory 47 = .ok (.aload_n 0, 1) := by decide +kernel
theorem dX12_memory_48 : decode cX12_memory 48 = .ok (.getfield 209, 3) := by decide +kernel
theorem dX12_memory_51 : decode cX12_memory 51 = .ok (.iload_n 3, 1) := by decide +kernel
theorem dX12_memory_52 : decode cX12_memory 52 = .ok (.iaload, 1) := by decide +kernel
theorem dX12_memory_53 : decode cX12_memory 53 = .ok (.invokevirtual 345, 3) := by decide +kernel
theorem dX12_memory_56 : decode cX12_memory 56 = .ok (.goto 169, 3) := by decide +kernel
theorem dX12_memory_59 : decode cX12_memory 59 = .ok (.aload_n 0, 1) := by decide +kernel
theorem dX12_memory_60 : decode cX12_memory 60 = .ok (.getfield 209, 3) := by decide +kernel
theorem dX12_memory_63 : decode cX12_memory 63 = .ok (.iload_n 3, 1) := by decide +kernel
theorem dX12_memory_64 : decode cX12_memory 64 = .ok (.aload_n 0, 1) := by decide +kernel
theorem dX12_memory_65 : decode cX12_memory 65 = .ok (.iload_n 1, 1) := by decide +kernel
theorem dX12_memory_66 : decode cX12_memory 66 = .ok (.iconst 1, 1) := by decide +kernel
theorem dX12_memory_67 : decode cX12_memory 67 = .ok (.invokevirtual 339, 3) := by decide +kernel
theorem dX12_memory_70 : decode cX12_memory 70 = .ok (.iastore, 1) := by decide +kernel
theorem dX12_memory_71 : decode cX12_memory 71 = .ok (.aload_n 0, 1) := by decide +kernel
theorem dX12_memory_72 : decode cX12_memory 72 = .ok (.getfield 155, 3) := by decide +kernel
theorem dX12_memory_75 : decode cX12_memory 75 = .ok (.iload_n 1, 1) := by decide +kernel
theorem dX12_memory_76 : decode cX12_memory 76 = .ok (.dup2, 1) := by decide +kernel
theorem dX12_memory_77 : decode cX12_memory 77 = .ok (.iaload, 1) := by decide +kernel
theorem dX12_memory_78 : decode cX12_memory 78 = .ok (.iconst 2, 1) := by decide +kernel
theorem dX12_memory_79 : decode cX12_memory 79 = .ok (.isub, 1) := by decide +kernel
theorem dX12_memory_80 : decode cX12_memory 80 = .ok (.iastore, 1) := by decide +kernel
theorem dX12_memory_81 : decode cX12_memory 81 = .ok (.aload_n 0, 1) := by decide +kernel
theorem dX12_memory_82 : decode cX12_memory 82 = .ok (.iload_n 1, 1) := by decide +kernel
theorem dX12_memory_83 : decode cX12_memory 83 = .ok (.invokevirtual 336, 3) := by decide +kernel
theorem dX12_memory_86 : decode cX12_memory 86 = .ok (.goto 139, 3) := by decide +kernel
theorem dX12_memory_89 : decode cX12_memory 89 = .ok (.iload_n 2, 1) := by decide +kernel
theorem dX12_memory_90 : decode cX12_memory 90 = .ok (.bipush 23, 2) := by decide +kernel
theorem dX12_memory_92 : decode cX12_memory 92 = .ok (.if_icmp .ne 18, 3) := by decide +kernel
theorem dX12_memory_95 : decode cX12_memory 95 = .ok (.aload_n 0, 1) := by decide +kernel
theorem dX12_memory_96 : decode cX12_memory 96 = .ok (.iload_n 1, 1) := by decide +kernel
theorem dX12_memory_97 : decode cX12_memory 97 = .ok (.iconst 1, 1) := by decide +kernel
theorem dX12_memory_98 : decode cX12_memory 98 = .ok (.aload_n 0, 1) := by decide +kernel
theorem dX12_memory_99 : decode cX12_memory 99 = .ok (.iload_n 1, 1) := by decide +kernel
theorem dX12_memory_100 : decode cX12_memory 100 = .ok (.iload_n 3, 1) := by decide +kernel
theorem dX12_memory_101 : decode cX12_memory 101 = .ok (.invokevirtual 358, 3) := by decide +kernel
theorem dX12_memory_104 : decode cX12_memory 104 = .ok (.invokevirtual 345, 3) := by decide +kernel
theorem dX12_memory_107 : decode cX12_memory 107 = .ok (.goto 118, 3) := by decide +kernel
theorem dX12_memory_110 : decode cX12_memory 110 = .ok (.iload_n 2, 1) := by decide +kernel
theorem dX12_memory_111 : decode cX12_memory 111 = .ok (.bipush 24, 2) := by decide +kernel
theorem dX12_memory_113 : decode cX12_memory 113 = .ok (.if_icmp .ne 49, 3) := by decide +kernel
theorem dX12_memory_116 : decode cX12_memory 116 = .ok (.aload_n 0, 1) := by decide +kernel
theorem dX12_memory_117 : decode cX12_memory 117 = .ok (.iload_n 1, 1) := by decide +kernel
theorem dX12_memory_118 : decode cX12_memory 118 = .ok (.iload_n 3, 1) := by decide +kernel
theorem dX12_memory_119 : decode cX12_memory 119 = .ok (.invokevirtual 361, 3) := by decide +kernel
theorem dX12_memory_122 : decode cX12_memory 122 = .ok (.istore 4, 2) := by decide +kernel
theorem dX12_memory_124 : decode cX12_memory 124 = .ok (.iload 4, 2) := by decide +kernel
theorem dX12_memory_126 : decode cX12_memory 126 = .ok (.iconst (-1), 1) := by decide +kernel
theorem dX12_memory_127 : decode cX12_memory 127 = .ok (.if_icmp .eq 15, 3) := by decide +kernel
theorem dX12_memory_130 : decode cX12_memory 130 = .ok (.aload_n 0, 1) := by decide +kernel
theorem dX12_memory_131 : decode cX12_memory 131 = .ok (.getfield 218, 3) := by decide +kernel
theorem dX12_memory_134 : decode cX12_memory 134 = .ok (.iload 4, 2) := by decide +kernel
theorem dX12_memory_136 : decode cX12_memory 136 = .ok (.iconst 0, 1) := by decide +kernel
theorem dX12_memory_137 : decode cX12_memory 137 = .ok (.iastore, 1) := by decide +kernel
theorem dX12_memory_138 : decode cX12_memory 138 = .ok (.aload_n 0, 1) := by decide +kernel
theorem dX12_memory_139 : decode cX12_memory 139 = .ok (.invokevirtual 318, 3) := by decide +kernel
theorem dX12_memory_142 : decode cX12_memory 142 = .ok (.aload_n 0, 1) := by decide +kernel
theorem dX12_memory_143 : decode cX12_memory 143 = .ok (.iload_n 1, 1) := by decide +kernel
theorem dX12_memory_144 : decode cX12_memory 144 = .ok (.iconst 1, 1) := by decide +kernel
theorem dX12_memory_145 : decode cX12_memory 145 = .ok (.iload 4, 2) := by decide +kernel
theorem dX12_memory_147 : decode cX12_memory 147 = .ok (.iconst (-1), 1) := by decide +kernel
theorem dX12_memory_148 : decode cX12_memory 148 = .ok (.if_icmp .ne 7, 3) := by decide +kernel
theorem dX12_memory_151 : decode cX12_memory 151 = .ok (.iconst (-1), 1) := by decide +kernel
theorem dX12_memory_152 : decode cX12_memory 152 = .ok (.goto 4, 3) := by decide +kernel
theorem dX12_memory_155 : decode cX12_memory 155 = .ok (.iconst 0, 1) := by decide +kernel
theorem dX12_memory_156 : decode cX12_memory 156 = .ok (.invokevirtual 345, 3) := by decide +kernel
theorem dX12_memory_159 : decode cX12_memory 159 = .ok (.goto 66, 3) := by decide +kernel
theorem dX12_memory_162 : decode cX12_memory 162 = .ok (.aload_n 0, 1) := by decide +kernel
theorem dX12_memory_163 : decode cX12_memory 163 = .ok (.iload_n 1, 1) := by decide +kernel
theorem dX12_memory_164 : decode cX12_memory 164 = .ok (.aload_n 0, 1) := by decide +kernel
theorem dX12_memory_165 : decode cX12_memory 165 = .ok (.iload_n 1, 1) := by decide +kernel
theorem dX12_memory_166 : decode cX12_memory 166 = .ok (.iconst 1, 1) := by decide +kernel
theorem dX12_memory_167 : decode cX12_memory 167 = .ok (.invokevirtual 339, 3) := by decide +kernel
theorem dX12_memory_170 : decode cX12_memory 170 = .ok (.invokevirtual 361, 3) := by decide +kernel
theorem dX12_memory_173 : decode cX12_memory 173 = .ok (.istore 4, 2) := by decide +kernel
theorem dX12_memory_175 : decode cX12_memory 175 = .ok (.iload 4, 2) := by decide +kernel
theorem dX12_memory_177 : decode cX12_memory 177 = .ok (.iconst (-1), 1) := by decide +kernel
theorem dX12_memory_178 : decode cX12_memory 178 = .ok (.if_icmp .eq 15, 3) := by decide +kernel
theorem dX12_memory_181 : decode cX12_memory 181 = .ok (.aload_n 0, 1) := by decide +kernel
theorem dX12_memory_182 : decode cX12_memory 182 = .ok (.iload_n 3, 1) := by decide +kernel
theorem dX12_memory_183 : decode cX12_memory 183 = .ok (.invokevirtual 364, 3) := by decide +kernel
theorem dX12_memory_186 : decode cX12_memory 186 = .ok (.ifCond .eq 7, 3) := by decide +kernel
theorem dX12_memory_189 : decode cX12_memory 189 = .ok (.iconst 1, 1) := by decide +kernel
theorem dX12_memory_190 : decode cX12_memory 190 = .ok (.goto 4, 3) := by decide +kernel
theorem dX12_memory_193 : decode cX12_memory 193 = .ok (.iconst 0, 1) := by decide +kernel
theorem dX12_memory_194 : decode cX12_memory 194 = .ok (.istore 5, 2) := by decide +kernel
theorem dX12_memory_196 : decode cX12_memory 196 = .ok (.iload 5, 2) := by decide +kernel
theorem dX12_memory_198 : decode cX12_memory 198 = .ok (.ifCond .eq 11, 3) := by decide +kernel
theorem dX12_memory_201 : decode cX12_memory 201 = .ok (.aload_n 0, 1) := by decide +kernel
theorem dX12_memory_202 : decode cX12_memory 202 = .ok (.getfield 218, 3) := by decide +kernel
theorem dX12_memory_205 : decode cX12_memory 205 = .ok (.iload 4, 2) := by decide +kernel
theorem dX12_memory_207 : decode cX12_memory 207 = .ok (.iload_n 3, 1) := by decide +kernel
theorem dX12_memory_208 : decode cX12_memory 208 = .ok (.iastore, 1) := by decide +kernel
theorem dX12_memory_209 : decode cX12_memory 209 = .ok (.aload_n 0, 1) := by decide +kernel
theorem dX12_memory_210 : decode cX12_memory 210 = .ok (.iload_n 1, 1) := by decide +kernel
theorem dX12_memory_211 : decode cX12_memory 211 = .ok (.iconst 2, 1) := by decide +kernel
theorem dX12_memory_212 : decode cX12_memory 212 = .ok (.iload 5, 2) := by decide +kernel
theorem dX12_memory_214 : decode cX12_memory 214 = .ok (.ifCond .eq 7, 3) := by decide +kernel
theorem dX12_memory_217 : decode cX12_memory 217 = .ok (.iconst 0, 1) := by decide +kernel
theorem dX12_memory_218 : decode cX12_memory 218 = .ok (.goto 4, 3) := by decide +kernel
theorem dX12_memory_221 : decode cX12_memory 221 = .ok (.iconst (-1), 1) := by decide +kernel
theorem dX12_memory_222 : decode cX12_memory 222 = .ok (.invokevirtual 345, 3) := by decide +kernel
theorem dX12_memory_225 : decode cX12_memory 225 = .ok (.return_, 1) := by decide +kernel
theorem dX12_deliver_0 : decode cX12_deliver 0 = .ok (.aload_n 0, 1) := by decide +kernel
theorem dX12_deliver_1 : decode cX12_deliver 1 = .ok (.iload_n 2, 1) := by decide +kernel
theorem dX12_deliver_2 : decode cX12_deliver 2 = .ok (.invokevirtual 364, 3) := by decide +kernel
theorem dX12_deliver_5 : decode cX12_deliver 5 = .ok (.ifCond .ne 5, 3) := by decide +kernel
theorem dX12_deliver_8 : decode cX12_deliver 8 = .ok (.iconst (-1), 1) := by decide +kernel
theorem dX12_deliver_9 : decode cX12_deliver 9 = .ok (.ireturn, 1) := by decide +kernel
theorem dX12_deliver_10 : decode cX12_deliver 10 = .ok (.aload_n 0, 1) := by decide +kernel
theorem dX12_deliver_11 : decode cX12_deliver 11 = .ok (.getfield 167, 3) := by decide +kernel
theorem dX12_deliver_14 : decode cX12_deliver 14 = .ok (.iload_n 2, 1) := by decide +kernel
theorem dX12_deliver_15 : decode cX12_deliver 15 = .ok (.iaload, 1) := by decide +kernel
theorem dX12_deliver_16 : decode cX12_deliver 16 = .ok (.bipush 8, 2) := by decide +kernel
theorem dX12_deliver_18 : decode cX12_deliver 18 = .ok (.if_icmp .ne 6, 3) := by decide +kernel
theorem dX12_deliver_21 : decode cX12_deliver 21 = .ok (.bipush (-2), 2) := by decide +kernel
theorem dX12_deliver_23 : decode cX12_deliver 23 = .ok (.ireturn, 1) := by decide +kernel
theorem dX12_deliver_24 : decode cX12_deliver 24 = .ok (.aload_n 0, 1) := by decide +kernel
theorem dX12_deliver_25 : decode cX12_deliver 25 = .ok (.getfield 170, 3) := by decide +kernel
theorem dX12_deliver_28 : decode cX12_deliver 28 = .ok (.bipush 8, 2) := by decide +kernel
theorem dX12_deliver_30 : decode cX12_deliver 30 = .ok (.iload_n 2, 1) := by decide +kernel
theorem dX12_deliver_31 : decode cX12_deliver 31 = .ok (.imul, 1) := by decide +kernel
theorem dX12_deliver_32 : decode cX12_deliver 32 = .ok (.aload_n 0, 1) := by decide +kernel
theorem dX12_deliver_33 : decode cX12_deliver 33 = .ok (.getfield 167, 3) := by decide +kernel
theorem dX12_deliver_36 : decode cX12_deliver 36 = .ok (.iload_n 2, 1) := by decide +kernel
theorem dX12_deliver_37 : decode cX12_deliver 37 = .ok (.iaload, 1) := by decide +kernel
theorem dX12_deliver_38 : decode cX12_deliver 38 = .ok (.iadd, 1) := by decide +kernel
theorem dX12_deliver_39 : decode cX12_deliver 39 = .ok (.iload_n 3, 1) := by decide +kernel
theorem dX12_deliver_40 : decode cX12_deliver 40 = .ok (.iastore, 1) := by decide +kernel
theorem dX12_deliver_41 : decode cX12_deliver 41 = .ok (.aload_n 0, 1) := by decide +kernel
theorem dX12_deliver_42 : decode cX12_deliver 42 = .ok (.getfield 173, 3) := by decide +kernel
theorem dX12_deliver_45 : decode cX12_deliver 45 = .ok (.bipush 8, 2) := by decide +kernel
theorem dX12_deliver_47 : decode cX12_deliver 47 = .ok (.iload_n 2, 1) := by decide +kernel
theorem dX12_deliver_48 : decode cX12_deliver 48 = .ok (.imul, 1) := by decide +kernel
theorem dX12_deliver_49 : decode cX12_deliver 49 = .ok (.aload_n 0, 1) := by decide +kernel
theorem dX12_deliver_50 : decode cX12_deliver 50 = .ok (.getfield 167, 3) := by decide +kernel
theorem dX12_deliver_53 : decode cX12_deliver 53 = .ok (.iload_n 2, 1) := by decide +kernel
theorem dX12_deliver_54 : decode cX12_deliver 54 = .ok (.iaload, 1) := by decide +kernel
theorem dX12_deliver_55 : decode cX12_deliver 55 = .ok (.iadd, 1) := by decide +kernel
theorem dX12_deliver_56 : decode cX12_deliver 56 = .ok (.iload_n 1, 1) := by decide +kernel
theorem dX12_deliver_57 : decode cX12_deliver 57 = .ok (.iastore, 1) := by decide +kernel
theorem dX12_deliver_58 : decode cX12_deliver 58 = .ok (.aload_n 0, 1) := by decide +kernel
theorem dX12_deliver_59 : decode cX12_deliver 59 = .ok (.getfield 167, 3) := by decide +kernel
theorem dX12_deliver_62 : decode cX12_deliver 62 = .ok (.iload_n 2, 1) := by decide +kernel
theorem dX12_deliver_63 : decode cX12_deliver 63 = .ok (.dup2, 1) := by decide +kernel
theorem dX12_deliver_64 : decode cX12_deliver 64 = .ok (.iaload, 1) := by decide +kernel
theorem dX12_deliver_65 : decode cX12_deliver 65 = .ok (.iconst 1, 1) := by decide +kernel
theorem dX12_deliver_66 : decode cX12_deliver 66 = .ok (.iadd, 1) := by decide +kernel
theorem dX12_deliver_67 : decode cX12_deliver 67 = .ok (.iastore, 1) := by decide +kernel
theorem dX12_deliver_68 : decode cX12_deliver 68 = .ok (.aload_n 0, 1) := by decide +kernel
theorem dX12_deliver_69 : decode cX12_deliver 69 = .ok (.getfield 137, 3) := by decide +kernel
theorem dX12_deliver_72 : decode cX12_deliver 72 = .ok (.iload_n 2, 1) := by decide +kernel
theorem dX12_deliver_73 : decode cX12_deliver 73 = .ok (.iaload, 1) := by decide +kernel
theorem dX12_deliver_74 : decode cX12_deliver 74 = .ok (.iconst 2, 1) := by decide +kernel
theorem dX12_deliver_75 : decode cX12_deliver 75 = .ok (.if_icmp .ne 8, 3) := by decide +kernel
theorem dX12_deliver_78 : decode cX12_deliver 78 = .ok (.aload_n 0, 1) := by decide +kernel
theorem dX12_deliver_79 : decode cX12_deliver 79 = .ok (.iload_n 2, 1) := by decide +kernel
theorem dX12_deliver_80 : decode cX12_deliver 80 = .ok (.invokevirtual 324, 3) := by decide +kernel
theorem dX12_deliver_83 : decode cX12_deliver 83 = .ok (.iconst 0, 1) := by decide +kernel
theorem dX12_deliver_84 : decode cX12_deliver 84 = .ok (.ireturn, 1) := by decide +kernel
theorem dX12_isChild_0 : decode cX12_isChild 0 = .ok (.aload_n 0, 1) := by decide +kernel
theorem dX12_isChild_1 : decode cX12_isChild 1 = .ok (.iload_n 2, 1) := by decide +kernel
theorem dX12_isChild_2 : decode cX12_isChild 2 = .ok (.invokevirtual 312, 3) := by decide +kernel
theorem dX12_isChild_5 : decode cX12_isChild 5 = .ok (.ifCond .eq 26, 3) := by decide +kernel
theorem dX12_isChild_8 : decode cX12_isChild 8 = .ok (.aload_n 0, 1) := by decide +kernel
theorem dX12_isChild_9 : decode cX12_isChild 9 = .ok (.getfield 137, 3) := by decide +kernel
theorem dX12_isChild_12 : decode cX12_isChild 12 = .ok (.iload_n 2, 1) := by decide +kernel
theorem dX12_isChild_13 : decode cX12_isChild 13 = .ok (.iaload, 1) := by decide +kernel
theorem dX12_isChild_14 : decode cX12_isChild 14 = .ok (.ifCond .eq 17, 3) := by decide +kernel
theorem dX12_isChild_17 : decode cX12_isChild 17 = .ok (.aload_n 0, 1) := by decide +kernel
theorem dX12_isChild_18 : decode cX12_isChild 18 = .ok (.getfield 146, 3) := by decide +kernel
theorem dX12_isChild_21 : decode cX12_isChild 21 = .ok (.iload_n 2, 1) := by decide +kernel
theorem dX12_isChild_22 : decode cX12_isChild 22 = .ok (.iaload, 1) := by decide +kernel
theorem dX12_isChild_23 : decode cX12_isChild 23 = .ok (.iload_n 1, 1) := by decide +kernel
theorem dX12_isChild_24 : decode cX12_isChild 24 = .ok (.if_icmp .ne 7, 3) := by decide +kernel
theorem dX12_isChild_27 : decode cX12_isChild 27 = .ok (.iconst 1, 1) := by decide +kernel
theorem dX12_isChild_28 : decode cX12_isChild 28 = .ok (.goto 4, 3) := by decide +kernel
theorem dX12_isChild_31 : decode cX12_isChild 31 = .ok (.iconst 0, 1) := by decide +kernel
theorem dX12_isChild_32 : decode cX12_isChild 32 = .ok (.ireturn, 1) := by decide +kernel
theorem dX12_receive_0 : decode cX12_receive 0 = .ok (.aload_n 0, 1) := by decide +kernel
theorem dX12_receive_1 : decode cX12_receive 1 = .ok (.getfield 167, 3) := by decide +kernel
theorem dX12_receive_4 : decode cX12_receive 4 = .ok (.iload_n 1, 1) := by decide +kernel
theorem dX12_receive_5 : decode cX12_receive 5 = .ok (.iaload, 1) := by decide +kernel
theorem dX12_receive_6 : decode cX12_receive 6 = .ok (.ifCond .ne 11, 3) := by decide +kernel
theorem dX12_receive_9 : decode cX12_receive 9 = .ok (.aload_n 0, 1) := by decide +kernel
theorem dX12_receive_10 : decode cX12_receive 10 = .ok (.iload_n 1, 1) := by decide +kernel
theorem dX12_receive_11 : decode cX12_receive 11 = .ok (.iconst 2, 1) := by decide +kernel
theorem dX12_receive_12 : decode cX12_receive 12 = .ok (.iconst 0, 1) := by decide +kernel
theorem dX12_receive_13 : decode cX12_receive 13 = .ok (.invokevirtual 367, 3) := by decide +kernel
theorem dX12_receive_16 : decode cX12_receive 16 = .ok (.return_, 1) := by decide +kernel
theorem dX12_receive_17 : decode cX12_receive 17 = .ok (.aload_n 0, 1) := by decide +kernel
theorem dX12_receive_18 : decode cX12_receive 18 = .ok (.iload_n 1, 1) := by decide +kernel
theorem dX12_receive_19 : decode cX12_receive 19 = .ok (.iconst 2, 1) := by decide +kernel
theorem dX12_receive_20 : decode cX12_receive 20 = .ok (.invokevirtual 342, 3) := by decide +kernel
theorem dX12_receive_23 : decode cX12_receive 23 = .ok (.ifCond .ne 4, 3) := by decide +kernel
theorem dX12_receive_26 : decode cX12_receive 26 = .ok (.return_, 1) := by decide +kernel
theorem dX12_receive_27 : decode cX12_receive 27 = .ok (.aload_n 0, 1) := by decide +kernel
theorem dX12_receive_28 : decode cX12_receive 28 = .ok (.iload_n 1, 1) := by decide +kernel
theorem dX12_receive_29 : decode cX12_receive 29 = .ok (.aload_n 0, 1) := by decide +kernel
theorem dX12_receive_30 : decode cX12_receive 30 = .ok (.getfield 170, 3) := by decide +kernel
theorem dX12_receive_33 : decode cX12_receive 33 = .ok (.bipush 8, 2) := by decide +kernel
theorem dX12_receive_35 : decode cX12_receive 35 = .ok (.iload_n 1, 1) := by decide +kernel
theorem dX12_receive_36 : decode cX12_receive 36 = .ok (.imul, 1) := by decide +kernel
theorem dX12_receive_37 : decode cX12_receive 37 = .ok (.iaload, 1) := by decide +kernel
theorem dX12_receive_38 : decode cX12_receive 38 = .ok (.invokevirtual 333, 3) := by decide +kernel
theorem dX12_receive_41 : decode cX12_receive 41 = .ok (.aload_n 0, 1) := by decide +kernel
theorem dX12_receive_42 : decode cX12_receive 42 = .ok (.iload_n 1, 1) := by decide +kernel
theorem dX12_receive_43 : decode cX12_receive 43 = .ok (.aload_n 0, 1) := by decide +kernel
theorem dX12_receive_44 : decode cX12_receive 44 = .ok (.getfield 173, 3) := by decide +kernel
theorem dX12_receive_47 : decode cX12_receive 47 = .ok (.bipush 8, 2) := by decide +kernel
theorem dX12_receive_49 : decode cX12_receive 49 = .ok (.iload_n 1, 1) := by decide +kernel
theorem dX12_receive_50 : decode cX12_receive 50 = .ok (.imul, 1) := by decide +kernel
theorem dX12_receive_51 : decode cX12_receive 51 = .ok (.iaload, 1) := by decide +kernel
theorem dX12_receive_52 : decode cX12_receive 52 = .ok (.invokevirtual 333, 3) := by decide +kernel
theorem dX12_receive_55 : decode cX12_receive 55 = .ok (.aload_n 0, 1) := by decide +kernel
theorem dX12_receive_56 : decode cX12_receive 56 = .ok (.getfield 167, 3) := by decide +kernel
theorem dX12_receive_59 : decode cX12_receive 59 = .ok (.iload_n 1, 1) := by decide +kernel
theorem dX12_receive_60 : decode cX12_receive 60 = .ok (.dup2, 1) := by decide +kernel
theorem dX12_receive_61 : decode cX12_receive 61 = .ok (.iaload, 1) := by decide +kernel
theorem dX12_receive_62 : decode cX12_receive 62 = .ok (.iconst 1, 1) := by decide +kernel
theorem dX12_receive_63 : decode cX12_receive 63 = .ok (.isub, 1) := by decide +kernel
theorem dX12_receive_64 : decode cX12_receive 64 = .ok (.iastore, 1) := by decide +kernel
theorem dX12_receive_65 : decode cX12_receive 65 = .ok (.iconst 0, 1) := by decide +kernel
theorem dX12_receive_66 : decode cX12_receive 66 = .ok (.istore_n 2, 1) := by decide +kernel
theorem dX12_receive_67 : decode cX12_receive 67 = .ok (.iload_n 2, 1) := by decide +kernel
theorem dX12_receive_68 : decode cX12_receive 68 = .ok (.aload_n 0, 1) := by decide +kernel
theorem dX12_receive_69 : decode cX12_receive 69 = .ok (.getfield 167, 3) := by decide +kernel
theorem dX12_receive_72 : decode cX12_receive 72 = .ok (.iload_n 1, 1) := by decide +kernel
theorem dX12_receive_73 : decode cX12_receive 73 = .ok (.iaload, 1) := by decide +kernel
theorem dX12_receive_74 : decode cX12_receive 74 = .ok (.if_icmp .ge 57, 3) := by decide +kernel
theorem dX12_receive_77 : decode cX12_receive 77 = .ok (.aload_n 0, 1) := by decide +kernel
theorem dX12_receive_78 : decode cX12_receive 78 = .ok (.getfield 170, 3) := by decide +kernel
theorem dX12_receive_81 : decode cX12_receive 81 = .ok (.bipush 8, 2) := by decide +kernel
theorem dX12_receive_83 : decode cX12_receive 83 = .ok (.iload_n 1, 1) := by decide +kernel
theorem dX12_receive_84 : decode cX12_receive 84 = .ok (.imul, 1) := by decide +kernel
theorem dX12_receive_85 : decode cX12_receive 85 = .ok (.iload_n 2, 1) := by decide +kernel
theorem dX12_receive_86 : decode cX12_receive 86 = .ok (.iadd, 1) := by decide +kernel
theorem dX12_receive_87 : decode cX12_receive 87 = .ok (.aload_n 0, 1) := by decide +kernel
theorem dX12_receive_88 : decode cX12_receive 88 = .ok (.getfield 170, 3) := by decide +kernel
theorem dX12_receive_91 : decode cX12_receive 91 = .ok (.bipush 8, 2) := by decide +kernel
theorem dX12_receive_93 : decode cX12_receive 93 = .ok (.iload_n 1, 1) := by decide +kernel
theorem dX12_receive_94 : decode cX12_receive 94 = .ok (.imul, 1) := by decide +kernel
theorem dX12_receive_95 : decode cX12_receive 95 = .ok (.iload_n 2, 1) := by decide +kernel
theorem dX12_receive_96 : decode cX12_receive 96 = .ok (.iadd, 1) := by decide +kernel
theorem dX12_receive_97 : decode cX12_receive 97 = .ok (.iconst 1, 1) := by decide +kernel
theorem dX12_receive_98 : decode cX12_receive 98 = .ok (.iadd, 1) := by decide +kernel
theorem dX12_receive_99 : decode cX12_receive 99 = .ok (.iaload, 1) := by decide +kernel
theorem dX12_receive_100 : decode cX12_receive 100 = .ok (.iastore, 1) := by decide +kernel
theorem dX12_receive_101 : decode cX12_receive 101 = .ok (.aload_n 0, 1) := by decide +kernel
theorem dX12_receive_102 : decode cX12_receive 102 = .ok (.getfield 173, 3) := by decide +kernel
theorem dX12_receive_105 : decode cX12_receive 105 = .ok (.bipush 8, 2) := by decide +kernel
theorem dX12_receive_107 : decode cX12_receive 107 = .ok (.iload_n 1, 1) := by decide +kernel
theorem dX12_receive_108 : decode cX12_receive 108 = .ok (.imul, 1) := by decide +kernel
theorem dX12_receive_109 : decode cX12_receive 109 = .ok (.iload_n 2, 1) := by decide +kernel
theorem dX12_receive_110 : decode cX12_receive 110 = .ok (.iadd, 1) := by decide +kernel
theorem dX12_receive_111 : decode cX12_receive 111 = .ok (.aload_n 0, 1) := by decide +kernel
theorem dX12_receive_112 : decode cX12_receive 112 = .ok (.getfield 173, 3) := by decide +kernel
theorem dX12_receive_115 : decode cX12_receive 115 = .ok (.bipush 8, 2) := by decide +kernel
theorem dX12_receive_117 : decode cX12_receive 117 = .ok (.iload_n 1, 1) := by decide +kernel
theorem dX12_receive_118 : decode cX12_receive 118 = .ok (.imul, 1) := by decide +kernel
theorem dX12_receive_119 : decode cX12_receive 119 = .ok (.iload_n 2, 1) := by decide +kernel
theorem dX12_receive_120 : decode cX12_receive 120 = .ok (.iadd, 1) := by decide +kernel
theorem dX12_receive_121 : decode cX12_receive 121 = .ok (.iconst 1, 1) := by decide +kernel
theorem dX12_receive_122 : decode cX12_receive 122 = .ok (.iadd, 1) := by decide +kernel
theorem dX12_receive_123 : decode cX12_receive 123 = .ok (.iaload, 1) := by decide +kernel
theorem dX12_receive_124 : decode cX12_receive 124 = .ok (.iastore, 1) := by decide +kernel
theorem dX12_receive_125 : decode cX12_receive 125 = .ok (.iinc 2 1, 3) := by decide +kernel
theorem dX12_receive_128 : decode cX12_receive 128 = .ok (.goto (-61), 3) := by decide +kernel
theorem dX12_receive_131 : decode cX12_receive 131 = .ok (.aload_n 0, 1) := by decide +kernel
theorem dX12_receive_132 : decode cX12_receive 132 = .ok (.iload_n 1, 1) := by decide +kernel
theorem dX12_receive_133 : decode cX12_receive 133 = .ok (.invokevirtual 336, 3) := by decide +kernel
theorem dX12_receive_136 : decode cX12_receive 136 = .ok (.return_, 1) := by decide +kernel
theorem dX12_await_0 : decode cX12_await 0 = .ok (.aload_n 0, 1) := by decide +kernel
theorem dX12_await_1 : decode cX12_await 1 = .ok (.iload_n 1, 1) := by decide +kernel
theorem dX12_await_2 : decode cX12_await 2 = .ok (.iconst 0, 1) := by decide +kernel
theorem dX12_await_3 : decode cX12_await 3 = .ok (.invokevirtual 339, 3) := by decide +kernel
theorem dX12_await_6 : decode cX12_await 6 = .ok (.istore_n 2, 1) := by decide +kernel
theorem dX12_await_7 : decode cX12_await 7 = .ok (.aload_n 0, 1) := by decide +kernel
theorem dX12_await_8 : decode cX12_await 8 = .ok (.iload_n 1, 1) := by decide +kernel
theorem dX12_await_9 : decode cX12_await 9 = .ok (.iload_n 2, 1) := by decide +kernel
theorem dX12_await_10 : decode cX12_await 10 = .ok (.invokevirtual 370, 3) := by decide +kernel
theorem dX12_await_13 : decode cX12_await 13 = .ok (.istore_n 3, 1) := by decide +kernel
theorem dX12_await_14 : decode cX12_await 14 = .ok (.iload_n 3, 1) := by decide +kernel
theorem dX12_await_15 : decode cX12_await 15 = .ok (.ifCond .eq 22, 3) := by decide +kernel
theorem dX12_await_18 : decode cX12_await 18 = .ok (.aload_n 0, 1) := by decide +kernel
theorem dX12_await_19 : decode cX12_await 19 = .ok (.getfield 137, 3) := by decide +kernel
theorem dX12_await_22 : decode cX12_await 22 = .ok (.iload_n 2, 1) := by decide +kernel
theorem dX12_await_23 : decode cX12_await 23 = .ok (.iaload, 1) := by decide +kernel
theorem dX12_await_24 : decode cX12_await 24 = .ok (.bipush 7, 2) := by decide +kernel
theorem dX12_await_26 : decode cX12_await 26 = .ok (.if_icmp .eq 11, 3) := by decide +kernel
theorem dX12_await_29 : decode cX12_await 29 = .ok (.aload_n 0, 1) := by decide +kernel
theorem dX12_await_30 : decode cX12_await 30 = .ok (.iload_n 1, 1) := by decide +kernel
theorem dX12_await_31 : decode cX12_await 31 = .ok (.iconst 3, 1) := by decide +kernel
theorem dX12_await_32 : decode cX12_await 32 = .ok (.iload_n 2, 1) := by decide +kernel
theorem dX12_await_33 : decode cX12_await 33 = .ok (.invokevirtual 367, 3) := by decide +kernel
theorem dX12_await_36 : decode cX12_await 36 = .ok (.return_, 1) := by decide +kernel
theorem dX12_await_37 : decode cX12_await 37 = .ok (.aload_n 0, 1) := by decide +kernel
theorem dX12_await_38 : decode cX12_await 38 = .ok (.iload_n 1, 1) := by decide +kernel
theorem dX12_await_39 : decode cX12_await 39 = .ok (.iconst 1, 1) := by decide +kernel
theorem dX12_await_40 : decode cX12_await 40 = .ok (.invokevirtual 342, 3) := by decide +kernel
theorem dX12_await_43 : decode cX12_await 43 = .ok (.ifCond .ne 4, 3) := by decide +kernel
theorem dX12_await_46 : decode cX12_await 46 = .ok (.return_, 1) := by decide +kernel
theorem dX12_await_47 : decode cX12_await 47 = .ok (.aload_n 0, 1) := by decide +kernel
theorem dX12_await_48 : decode cX12_await 48 = .ok (.iload_n 1, 1) := by decide +kernel
theorem dX12_await_49 : decode cX12_await 49 = .ok (.iconst 0, 1) := by decide +kernel
theorem dX12_await_50 : decode cX12_await 50 = .ok (.iload_n 3, 1) := by decide +kernel
theorem dX12_await_51 : decode cX12_await 51 = .ok (.ifCond .eq 12, 3) := by decide +kernel
theorem dX12_await_54 : decode cX12_await 54 = .ok (.aload_n 0, 1) := by decide +kernel
theorem dX12_await_55 : decode cX12_await 55 = .ok (.getfield 140, 3) := by decide +kernel
theorem dX12_await_58 : decode cX12_await 58 = .ok (.iload_n 2, 1) := by decide +kernel
theorem dX12_await_59 : decode cX12_await 59 = .ok (.iaload, 1) := by decide +kernel
theorem dX12_await_60 : decode cX12_await 60 = .ok (.goto 4, 3) := by decide +kernel
theorem dX12_await_63 : decode cX12_await 63 = .ok (.iconst 0, 1) := by decide +kernel
theorem dX12_await_64 : decode cX12_await 64 = .ok (.invokevirtual 348, 3) := by decide +kernel
theorem dX12_await_67 : decode cX12_await 67 = .ok (.aload_n 0, 1) := by decide +kernel
theorem dX12_await_68 : decode cX12_await 68 = .ok (.iload_n 1, 1) := by decide +kernel
theorem dX12_await_69 : decode cX12_await 69 = .ok (.iload_n 3, 1) := by decide +kernel
theorem dX12_await_70 : decode cX12_await 70 = .ok (.ifCond .eq 7, 3) := by decide +kernel
theorem dX12_await_73 : decode cX12_await 73 = .ok (.iconst 1, 1) := by decide +kernel
theorem dX12_await_74 : decode cX12_await 74 = .ok (.goto 4, 3) := by decide +kernel
theorem dX12_await_77 : decode cX12_await 77 = .ok (.iconst 0, 1) := by decide +kernel
theorem dX12_await_78 : decode cX12_await 78 = .ok (.invokevirtual 333, 3) := by decide +kernel
theorem dX12_await_81 : decode cX12_await 81 = .ok (.aload_n 0, 1) := by decide +kernel
theorem dX12_await_82 : decode cX12_await 82 = .ok (.iload_n 1, 1) := by decide +kernel
theorem dX12_await_83 : decode cX12_await 83 = .ok (.invokevirtual 336, 3) := by decide +kernel
theorem dX12_await_86 : decode cX12_await 86 = .ok (.iload_n 3, 1) := by decide +kernel
theorem dX12_await_87 : decode cX12_await 87 = .ok (.ifCond .eq 12, 3) := by decide +kernel
theorem dX12_await_90 : decode cX12_await 90 = .ok (.aload_n 0, 1) := by decide +kernel
theorem dX12_await_91 : decode cX12_await 91 = .ok (.iload_n 2, 1) := by decide +kernel
theorem dX12_await_92 : decode cX12_await 92 = .ok (.invokevirtual 321, 3) := by decide +kernel
theorem dX12_await_95 : decode cX12_await 95 = .ok (.aload_n 0, 1) := by decide +kernel
theorem dX12_await_96 : decode cX12_await 96 = .ok (.invokevirtual 327, 3) := by decide +kernel
theorem dX12_await_99 : decode cX12_await 99 = .ok (.return_, 1) := by decide +kernel
theorem dX12_spawn_0 : decode cX12_spawn 0 = .ok (.aload_n 0, 1) := by decide +kernel
theorem dX12_spawn_1 : decode cX12_spawn 1 = .ok (.iload_n 1, 1) := by decide +kernel
theorem dX12_spawn_2 : decode cX12_spawn 2 = .ok (.iconst 1, 1) := by decide +kernel
theorem dX12_spawn_3 : decode cX12_spawn 3 = .ok (.invokevirtual 342, 3) := by decide +kernel
theorem dX12_spawn_6 : decode cX12_spawn 6 = .ok (.ifCond .ne 4, 3) := by decide +kernel
theorem dX12_spawn_9 : decode cX12_spawn 9 = .ok (.return_, 1) := by decide +kernel
theorem dX12_spawn_10 : decode cX12_spawn 10 = .ok (.aload_n 0, 1) := by decide +kernel
theorem dX12_spawn_11 : decode cX12_spawn 11 = .ok (.aload_n 0, 1) := by decide +kernel
theorem dX12_spawn_12 : decode cX12_spawn 12 = .ok (.getfield 149, 3) := by decide +kernel
theorem dX12_spawn_15 : decode cX12_spawn 15 = .ok (.iload_n 1, 1) := by decide +kernel
theorem dX12_spawn_16 : decode cX12_spawn 16 = .ok (.iaload, 1) := by decide +kernel
theorem dX12_spawn_17 : decode cX12_spawn 17 = .ok (.aload_n 0, 1) := by decide +kernel
theorem dX12_spawn_18 : decode cX12_spawn 18 = .ok (.getfield 143, 3) := by decide +kernel
theorem dX12_spawn_21 : decode cX12_spawn 21 = .ok (.iload_n 1, 1) := by decide +kernel
theorem dX12_spawn_22 : decode cX12_spawn 22 = .ok (.iaload, 1) := by decide +kernel
theorem dX12_spawn_23 : decode cX12_spawn 23 = .ok (.iload_n 2, 1) := by decide +kernel
theorem dX12_spawn_24 : decode cX12_spawn 24 = .ok (.iload_n 1, 1) := by decide +kernel
theorem dX12_spawn_25 : decode cX12_spawn 25 = .ok (.invokevirtual 373, 3) := by decide +kernel
theorem dX12_spawn_28 : decode cX12_spawn 28 = .ok (.istore_n 3, 1) := by decide +kernel
theorem dX12_spawn_29 : decode cX12_spawn 29 = .ok (.aload_n 0, 1) := by decide +kernel
theorem dX12_spawn_30 : decode cX12_spawn 30 = .ok (.iload_n 1, 1) := by decide +kernel
theorem dX12_spawn_31 : decode cX12_spawn 31 = .ok (.iload_n 3, 1) := by decide +kernel
theorem dX12_spawn_32 : decode cX12_spawn 32 = .ok (.ifCond .ne 7, 3) := by decide +kernel
theorem dX12_spawn_35 : decode cX12_spawn 35 = .ok (.iconst (-1), 1) := by decide +kernel
theorem dX12_spawn_36 : decode cX12_spawn 36 = .ok (.goto 4, 3) := by decide +kernel
theorem dX12_spawn_39 : decode cX12_spawn 39 = .ok (.iload_n 3, 1) := by decide +kernel
theorem dX12_spawn_40 : decode cX12_spawn 40 = .ok (.invokevirtual 333, 3) := by decide +kernel
theorem dX12_spawn_43 : decode cX12_spawn 43 = .ok (.aload_n 0, 1) := by decide +kernel
theorem dX12_spawn_44 : decode cX12_spawn 44 = .ok (.iload_n 1, 1) := by decide +kernel
theorem dX12_spawn_45 : decode cX12_spawn 45 = .ok (.invokevirtual 336, 3) := by decide +kernel
theorem dX12_spawn_48 : decode cX12_spawn 48 = .ok (.return_, 1) := by decide +kernel
theorem dX12_others_0 : decode cX12_others 0 = .ok (.aload_n 0, 1) := by decide +kernel
theorem dX12_others_1 : decode cX12_others 1 = .ok (.getfield 101, 3) := by decide +kernel
theorem dX12_others_4 : decode cX12_others 4 = .ok (.iload_n 2, 1) := by decide +kernel
theorem dX12_others_5 : decode cX12_others 5 = .ok (.iaload, 1) := by decide +kernel
theorem dX12_others_6 : decode cX12_others 6 = .ok (.ifCond .le 12, 3) := by decide +kernel
theorem dX12_others_9 : decode cX12_others 9 = .ok (.aload_n 0, 1) := by decide +kernel
theorem dX12_others_10 : decode cX12_others 10 = .ok (.iload_n 1, 1) := by decide +kernel
theorem dX12_others_11 : decode cX12_others 11 = .ok (.iconst 0, 1) := by decide +kernel
theorem dX12_others_12 : decode cX12_others 12 = .ok (.invokevirtual 339, 3) := by decide +kernel
theorem dX12_others_15 : decode cX12_others 15 = .ok (.goto 4, 3) := by decide +kernel
theorem dX12_others_18 : decode cX12_others 18 = .ok (.iconst 0, 1) := by decide +kernel
theorem dX12_others_19 : decode cX12_others 19 = .ok (.istore 4, 2) := by decide +kernel
theorem dX12_others_21 : decode cX12_others 21 = .ok (.iload_n 2, 1) := by decide +kernel
theorem dX12_others_22 : decode cX12_others 22 = .ok (.tableswitch 426 22 42 #[98, 426, 426, 426, 312, 334, 342, 350, 407, 426, 426, 426, 426, 426, 426, 426, 426, 162, 182, 228, 303], 98) := by decide +kernel
theorem dX12_others_120 : decode cX12_others 120 = .ok (.aload_n 0, 1) := by decide +kernel
theorem dX12_others_121 : decode cX12_others 121 = .ok (.getfield 161, 3) := by decide +kernel
theorem dX12_others_124 : decode cX12_others 124 = .ok (.iload_n 1, 1) := by decide +kernel
theorem dX12_others_125 : decode cX12_others 125 = .ok (.iaload, 1) := by decide +kernel
theorem dX12_others_126 : decode cX12_others 126 = .ok (.ifCond .ne 13, 3) := by decide +kernel
theorem dX12_others_129 : decode cX12_others 129 = .ok (.aload_n 0, 1) := by decide +kernel
theorem dX12_others_130 : decode cX12_others 130 = .ok (.iload_n 1, 1) := by decide +kernel
theorem dX12_others_131 : decode cX12_others 131 = .ok (.bipush (-6), 2) := by decide +kernel
theorem dX12_others_133 : decode cX12_others 133 = .ok (.invokevirtual 330, 3) := by decide +kernel
theorem dX12_others_136 : decode cX12_others 136 = .ok (.goto 320, 3) := by decide +kernel
theorem dX12_others_139 : decode cX12_others 139 = .ok (.aload_n 0, 1) := by decide +kernel
theorem dX12_others_140 : decode cX12_others 140 = .ok (.getfield 161, 3) := by decide +kernel
theorem dX12_others_143 : decode cX12_others 143 = .ok (.iload_n 1, 1) := by decide +kernel
theorem dX12_others_144 : decode cX12_others 144 = .ok (.dup2, 1) := by decide +kernel
theorem dX12_others_145 : decode cX12_others 145 = .ok (.iaload, 1) := by decide +kernel
theorem dX12_others_146 : decode cX12_others 146 = .ok (.iconst 1, 1) := by decide +kernel
theorem dX12_others_147 : decode cX12_others 147 = .ok (.isub, 1) := by decide +kernel
theorem dX12_others_148 : decode cX12_others 148 = .ok (.iastore, 1) := by decide +kernel
theorem dX12_others_149 : decode cX12_others 149 = .ok (.aload_n 0, 1) := by decide +kernel
theorem dX12_others_150 : decode cX12_others 150 = .ok (.getfield 152, 3) := by decide +kernel
theorem dX12_others_153 : decode cX12_others 153 = .ok (.iload_n 1, 1) := by decide +kernel
theorem dX12_others_154 : decode cX12_others 154 = .ok (.aload_n 0, 1) := by decide +kernel
theorem dX12_others_155 : decode cX12_others 155 = .ok (.getfield 164, 3) := by decide +kernel
theorem dX12_others_158 : decode cX12_others 158 = .ok (.bipush 20, 2) := by decide +kernel
theorem dX12_others_160 : decode cX12_others 160 = .ok (.iload_n 1, 1) := by decide +kernel
theorem dX12_others_161 : decode cX12_others 161 = .ok (.imul, 1) := by decide +kernel
theorem dX12_others_162 : decode cX12_others 162 = .ok (.aload_n 0, 1) := by decide +kernel
theorem dX12_others_163 : decode cX12_others 163 = .ok (.getfield 161, 3) := by decide +kernel
theorem dX12_others_166 : decode cX12_others 166 = .ok (.iload_n 1, 1) := by decide +kernel
theorem dX12_others_167 : decode cX12_others 167 = .ok (.iaload, 1) := by decide +kernel
theorem dX12_others_168 : decode cX12_others 168 = .ok (.iadd, 1) := by decide +kernel
theorem dX12_others_169 : decode cX12_others 169 = .ok (.iaload, 1) := by decide +kernel
theorem dX12_others_170 : decode cX12_others 170 = .ok (.iastore, 1) := by decide +kernel
theorem dX12_others_171 : decode cX12_others 171 = .ok (.aload_n 0, 1) := by decide +kernel
theorem dX12_others_172 : decode cX12_others 172 = .ok (.getfield 182, 3) := by decide +kernel
theorem dX12_others_175 : decode cX12_others 175 = .ok (.iload_n 1, 1) := by decide +kernel
theorem dX12_others_176 : decode cX12_others 176 = .ok (.dup2, 1) := by decide +kernel
theorem dX12_others_177 : decode cX12_others 177 = .ok (.iaload, 1) := by decide +kernel
theorem dX12_others_178 : decode cX12_others 178 = .ok (.iconst 1, 1) := by decide +kernel
theorem dX12_others_179 : decode cX12_others 179 = .ok (.iadd, 1) := by decide +kernel
theorem dX12_others_180 : decode cX12_others 180 = .ok (.iastore, 1) := by decide +kernel
theorem dX12_others_181 : decode cX12_others 181 = .ok (.goto 275, 3) := by decide +kernel
theorem dX12_others_184 : decode cX12_others 184 = .ok (.aload_n 0, 1) := by decide +kernel
theorem dX12_others_185 : decode cX12_others 185 = .ok (.getfield 152, 3) := by decide +kernel
theorem dX12_others_188 : decode cX12_others 188 = .ok (.iload_n 1, 1) := by decide +kernel
theorem dX12_others_189 : decode cX12_others 189 = .ok (.iload_n 3, 1) := by decide +kernel
theorem dX12_others_190 : decode cX12_others 190 = .ok (.iastore, 1) := by decide +kernel
theorem dX12_others_191 : decode cX12_others 191 = .ok (.aload_n 0, 1) := by decide +kernel
theorem dX12_others_192 : decode cX12_others 192 = .ok (.getfield 182, 3) := by decide +kernel
theorem dX12_others_195 : decode cX12_others 195 = .ok (.iload_n 1, 1) := by decide +kernel
theorem dX12_others_196 : decode cX12_others 196 = .ok (.dup2, 1) := by decide +kernel
theorem dX12_others_197 : decode cX12_others 197 = .ok (.iaload, 1) := by decide +kernel
theorem dX12_others_198 : decode cX12_others 198 = .ok (.iconst 1, 1) := by decide +kernel
theorem dX12_others_199 : decode cX12_others 199 = .ok (.iadd, 1) := by decide +kernel
theorem dX12_others_200 : decode cX12_others 200 = .ok (.iastore, 1) := by decide +kernel
theorem dX12_others_201 : decode cX12_others 201 = .ok (.goto 255, 3) := by decide +kernel
theorem dX12_others_204 : decode cX12_others 204 = .ok (.aload_n 0, 1) := by decide +kernel
theorem dX12_others_205 : decode cX12_others 205 = .ok (.getfield 155, 3) := by decide +kernel
theorem dX12_others_208 : decode cX12_others 208 = .ok (.iload_n 1, 1) := by decide +kernel
theorem dX12_others_209 : decode cX12_others 209 = .ok (.dup2, 1) := by decide +kernel
theorem dX12_others_210 : decode cX12_others 210 = .ok (.iaload, 1) := by decide +kernel
theorem dX12_others_211 : decode cX12_others 211 = .ok (.iconst 1, 1) := by decide +kernel
theorem dX12_others_212 : decode cX12_others 212 = .ok (.isub, 1) := by decide +kernel
theorem dX12_others_213 : decode cX12_others 213 = .ok (.iastore, 1) := by decide +kernel
theorem dX12_others_214 : decode cX12_others 214 = .ok (.aload_n 0, 1) := by decide +kernel
theorem dX12_others_215 : decode cX12_others 215 = .ok (.getfield 152, 3) := by decide +kernel
theorem dX12_others_218 : decode cX12_others 218 = .ok (.iload_n 1, 1) := by decide +kernel
theorem dX12_others_219 : decode cX12_others 219 = .ok (.iload 4, 2) := by decide +kernel
theorem dX12_others_221 : decode cX12_others 221 = .ok (.ifCond .ne 7, 3) := by decide +kernel
theorem dX12_others_224 : decode cX12_others 224 = .ok (.iload_n 3, 1) := by decide +kernel
theorem dX12_others_225 : decode cX12_others 225 = .ok (.goto 11, 3) := by decide +kernel
theorem dX12_others_228 : decode cX12_others 228 = .ok (.aload_n 0, 1) := by decide +kernel
theorem dX12_others_229 : decode cX12_others 229 = .ok (.getfield 152, 3) := by decide +kernel
theorem dX12_others_232 : decode cX12_others 232 = .ok (.iload_n 1, 1) := by decide +kernel
theorem dX12_others_233 : decode cX12_others 233 = .ok (.iaload, 1) := by decide +kernel
theorem dX12_others_234 : decode cX12_others 234 = .ok (.iconst 1, 1) := by decide +kernel
theorem dX12_others_235 : decode cX12_others 235 = .ok (.iadd, 1) := by decide +kernel
theorem dX12_others_236 : decode cX12_others 236 = .ok (.iastore, 1) := by decide +kernel
theorem dX12_others_237 : decode cX12_others 237 = .ok (.aload_n 0, 1) := by decide +kernel
theorem dX12_others_238 : decode cX12_others 238 = .ok (.getfield 182, 3) := by decide +kernel
theorem dX12_others_241 : decode cX12_others 241 = .ok (.iload_n 1, 1) := by decide +kernel
theorem dX12_others_242 : decode cX12_others 242 = .ok (.dup2, 1) := by decide +kernel
theorem dX12_others_243 : decode cX12_others 243 = .ok (.iaload, 1) := by decide +kernel
theorem dX12_others_244 : decode cX12_others 244 = .ok (.iconst 1, 1) := by decide +kernel
theorem dX12_others_245 : decode cX12_others 245 = .ok (.iadd, 1) := by decide +kernel
theorem dX12_others_246 : decode cX12_others 246 = .ok (.iastore, 1) := by decide +kernel
theorem dX12_others_247 : decode cX12_others 247 = .ok (.goto 209, 3) := by decide +kernel
theorem dX12_others_250 : decode cX12_others 250 = .ok (.aload_n 0, 1) := by decide +kernel
theorem dX12_others_251 : decode cX12_others 251 = .ok (.getfield 161, 3) := by decide +kernel
theorem dX12_others_254 : decode cX12_others 254 = .ok (.iload_n 1, 1) := by decide +kernel
theorem dX12_others_255 : decode cX12_others 255 = .ok (.iaload, 1) := by decide +kernel
theorem dX12_others_256 : decode cX12_others 256 = .ok (.bipush 20, 2) := by decide +kernel
theorem dX12_others_258 : decode cX12_others 258 = .ok (.if_icmp .ne 13, 3) := by decide +kernel
theorem dX12_others_261 : decode cX12_others 261 = .ok (.aload_n 0, 1) := by decide +kernel
theorem dX12_others_262 : decode cX12_others 262 = .ok (.iload_n 1, 1) := by decide +kernel
theorem dX12_others_263 : decode cX12_others 263 = .ok (.bipush (-6), 2) := by decide +kernel
theorem dX12_others_265 : decode cX12_others 265 = .ok (.invokevirtual 330, 3) := by decide +kernel
theorem dX12_others_268 : decode cX12_others 268 = .ok (.goto 188, 3) := by decide +kernel
theorem dX12_others_271 : decode cX12_others 271 = .ok (.aload_n 0, 1) := by decide +kernel
theorem dX12_others_272 : decode cX12_others 272 = .ok (.getfield 164, 3) := by decide +kernel
theorem dX12_others_275 : decode cX12_others 275 = .ok (.bipush 20, 2) := by decide +kernel
theorem dX12_others_277 : decode cX12_others 277 = .ok (.iload_n 1, 1) := by decide +kernel
theorem dX12_others_278 : decode cX12_others 278 = .ok (.imul, 1) := by decide +kernel
theorem dX12_others_279 : decode cX12_others 279 = .ok (.aload_n 0, 1) := by decide +kernel
theorem dX12_others_280 : decode cX12_others 280 = .ok (.getfield 161, 3) := by decide +kernel
theorem dX12_others_283 : decode cX12_others 283 = .ok (.iload_n 1, 1) := by decide +kernel
theorem dX12_others_284 : decode cX12_others 284 = .ok (.iaload, 1) := by decide +kernel
theorem dX12_others_285 : decode cX12_others 285 = .ok (.iadd, 1) := by decide +kernel
theorem dX12_others_286 : decode cX12_others 286 = .ok (.aload_n 0, 1) := by decide +kernel
theorem dX12_others_287 : decode cX12_others 287 = .ok (.getfield 152, 3) := by decide +kernel
theorem dX12_others_290 : decode cX12_others 290 = .ok (.iload_n 1, 1) := by decide +kernel
theorem dX12_others_291 : decode cX12_others 291 = .ok (.iaload, 1) := by decide +kernel
theorem dX12_others_292 : decode cX12_others 292 = .ok (.iconst 1, 1) := by decide +kernel
theorem dX12_others_293 : decode cX12_others 293 = .ok (.iadd, 1) := by decide +kernel
theorem dX12_others_294 : decode cX12_others 294 = .ok (.iastore, 1) := by decide +kernel
theorem dX12_others_295 : decode cX12_others 295 = .ok (.aload_n 0, 1) := by decide +kernel
theorem dX12_others_296 : decode cX12_others 296 = .ok (.getfield 161, 3) := by decide +kernel
theorem dX12_others_299 : decode cX12_others 299 = .ok (.iload_n 1, 1) := by decide +kernel
theorem dX12_others_300 : decode cX12_others 300 = .ok (.dup2, 1) := by decide +kernel
theorem dX12_others_301 : decode cX12_others 301 = .ok (.iaload, 1) := by decide +kernel
theorem dX12_others_302 : decode cX12_others 302 = .ok (.iconst 1, 1) := by decide +kernel
theorem dX12_others_303 : decode cX12_others 303 = .ok (.iadd, 1) := by decide +kernel
theorem dX12_others_304 : decode cX12_others 304 = .ok (.iastore, 1) := by decide +kernel
theorem dX12_others_305 : decode cX12_others 305 = .ok (.aload_n 0, 1) := by decide +kernel
theorem dX12_others_306 : decode cX12_others 306 = .ok (.getfield 152, 3) := by decide +kernel
theorem dX12_others_309 : decode cX12_others 309 = .ok (.iload_n 1, 1) := by decide +kernel
theorem dX12_others_310 : decode cX12_others 310 = .ok (.iload_n 3, 1) := by decide +kernel
theorem dX12_others_311 : decode cX12_others 311 = .ok (.iastore, 1) := by decide +kernel
theorem dX12_others_312 : decode cX12_others 312 = .ok (.aload_n 0, 1) := by decide +kernel
theorem dX12_others_313 : decode cX12_others 313 = .ok (.getfield 182, 3) := by decide +kernel
theorem dX12_others_316 : decode cX12_others 316 = .ok (.iload_n 1, 1) := by decide +kernel
theorem dX12_others_317 : decode cX12_others 317 = .ok (.dup2, 1) := by decide +kernel
theorem dX12_others_318 : decode cX12_others 318 = .ok (.iaload, 1) := by decide +kernel
theorem dX12_others_319 : decode cX12_others 319 = .ok (.iconst 1, 1) := by decide +kernel
theorem dX12_others_320 : decode cX12_others 320 = .ok (.iadd, 1) := by decide +kernel
theorem dX12_others_321 : decode cX12_others 321 = .ok (.iastore, 1) := by decide +kernel
theorem dX12_others_322 : decode cX12_others 322 = .ok (.goto 134, 3) := by decide +kernel
theorem dX12_others_325 : decode cX12_others 325 = .ok (.aload_n 0, 1) := by decide +kernel
theorem dX12_others_326 : decode cX12_others 326 = .ok (.iload_n 1, 1) := by decide +kernel
theorem dX12_others_327 : decode cX12_others 327 = .ok (.iload_n 3, 1) := by decide +kernel
theorem dX12_others_328 : decode cX12_others 328 = .ok (.invokevirtual 377, 3) := by decide +kernel
theorem dX12_others_331 : decode cX12_others 331 = .ok (.goto 125, 3) := by decide +kernel
theorem dX12_others_334 : decode cX12_others 334 = .ok (.aload_n 0, 1) := by decide +kernel
theorem dX12_others_335 : decode cX12_others 335 = .ok (.iload_n 1, 1) := by decide +kernel
theorem dX12_others_336 : decode cX12_others 336 = .ok (.iconst 2, 1) := by decide +kernel
theorem dX12_others_337 : decode cX12_others 337 = .ok (.aload_n 0, 1) := by decide +kernel
theorem dX12_others_338 : decode cX12_others 338 = .ok (.iload_n 1, 1) := by decide +kernel
theorem dX12_others_339 : decode cX12_others 339 = .ok (.iload 4, 2) := by decide +kernel
theorem dX12_others_341 : decode cX12_others 341 = .ok (.aload_n 0, 1) := by decide +kernel
theorem dX12_others_342 : decode cX12_others 342 = .ok (.iload_n 1, 1) := by decide +kernel
theorem dX12_others_343 : decode cX12_others 343 = .ok (.iconst 1, 1) := by decide +kernel
theorem dX12_others_344 : decode cX12_others 344 = .ok (.invokevirtual 339, 3) := by decide +kernel
theorem dX12_others_347 : decode cX12_others 347 = .ok (.invokevirtual 380, 3) := by decide +kernel
theorem dX12_others_350 : decode cX12_others 350 = .ok (.invokevirtual 345, 3) := by decide +kernel
theorem dX12_others_353 : decode cX12_others 353 = .ok (.goto 103, 3) := by decide +kernel
theorem dX12_others_356 : decode cX12_others 356 = .ok (.aload_n 0, 1) := by decide +kernel
theorem dX12_others_357 : decode cX12_others 357 = .ok (.iload_n 1, 1) := by decide +kernel
theorem dX12_others_358 : decode cX12_others 358 = .ok (.invokevirtual 383, 3) := by decide +kernel
theorem dX12_others_361 : decode cX12_others 361 = .ok (.goto 95, 3) := by decide +kernel
theorem dX12_others_364 : decode cX12_others 364 = .ok (.aload_n 0, 1) := by decide +kernel
theorem dX12_others_365 : decode cX12_others 365 = .ok (.iload_n 1, 1) := by decide +kernel
theorem dX12_others_366 : decode cX12_others 366 = .ok (.invokevirtual 386, 3) := by decide +kernel
theorem dX12_others_369 : decode cX12_others 369 = .ok (.goto 87, 3) := by decide +kernel
theorem dX12_others_372 : decode cX12_others 372 = .ok (.aload_n 0, 1) := by decide +kernel
theorem dX12_others_373 : decode cX12_others 373 = .ok (.iload_n 1, 1) := by decide +kernel
theorem dX12_others_374 : decode cX12_others 374 = .ok (.iload 4, 2) := by decide +kernel
theorem dX12_others_376 : decode cX12_others 376 = .ok (.invokevirtual 370, 3) := by decide +kernel
theorem dX12_others_379 : decode cX12_others 379 = .ok (.ifCond .eq 16, 3) := by decide +kernel
theorem dX12_others_382 : decode cX12_others 382 = .ok (.aload_n 0, 1) := by decide +kernel
theorem dX12_others_383 : decode cX12_others 383 = .ok (.iload 4, 2) := by decide +kernel
theorem dX12_others_385 : decode cX12_others 385 = .ok (.invokevirtual 364, 3) := by decide +kernel
theorem dX12_others_388 : decode cX12_others 388 = .ok (.ifCond .eq 7, 3) := by decide +kernel
theorem dX12_others_391 : decode cX12_others 391 = .ok (.iconst 1, 1) := by decide +kernel
theorem dX12_others_392 : decode cX12_others 392 = .ok (.goto 4, 3) := by decide +kernel
theorem dX12_others_395 : decode cX12_others 395 = .ok (.iconst 0, 1) := by decide +kernel
theorem dX12_others_396 : decode cX12_others 396 = .ok (.istore 5, 2) := by decide +kernel
theorem dX12_others_398 : decode cX12_others 398 = .ok (.iload 5, 2) := by decide +kernel
theorem dX12_others_400 : decode cX12_others 400 = .ok (.ifCond .eq 10, 3) := by decide +kernel
theorem dX12_others_403 : decode cX12_others 403 = .ok (.aload_n 0, 1) := by decide +kernel
theorem dX12_others_404 : decode cX12_others 404 = .ok (.iload 4, 2) := by decide +kernel
theorem dX12_others_406 : decode cX12_others 406 = .ok (.iconst (-1), 1) := by decide +kernel
theorem dX12_others_407 : decode cX12_others 407 = .ok (.invokevirtual 330, 3) := by decide +kernel
theorem dX12_others_410 : decode cX12_others 410 = .ok (.aload_n 0, 1) := by decide +kernel
theorem dX12_others_411 : decode cX12_others 411 = .ok (.iload_n 1, 1) := by decide +kernel
theorem dX12_others_412 : decode cX12_others 412 = .ok (.iconst 1, 1) := by decide +kernel
theorem dX12_others_413 : decode cX12_others 413 = .ok (.iload 5, 2) := by decide +kernel
theorem dX12_others_415 : decode cX12_others 415 = .ok (.ifCond .eq 7, 3) := by decide +kernel
theorem dX12_others_418 : decode cX12_others 418 = .ok (.iconst 0, 1) := by decide +kernel
theorem dX12_others_419 : decode cX12_others 419 = .ok (.goto 4, 3) := by decide +kernel
theorem dX12_others_422 : decode cX12_others 422 = .ok (.iconst (-1), 1) := by decide +kernel
theorem dX12_others_423 : decode cX12_others 423 = .ok (.invokevirtual 345, 3) := by decide +kernel
theorem dX12_others_426 : decode cX12_others 426 = .ok (.goto 30, 3) := by decide +kernel
theorem dX12_others_429 : decode cX12_others 429 = .ok (.aload_n 0, 1) := by decide +kernel
theorem dX12_others_430 : decode cX12_others 430 = .ok (.iload_n 1, 1) := by decide +kernel
theorem dX12_others_431 : decode cX12_others 431 = .ok (.iconst 1, 1) := by decide +kernel
theorem dX12_others_432 : decode cX12_others 432 = .ok (.invokevirtual 342, 3) := by decide +kernel
theorem dX12_others_435 : decode cX12_others 435 = .ok (.ifCond .eq 21, 3) := by decide +kernel
theorem dX12_others_438 : decode cX12_others 438 = .ok (.aload_n 0, 1) := by decide +kernel
theorem dX12_others_439 : decode cX12_others 439 = .ok (.iload_n 1, 1) := by decide +kernel
theorem dX12_others_440 : decode cX12_others 440 = .ok (.iconst 0, 1) := by decide +kernel
theorem dX12_others_441 : decode cX12_others 441 = .ok (.iload_n 1, 1) := by decide +kernel
theorem dX12_others_442 : decode cX12_others 442 = .ok (.invokevirtual 345, 3) := by decide +kernel
theorem dX12_others_445 : decode cX12_others 445 = .ok (.goto 11, 3) := by decide +kernel
theorem dX12_others_448 : decode cX12_others 448 = .ok (.aload_n 0, 1) := by decide +kernel
theorem dX12_others_449 : decode cX12_others 449 = .ok (.iload_n 1, 1) := by decide +kernel
theorem dX12_others_450 : decode cX12_others 450 = .ok (.iload_n 2, 1) := by decide +kernel
theorem dX12_others_451 : decode cX12_others 451 = .ok (.iload 4, 2) := by decide +kernel
theorem dX12_others_453 : decode cX12_others 453 = .ok (.invokevirtual 389, 3) := by decide +kernel
theorem dX12_others_456 : decode cX12_others 456 = .ok (.return_, 1) := by decide +kernel
theorem dX12_shares_0 : decode cX12_shares 0 = .ok (.iload_n 2, 1) := by decide +kernel
theorem dX12_shares_1 : decode cX12_shares 1 = .ok (.tableswitch 363 31 37 #[43, 102, 120, 186, 186, 196, 257], 43) := by decide +kernel
theorem dX12_shares_44 : decode cX12_shares 44 = .ok (.iload_n 3, 1) := by decide +kernel
theorem dX12_shares_45 : decode cX12_shares 45 = .ok (.ifCond .lt 8, 3) := by decide +kernel
theorem dX12_shares_48 : decode cX12_shares 48 = .ok (.iload_n 3, 1) := by decide +kernel
theorem dX12_shares_49 : decode cX12_shares 49 = .ok (.iconst 3, 1) := by decide +kernel
theorem dX12_shares_50 : decode cX12_shares 50 = .ok (.if_icmp .lt 13, 3) := by decide +kernel
theorem dX12_shares_53 : decode cX12_shares 53 = .ok (.aload_n 0, 1) := by decide +kernel
theorem dX12_shares_54 : decode cX12_shares 54 = .ok (.iload_n 1, 1) := by decide +kernel
theorem dX12_shares_55 : decode cX12_shares 55 = .ok (.bipush (-9), 2) := by decide +kernel
theorem dX12_shares_57 : decode cX12_shares 57 = .ok (.invokevirtual 330, 3) := by decide +kernel
theorem dX12_shares_60 : decode cX12_shares 60 = .ok (.goto 310, 3) := by decide +kernel
theorem dX12_shares_63 : decode cX12_shares 63 = .ok (.aload_n 0, 1) := by decide +kernel
theorem dX12_shares_64 : decode cX12_shares 64 = .ok (.getfield 155, 3) := by decide +kernel
theorem dX12_shares_67 : decode cX12_shares 67 = .ok (.iload_n 1, 1) := by decide +kernel
theorem dX12_shares_68 : decode cX12_shares 68 = .ok (.dup2, 1) := by decide +kernel
theorem dX12_shares_69 : decode cX12_shares 69 = .ok (.iaload, 1) := by decide +kernel
theorem dX12_shares_70 : decode cX12_shares 70 = .ok (.iconst 1, 1) := by decide +kernel
theorem dX12_shares_71 : decode cX12_shares 71 = .ok (.isub, 1) := by decide +kernel
theorem dX12_shares_72 : decode cX12_shares 72 = .ok (.iastore, 1) := by decide +kernel
theorem dX12_shares_73 : decode cX12_shares 73 = .ok (.aload_n 0, 1) := by decide +kernel
theorem dX12_shares_74 : decode cX12_shares 74 = .ok (.iload_n 1, 1) := by decide +kernel
theorem dX12_shares_75 : decode cX12_shares 75 = .ok (.invokevirtual 336, 3) := by decide +kernel
theorem dX12_shares_78 : decode cX12_shares 78 = .ok (.aload_n 0, 1) := by decide +kernel
theorem dX12_shares_79 : decode cX12_shares 79 = .ok (.iload_n 1, 1) := by decide +kernel
theorem dX12_shares_80 : decode cX12_shares 80 = .ok (.invokevirtual 306, 3) := by decide +kernel
theorem dX12_shares_83 : decode cX12_shares 83 = .ok (.aload_n 0, 1) := by decide +kernel
theorem dX12_shares_84 : decode cX12_shares 84 = .ok (.getfield 143, 3) := by decide +kernel
theorem dX12_shares_87 : decode cX12_shares 87 = .ok (.iload_n 1, 1) := by decide +kernel
theorem dX12_shares_88 : decode cX12_shares 88 = .ok (.iload_n 3, 1) := by decide +kernel
theorem dX12_shares_89 : decode cX12_shares 89 = .ok (.iastore, 1) := by decide +kernel
theorem dX12_shares_90 : decode cX12_shares 90 = .ok (.aload_n 0, 1) := by decide +kernel
theorem dX12_shares_91 : decode cX12_shares 91 = .ok (.iload_n 1, 1) := by decide +kernel
theorem dX12_shares_92 : decode cX12_shares 92 = .ok (.invokevirtual 309, 3) := by decide +kernel
theorem dX12_shares_95 : decode cX12_shares 95 = .ok (.aload_n 0, 1) := by decide +kernel
theorem dX12_shares_96 : decode cX12_shares 96 = .ok (.iconst 1, 1) := by decide +kernel
theorem dX12_shares_97 : decode cX12_shares 97 = .ok (.putfield 392, 3) := by decide +kernel
theorem dX12_shares_100 : decode cX12_shares 100 = .ok (.goto 270, 3) := by decide +kernel
theorem dX12_shares_103 : decode cX12_shares 103 = .ok (.aload_n 0, 1) := by decide +kernel
theorem dX12_shares_104 : decode cX12_shares 104 = .ok (.iload_n 1, 1) := by decide +kernel
theorem dX12_shares_105 : decode cX12_shares 105 = .ok (.invokevirtual 336, 3) := by decide +kernel
theorem dX12_shares_108 : decode cX12_shares 108 = .ok (.aload_n 0, 1) := by decide +kernel
theorem dX12_shares_109 : decode cX12_shares 109 = .ok (.iload_n 1, 1) := by decide +kernel
theorem dX12_shares_110 : decode cX12_shares 110 = .ok (.invokevirtual 396, 3) := by decide +kernel
theorem dX12_shares_113 : decode cX12_shares 113 = .ok (.aload_n 0, 1) := by decide +kernel
theorem dX12_shares_114 : decode cX12_shares 114 = .ok (.iconst 1, 1) := by decide +kernel
theorem dX12_shares_115 : decode cX12_shares 115 = .ok (.putfield 392, 3) := by decide +kernel
theorem dX12_shares_118 : decode cX12_shares 118 = .ok (.goto 252, 3) := by decide +kernel
theorem dX12_shares_121 : decode cX12_shares 121 = .ok (.aload_n 0, 1) := by decide +kernel
theorem dX12_shares_122 : decode cX12_shares 122 = .ok (.getfield 155, 3) := by decide +kernel
theorem dX12_shares_125 : decode cX12_shares 125 = .ok (.iload_n 1, 1) := by decide +kernel
theorem dX12_shares_126 : decode cX12_shares 126 = .ok (.dup2, 1) := by decide +kernel
theorem dX12_shares_127 : decode cX12_shares 127 = .ok (.iaload, 1) := by decide +kernel
theorem dX12_shares_128 : decode cX12_shares 128 = .ok (.iconst 1, 1) := by decide +kernel
theorem dX12_shares_129 : decode cX12_shares 129 = .ok (.isub, 1) := by decide +kernel
theorem dX12_shares_130 : decode cX12_shares 130 = .ok (.iastore, 1) := by decide +kernel
theorem dX12_shares_131 : decode cX12_shares 131 = .ok (.aload_n 0, 1) := by decide +kernel
theorem dX12_shares_132 : decode cX12_shares 132 = .ok (.iload_n 1, 1) := by decide +kernel
theorem dX12_shares_133 : decode cX12_shares 133 = .ok (.invokevirtual 336, 3) := by decide +kernel
theorem dX12_shares_136 : decode cX12_shares 136 = .ok (.iload_n 3, 1) := by decide +kernel
theorem dX12_shares_137 : decode cX12_shares 137 = .ok (.iconst 1, 1) := by decide +kernel
theorem dX12_shares_138 : decode cX12_shares 138 = .ok (.if_icmp .ge 16, 3) := by decide +kernel
theorem dX12_shares_141 : decode cX12_shares 141 = .ok (.aload_n 0, 1) := by decide +kernel
theorem dX12_shares_142 : decode cX12_shares 142 = .ok (.iload_n 1, 1) := by decide +kernel
theorem dX12_shares_143 : decode cX12_shares 143 = .ok (.invokevirtual 396, 3) := by decide +kernel
theorem dX12_shares_146 : decode cX12_shares 146 = .ok (.aload_n 0, 1) := by decide +kernel
theorem dX12_shares_147 : decode cX12_shares 147 = .ok (.iconst 1, 1) := by decide +kernel
theorem dX12_shares_148 : decode cX12_shares 148 = .ok (.putfield 392, 3) := by decide +kernel
theorem dX12_shares_151 : decode cX12_shares 151 = .ok (.goto 219, 3) := by decide +kernel
theorem dX12_shares_154 : decode cX12_shares 154 = .ok (.aload_n 0, 1) := by decide +kernel
theorem dX12_shares_155 : decode cX12_shares 155 = .ok (.iload_n 1, 1) := by decide +kernel
theorem dX12_shares_156 : decode cX12_shares 156 = .ok (.iconst 5, 1) := by decide +kernel
theorem dX12_shares_157 : decode cX12_shares 157 = .ok (.aload_n 0, 1) := by decide +kernel
theorem dX12_shares_158 : decode cX12_shares 158 = .ok (.getfield 399, 3) := by decide +kernel
theorem dX12_shares_161 : decode cX12_shares 161 = .ok (.ldc_w 402, 3) := by decide +kernel
theorem dX12_shares_164 : decode cX12_shares 164 = .ok (.iload_n 3, 1) := by decide +kernel
theorem dX12_shares_165 : decode cX12_shares 165 = .ok (.isub, 1) := by decide +kernel
theorem dX12_shares_166 : decode cX12_shares 166 = .ok (.if_icmp .le 9, 3) := by decide +kernel
theorem dX12_shares_169 : decode cX12_shares 169 = .ok (.ldc_w 402, 3) := by decide +kernel
theorem dX12_shares_172 : decode cX12_shares 172 = .ok (.goto 9, 3) := by decide +kernel
theorem dX12_shares_175 : decode cX12_shares 175 = .ok (.aload_n 0, 1) := by decide +kernel
theorem dX12_shares_176 : decode cX12_shares 176 = .ok (.getfield 399, 3) := by decide +kernel
theorem dX12_shares_179 : decode cX12_shares 179 = .ok (.iload_n 3, 1) := by decide +kernel
theorem dX12_shares_180 : decode cX12_shares 180 = .ok (.iadd, 1) := by decide +kernel
theorem dX12_shares_181 : decode cX12_shares 181 = .ok (.invokevirtual 367, 3) := by decide +kernel
theorem dX12_shares_184 : decode cX12_shares 184 = .ok (.goto 186, 3) := by decide +kernel
theorem dX12_shares_187 : decode cX12_shares 187 = .ok (.aload_n 0, 1) := by decide +kernel
theorem dX12_shares_188 : decode cX12_shares 188 = .ok (.iload_n 1, 1) := by decide +kernel
theorem dX12_shares_189 : decode cX12_shares 189 = .ok (.iload_n 2, 1) := by decide +kernel
theorem dX12_shares_190 : decode cX12_shares 190 = .ok (.iload_n 3, 1) := by decide +kernel
theorem dX12_shares_191 : decode cX12_shares 191 = .ok (.invokevirtual 403, 3) := by decide +kernel
theorem dX12_shares_194 : decode cX12_shares 194 = .ok (.goto 176, 3) := by decide +kernel
theorem dX12_shares_197 : decode cX12_shares 197 = .ok (.aload_n 0, 1) := by decide +kernel
theorem dX12_shares_198 : decode cX12_shares 198 = .ok (.getfield 155, 3) := by decide +kernel
theorem dX12_shares_201 : decode cX12_shares 201 = .ok (.iload_n 1, 1) := by decide +kernel
theorem dX12_shares_202 : decode cX12_shares 202 = .ok (.dup2, 1) := by decide +kernel
theorem dX12_shares_203 : decode cX12_shares 203 = .ok (.iaload, 1) := by decide +kernel
theorem dX12_shares_204 : decode cX12_shares 204 = .ok (.iconst 1, 1) := by decide +kernel
theorem dX12_shares_205 : decode cX12_shares 205 = .ok (.isub, 1) := by decide +kernel
theorem dX12_shares_206 : decode cX12_shares 206 = .ok (.iastore, 1) := by decide +kernel
theorem dX12_shares_207 : decode cX12_shares 207 = .ok (.aload_n 0, 1) := by decide +kernel
theorem dX12_shares_208 : decode cX12_shares 208 = .ok (.getfield 406, 3) := by decide +kernel
theorem dX12_shares_211 : decode cX12_shares 211 = .ok (.sipush 2000, 3) := by decide +kernel
theorem dX12_shares_214 : decode cX12_shares 214 = .ok (.if_icmp .ne 16, 3) := by decide +kernel
theorem dX12_shares_217 : decode cX12_shares 217 = .ok (.aload_n 0, 1) := by decide +kernel
theorem dX12_shares_218 : decode cX12_shares 218 = .ok (.dup, 1) := by decide +kernel
theorem dX12_shares_219 : decode cX12_shares 219 = .ok (.getfield 409, 3) := by decide +kernel
theorem dX12_shares_222 : decode cX12_shares 222 = .ok (.iconst 1, 1) := by decide +kernel
theorem dX12_shares_223 : decode cX12_shares 223 = .ok (.iadd, 1) := by decide +kernel
theorem dX12_shares_224 : decode cX12_shares 224 = .ok (.putfield 409, 3) := by decide +kernel
theorem dX12_shares_227 : decode cX12_shares 227 = .ok (.goto 23, 3) := by decide +kernel
theorem dX12_shares_230 : decode cX12_shares 230 = .ok (.aload_n 0, 1) := by decide +kernel
theorem dX12_shares_231 : decode cX12_shares 231 = .ok (.getfield 224, 3) := by decide +kernel
theorem dX12_shares_234 : decode cX12_shares 234 = .ok (.aload_n 0, 1) := by decide +kernel
theorem dX12_shares_235 : decode cX12_shares 235 = .ok (.getfield 406, 3) := by decide +kernel
theorem dX12_shares_238 : decode cX12_shares 238 = .ok (.iload_n 3, 1) := by decide +kernel
theorem dX12_shares_239 : decode cX12_shares 239 = .ok (.iastore, 1) := by decide +kernel
theorem dX12_shares_240 : decode cX12_shares 240 = .ok (.aload_n 0, 1) := by decide +kernel
theorem dX12_shares_241 : decode cX12_shares 241 = .ok (.dup, 1) := by decide +kernel
theorem dX12_shares_242 : decode cX12_shares 242 = .ok (.getfield 406, 3) := by decide +kernel
theorem dX12_shares_245 : decode cX12_shares 245 = .ok (.iconst 1, 1) := by decide +kernel
theorem dX12_shares_246 : decode cX12_shares 246 = .ok (.iadd, 1) := by decide +kernel
theorem dX12_shares_247 : decode cX12_shares 247 = .ok (.putfield 406, 3) := by decide +kernel
theorem dX12_shares_250 : decode cX12_shares 250 = .ok (.aload_n 0, 1) := by decide +kernel
theorem dX12_shares_251 : decode cX12_shares 251 = .ok (.iload_n 1, 1) := by decide +kernel
theorem dX12_shares_252 : decode cX12_shares 252 = .ok (.invokevirtual 336, 3) := by decide +kernel
theorem dX12_shares_255 : decode cX12_shares 255 = .ok (.goto 115, 3) := by decide +kernel
theorem dX12_shares_258 : decode cX12_shares 258 = .ok (.aload_n 0, 1) := by decide +kernel
theorem dX12_shares_259 : decode cX12_shares 259 = .ok (.getfield 176, 3) := by decide +kernel
theorem dX12_shares_262 : decode cX12_shares 262 = .ok (.iload_n 1, 1) := by decide +kernel
theorem dX12_shares_263 : decode cX12_shares 263 = .ok (.iaload, 1) := by decide +kernel
theorem dX12_shares_264 : decode cX12_shares 264 = .ok (.ifCond .ne 13, 3) := by decide +kernel
theorem dX12_shares_267 : decode cX12_shares 267 = .ok (.aload_n 0, 1) := by decide +kernel
theorem dX12_shares_268 : decode cX12_shares 268 = .ok (.iload_n 1, 1) := by decide +kernel
theorem dX12_shares_269 : decode cX12_shares 269 = .ok (.iconst 4, 1) := by decide +kernel
theorem dX12_shares_270 : decode cX12_shares 270 = .ok (.iconst 0, 1) := by decide +kernel
theorem dX12_shares_271 : decode cX12_shares 271 = .ok (.invokevirtual 367, 3) := by decide +kernel
theorem dX12_shares_274 : decode cX12_shares 274 = .ok (.goto 96, 3) := by decide +kernel
theorem dX12_shares_277 : decode cX12_shares 277 = .ok (.aload_n 0, 1) := by decide +kernel
theorem dX12_shares_278 : decode cX12_shares 278 = .ok (.iload_n 1, 1) := by decide +kernel
theorem dX12_shares_279 : decode cX12_shares 279 = .ok (.iconst 1, 1) := by decide +kernel
theorem dX12_shares_280 : decode cX12_shares 280 = .ok (.invokevirtual 342, 3) := by decide +kernel
theorem dX12_shares_283 : decode cX12_shares 283 = .ok (.ifCond .eq 87, 3) := by decide +kernel
theorem dX12_shares_286 : decode cX12_shares 286 = .ok (.aload_n 0, 1) := by decide +kernel
theorem dX12_shares_287 : decode cX12_shares 287 = .ok (.iload_n 1, 1) := by decide +kernel
theorem dX12_shares_288 : decode cX12_shares 288 = .ok (.aload_n 0, 1) := by decide +kernel
theorem dX12_shares_289 : decode cX12_shares 289 = .ok (.getfield 179, 3) := by decide +kernel
theorem dX12_shares_292 : decode cX12_shares 292 = .ok (.bipush 8, 2) := by decide +kernel
theorem dX12_shares_294 : decode cX12_shares 294 = .ok (.iload_n 1, 1) := by decide +kernel
theorem dX12_shares_295 : decode cX12_shares 295 = .ok (.imul, 1) := by decide +kernel
theorem dX12_shares_296 : decode cX12_shares 296 = .ok (.iaload, 1) := by decide +kernel
theorem dX12_shares_297 : decode cX12_shares 297 = .ok (.invokevirtual 333, 3) := by decide +kernel
theorem dX12_shares_300 : decode cX12_shares 300 = .ok (.aload_n 0, 1) := by decide +kernel
theorem dX12_shares_301 : decode cX12_shares 301 = .ok (.getfield 176, 3) := by decide +kernel
theorem dX12_shares_304 : decode cX12_shares 304 = .ok (.iload_n 1, 1) := by decide +kernel
theorem dX12_shares_305 : decode cX12_shares 305 = .ok (.dup2, 1) := by decide +kernel
theorem dX12_shares_306 : decode cX12_shares 306 = .ok (.iaload, 1) := by decide +kernel
theorem dX12_shares_307 : decode cX12_shares 307 = .ok (.iconst 1, 1) := by decide +kernel
theorem dX12_shares_308 : decode cX12_shares 308 = .ok (.isub, 1) := by decide +kernel
theorem dX12_shares_309 : decode cX12_shares 309 = .ok (.iastore, 1) := by decide +kernel
theorem dX12_shares_310 : decode cX12_shares 310 = .ok (.iconst 0, 1) := by decide +kernel
theorem dX12_shares_311 : decode cX12_shares 311 = .ok (.istore 4, 2) := by decide +kernel
theorem dX12_shares_313 : decode cX12_shares 313 = .ok (.iload 4, 2) := by decide +kernel
theorem dX12_shares_315 : decode cX12_shares 315 = .ok (.aload_n 0, 1) := by decide +kernel
theorem dX12_shares_316 : decode cX12_shares 316 = .ok (.getfield 176, 3) := by decide +kernel
theorem dX12_shares_319 : decode cX12_shares 319 = .ok (.iload_n 1, 1) := by decide +kernel
theorem dX12_shares_320 : decode cX12_shares 320 = .ok (.iaload, 1) := by decide +kernel
theorem dX12_shares_321 : decode cX12_shares 321 = .ok (.if_icmp .ge 35, 3) := by decide +kernel
theorem dX12_shares_324 : decode cX12_shares 324 = .ok (.aload_n 0, 1) := by decide +kernel
theorem dX12_shares_325 : decode cX12_shares 325 = .ok (.getfield 179, 3) := by decide +kernel
theorem dX12_shares_328 : decode cX12_shares 328 = .ok (.bipush 8, 2) := by decide +kernel
theorem dX12_shares_330 : decode cX12_shares 330 = .ok (.iload_n 1, 1) := by decide +kernel
theorem dX12_shares_331 : decode cX12_shares 331 = .ok (.imul, 1) := by decide +kernel
theorem dX12_shares_332 : decode cX12_shares 332 = .ok (.iload 4, 2) := by decide +kernel
theorem dX12_shares_334 : decode cX12_shares 334 = .ok (.iadd, 1) := by decide +kernel
theorem dX12_shares_335 : decode cX12_shares 335 = .ok (.aload_n 0, 1) := by decide +kernel
theorem dX12_shares_336 : decode cX12_shares 336 = .ok (.getfield 179, 3) := by decide +kernel
theorem dX12_shares_339 : decode cX12_shares 339 = .ok (.bipush 8, 2) := by decide +kernel
theorem dX12_shares_341 : decode cX12_shares 341 = .ok (.iload_n 1, 1) := by decide +kernel
theorem dX12_shares_342 : decode cX12_shares 342 = .ok (.imul, 1) := by decide +kernel
theorem dX12_shares_343 : decode cX12_shares 343 = .ok (.iload 4, 2) := by decide +kernel
theorem dX12_shares_345 : decode cX12_shares 345 = .ok (.iadd, 1) := by decide +kernel
theorem dX12_shares_346 : decode cX12_shares 346 = .ok (.iconst 1, 1) := by decide +kernel
theorem dX12_shares_347 : decode cX12_shares 347 = .ok (.iadd, 1) := by decide +kernel
theorem dX12_shares_348 : decode cX12_shares 348 = .ok (.iaload, 1) := by decide +kernel
theorem dX12_shares_349 : decode cX12_shares 349 = .ok (.iastore, 1) := by decide +kernel
theorem dX12_shares_350 : decode cX12_shares 350 = .ok (.iinc 4 1, 3) := by decide +kernel
theorem dX12_shares_353 : decode cX12_shares 353 = .ok (.goto (-40), 3) := by decide +kernel
theorem dX12_shares_356 : decode cX12_shares 356 = .ok (.aload_n 0, 1) := by decide +kernel
theorem dX12_shares_357 : decode cX12_shares 357 = .ok (.iload_n 1, 1) := by decide +kernel
theorem dX12_shares_358 : decode cX12_shares 358 = .ok (.invokevirtual 336, 3) := by decide +kernel
theorem dX12_shares_361 : decode cX12_shares 361 = .ok (.goto 9, 3) := by decide +kernel
theorem dX12_shares_364 : decode cX12_shares 364 = .ok (.aload_n 0, 1) := by decide +kernel
theorem dX12_shares_365 : decode cX12_shares 365 = .ok (.iload_n 1, 1) := by decide +kernel
theorem dX12_shares_366 : decode cX12_shares 366 = .ok (.iload_n 3, 1) := by decide +kernel
theorem dX12_shares_367 : decode cX12_shares 367 = .ok (.invokevirtual 330, 3) := by decide +kernel
theorem dX12_shares_370 : decode cX12_shares 370 = .ok (.return_, 1) := by decide +kernel
theorem dX12_semaphore_0 : decode cX12_semaphore 0 = .ok (.iload_n 3, 1) := by decide +kernel
theorem dX12_semaphore_1 : decode cX12_semaphore 1 = .ok (.ifCond .lt 9, 3) := by decide +kernel
theorem dX12_semaphore_4 : decode cX12_semaphore 4 = .ok (.iload_n 3, 1) := by decide +kernel
theorem dX12_semaphore_5 : decode cX12_semaphore 5 = .ok (.bipush 8, 2) := by decide +kernel
theorem dX12_semaphore_7 : decode cX12_semaphore 7 = .ok (.if_icmp .lt 11, 3) := by decide +kernel
theorem dX12_semaphore_10 : decode cX12_semaphore 10 = .ok (.aload_n 0, 1) := by decide +kernel
theorem dX12_semaphore_11 : decode cX12_semaphore 11 = .ok (.iload_n 1, 1) := by decide +kernel
theorem dX12_semaphore_12 : decode cX12_semaphore 12 = .ok (.bipush (-8), 2) := by decide +kernel
theorem dX12_semaphore_14 : decode cX12_semaphore 14 = .ok (.invokevirtual 330, 3) := by decide +kernel
theorem dX12_semaphore_17 : decode cX12_semaphore 17 = .ok (.return_, 1) := by decide +kernel
theorem dX12_semaphore_18 : decode cX12_semaphore 18 = .ok (.aload_n 0, 1) := by decide +kernel
theorem dX12_semaphore_19 : decode cX12_semaphore 19 = .ok (.getfield 155, 3) := by decide +kernel
theorem dX12_semaphore_22 : decode cX12_semaphore 22 = .ok (.iload_n 1, 1) := by decide +kernel
theorem dX12_semaphore_23 : decode cX12_semaphore 23 = .ok (.dup2, 1) := by decide +kernel
theorem dX12_semaphore_24 : decode cX12_semaphore 24 = .ok (.iaload, 1) := by decide +kernel
theorem dX12_semaphore_25 : decode cX12_semaphore 25 = .ok (.iconst 1, 1) := by decide +kernel
theorem dX12_semaphore_26 : decode cX12_semaphore 26 = .ok (.isub, 1) := by decide +kernel
theorem dX12_semaphore_27 : decode cX12_semaphore 27 = .ok (.iastore, 1) := by decide +kernel
theorem dX12_semaphore_28 : decode cX12_semaphore 28 = .ok (.aload_n 0, 1) := by decide +kernel
theorem dX12_semaphore_29 : decode cX12_semaphore 29 = .ok (.iload_n 1, 1) := by decide +kernel
theorem dX12_semaphore_30 : decode cX12_semaphore 30 = .ok (.invokevirtual 336, 3) := by decide +kernel
theorem dX12_semaphore_33 : decode cX12_semaphore 33 = .ok (.iload_n 2, 1) := by decide +kernel
theorem dX12_semaphore_34 : decode cX12_semaphore 34 = .ok (.bipush 34, 2) := by decide +kernel
theorem dX12_semaphore_36 : decode cX12_semaphore 36 = .ok (.if_icmp .ne 63, 3) := by decide +kernel
theorem dX12_semaphore_39 : decode cX12_semaphore 39 = .ok (.aload_n 0, 1) := by decide +kernel
theorem dX12_semaphore_40 : decode cX12_semaphore 40 = .ok (.getfield 200, 3) := by decide +kernel
theorem dX12_semaphore_43 : decode cX12_semaphore 43 = .ok (.iload_n 3, 1) := by decide +kernel
theorem dX12_semaphore_44 : decode cX12_semaphore 44 = .ok (.iaload, 1) := by decide +kernel
theorem dX12_semaphore_45 : decode cX12_semaphore 45 = .ok (.ifCond .le 16, 3) := by decide +kernel
theorem dX12_semaphore_48 : decode cX12_semaphore 48 = .ok (.aload_n 0, 1) := by decide +kernel
theorem dX12_semaphore_49 : decode cX12_semaphore 49 = .ok (.getfield 200, 3) := by decide +kernel
theorem dX12_semaphore_52 : decode cX12_semaphore 52 = .ok (.iload_n 3, 1) := by decide +kernel
theorem dX12_semaphore_53 : decode cX12_semaphore 53 = .ok (.dup2, 1) := by decide +kernel
theorem dX12_semaphore_54 : decode cX12_semaphore 54 = .ok (.iaload, 1) := by decide +kernel
theorem dX12_semaphore_55 : decode cX12_semaphore 55 = .ok (.iconst 1, 1) := by decide +kernel
theorem dX12_semaphore_56 : decode cX12_semaphore 56 = .ok (.isub, 1) := by decide +kernel
theorem dX12_semaphore_57 : decode cX12_semaphore 57 = .ok (.iastore, 1) := by decide +kernel
theorem dX12_semaphore_58 : decode cX12_semaphore 58 = .ok (.goto 152, 3) := by decide +kernel
theorem dX12_semaphore_61 : decode cX12_semaphore 61 = .ok (.aload_n 0, 1) := by decide +kernel
theorem dX12_semaphore_62 : decode cX12_semaphore 62 = .ok (.iload_n 1, 1) := by decide +kernel
theorem dX12_semaphore_63 : decode cX12_semaphore 63 = .ok (.bipush 6, 2) := by decide +kernel
theorem dX12_semaphore_65 : decode cX12_semaphore 65 = .ok (.iload_n 3, 1) := by decide +kernel
theorem dX12_semaphore_66 : decode cX12_semaphore 66 = .ok (.invokevirtual 367, 3) := by decide +kernel
theorem dX12_semaphore_69 : decode cX12_semaphore 69 = .ok (.aload_n 0, 1) := by decide +kernel
theorem dX12_semaphore_70 : decode cX12_semaphore 70 = .ok (.getfield 203, 3) := by decide +kernel
theorem dX12_semaphore_73 : decode cX12_semaphore 73 = .ok (.bipush 13, 2) := by decide +kernel
theorem dX12_semaphore_75 : decode cX12_semaphore 75 = .ok (.iload_n 3, 1) := by decide +kernel
theorem dX12_semaphore_76 : decode cX12_semaphore 76 = .ok (.imul, 1) := by decide +kernel
theorem dX12_semaphore_77 : decode cX12_semaphore 77 = .ok (.aload_n 0, 1) := by decide +kernel
theorem dX12_semaphore_78 : decode cX12_semaphore 78 = .ok (.getfield 206, 3) := by decide +kernel
theorem dX12_semaphore_81 : decode cX12_semaphore 81 = .ok (.iload_n 3, 1) := by decide +kernel
theorem dX12_semaphore_82 : decode cX12_semaphore 82 = .ok (.iaload, 1) := by decide +kernel
theorem dX12_semaphore_83 : decode cX12_semaphore 83 = .ok (.iadd, 1) := by decide +kernel
theorem dX12_semaphore_84 : decode cX12_semaphore 84 = .ok (.iload_n 1, 1) := by decide +kernel
theorem dX12_semaphore_85 : decode cX12_semaphore 85 = .ok (.iastore, 1) := by decide +kernel
theorem dX12_semaphore_86 : decode cX12_semaphore 86 = .ok (.aload_n 0, 1) := by decide +kernel
theorem dX12_semaphore_87 : decode cX12_semaphore 87 = .ok (.getfield 206, 3) := by decide +kernel
theorem dX12_semaphore_90 : decode cX12_semaphore 90 = .ok (.iload_n 3, 1) := by decide +kernel
theorem dX12_semaphore_91 : decode cX12_semaphore 91 = .ok (.dup2, 1) := by decide +kernel
theorem dX12_semaphore_92 : decode cX12_semaphore 92 = .ok (.iaload, 1) := by decide +kernel
theorem dX12_semaphore_93 : decode cX12_semaphore 93 = .ok (.iconst 1, 1) := by decide +kernel
theorem dX12_semaphore_94 : decode cX12_semaphore 94 = .ok (.iadd, 1) := by decide +kernel
theorem dX12_semaphore_95 : decode cX12_semaphore 95 = .ok (.iastore, 1) := by decide +kernel
theorem dX12_semaphore_96 : decode cX12_semaphore 96 = .ok (.goto 114, 3) := by decide +kernel
theorem dX12_semaphore_99 : decode cX12_semaphore 99 = .ok (.aload_n 0, 1) := by decide +kernel
theorem dX12_semaphore_100 : decode cX12_semaphore 100 = .ok (.getfield 206, 3) := by decide +kernel
theorem dX12_semaphore_103 : decode cX12_semaphore 103 = .ok (.iload_n 3, 1) := by decide +kernel
theorem dX12_semaphore_104 : decode cX12_semaphore 104 = .ok (.iaload, 1) := by decide +kernel
theorem dX12_semaphore_105 : decode cX12_semaphore 105 = .ok (.ifCond .le 79, 3) := by decide +kernel
theorem dX12_semaphore_108 : decode cX12_semaphore 108 = .ok (.aload_n 0, 1) := by decide +kernel
theorem dX12_semaphore_109 : decode cX12_semaphore 109 = .ok (.getfield 203, 3) := by decide +kernel
theorem dX12_semaphore_112 : decode cX12_semaphore 112 = .ok (.bipush 13, 2) := by decide +kernel
theorem dX12_semaphore_114 : decode cX12_semaphore 114 = .ok (.iload_n 3, 1) := by decide +kernel
theorem dX12_semaphore_115 : decode cX12_semaphore 115 = .ok (.imul, 1) := by decide +kernel
theorem dX12_semaphore_116 : decode cX12_semaphore 116 = .ok (.iaload, 1) := by decide +kernel
theorem dX12_semaphore_117 : decode cX12_semaphore 117 = .ok (.istore 4, 2) := by decide +kernel
theorem dX12_semaphore_119 : decode cX12_semaphore 119 = .ok (.aload_n 0, 1) := by decide +kernel
theorem dX12_semaphore_120 : decode cX12_semaphore 120 = .ok (.getfield 206, 3) := by decide +kernel
theorem dX12_semaphore_123 : decode cX12_semaphore 123 = .ok (.iload_n 3, 1) := by decide +kernel
theorem dX12_semaphore_124 : decode cX12_semaphore 124 = .ok (.dup2, 1) := by decide +kernel
theorem dX12_semaphore_125 : decode cX12_semaphore 125 = .ok (.iaload, 1) := by decide +kernel
theorem dX12_semaphore_126 : decode cX12_semaphore 126 = .ok (.iconst 1, 1) := by decide +kernel
theorem dX12_semaphore_127 : decode cX12_semaphore 127 = .ok (.isub, 1) := by decide +kernel
theorem dX12_semaphore_128 : decode cX12_semaphore 128 = .ok (.iastore, 1) := by decide +kernel
theorem dX12_semaphore_129 : decode cX12_semaphore 129 = .ok (.iconst 0, 1) := by decide +kernel
theorem dX12_semaphore_130 : decode cX12_semaphore 130 = .ok (.istore 5, 2) := by decide +kernel
theorem dX12_semaphore_132 : decode cX12_semaphore 132 = .ok (.iload 5, 2) := by decide +kernel
theorem dX12_semaphore_134 : decode cX12_semaphore 134 = .ok (.aload_n 0, 1) := by decide +kernel
theorem dX12_semaphore_135 : decode cX12_semaphore 135 = .ok (.getfield 206, 3) := by decide +kernel
theorem dX12_semaphore_138 : decode cX12_semaphore 138 = .ok (.iload_n 3, 1) := by decide +kernel
theorem dX12_semaphore_139 : decode cX12_semaphore 139 = .ok (.iaload, 1) := by decide +kernel
theorem dX12_semaphore_140 : decode cX12_semaphore 140 = .ok (.if_icmp .ge 35, 3) := by decide +kernel
theorem dX12_semaphore_143 : decode cX12_semaphore 143 = .ok (.aload_n 0, 1) := by decide +kernel
theorem dX12_semaphore_144 : decode cX12_semaphore 144 = .ok (.getfield 203, 3) := by decide +kernel
theorem dX12_semaphore_147 : decode cX12_semaphore 147 = .ok (.bipush 13, 2) := by decide +kernel
theorem dX12_semaphore_149 : decode cX12_semaphore 149 = .ok (.iload_n 3, 1) := by decide +kernel
theorem dX12_semaphore_150 : decode cX12_semaphore 150 = .ok (.imul, 1) := by decide +kernel
theorem dX12_semaphore_151 : decode cX12_semaphore 151 = .ok (.iload 5, 2) := by decide +kernel
theorem dX12_semaphore_153 : decode cX12_semaphore 153 = .ok (.iadd, 1) := by decide +kernel
theorem dX12_semaphore_154 : decode cX12_semaphore 154 = .ok (.aload_n 0, 1) := by decide +kernel
theorem dX12_semaphore_155 : decode cX12_semaphore 155 = .ok (.getfield 203, 3) := by decide +kernel
theorem dX12_semaphore_158 : decode cX12_semaphore 158 = .ok (.bipush 13, 2) := by decide +kernel
theorem dX12_semaphore_160 : decode cX12_semaphore 160 = .ok (.iload_n 3, 1) := by decide +kernel
theorem dX12_semaphore_161 : decode cX12_semaphore 161 = .ok (.imul, 1) := by decide +kernel
theorem dX12_semaphore_162 : decode cX12_semaphore 162 = .ok (.iload 5, 2) := by decide +kernel
theorem dX12_semaphore_164 : decode cX12_semaphore 164 = .ok (.iadd, 1) := by decide +kernel
theorem dX12_semaphore_165 : decode cX12_semaphore 165 = .ok (.iconst 1, 1) := by decide +kernel
theorem dX12_semaphore_166 : decode cX12_semaphore 166 = .ok (.iadd, 1) := by decide +kernel
theorem dX12_semaphore_167 : decode cX12_semaphore 167 = .ok (.iaload, 1) := by decide +kernel
theorem dX12_semaphore_168 : decode cX12_semaphore 168 = .ok (.iastore, 1) := by decide +kernel
theorem dX12_semaphore_169 : decode cX12_semaphore 169 = .ok (.iinc 5 1, 3) := by decide +kernel
theorem dX12_semaphore_172 : decode cX12_semaphore 172 = .ok (.goto (-40), 3) := by decide +kernel
theorem dX12_semaphore_175 : decode cX12_semaphore 175 = .ok (.aload_n 0, 1) := by decide +kernel
theorem dX12_semaphore_176 : decode cX12_semaphore 176 = .ok (.iload 4, 2) := by decide +kernel
theorem dX12_semaphore_178 : decode cX12_semaphore 178 = .ok (.invokevirtual 324, 3) := by decide +kernel
theorem dX12_semaphore_181 : decode cX12_semaphore 181 = .ok (.goto 29, 3) := by decide +kernel
theorem dX12_semaphore_184 : decode cX12_semaphore 184 = .ok (.aload_n 0, 1) := by decide +kernel
theorem dX12_semaphore_185 : decode cX12_semaphore 185 = .ok (.getfield 200, 3) := by decide +kernel
theorem dX12_semaphore_188 : decode cX12_semaphore 188 = .ok (.iload_n 3, 1) := by decide +kernel
theorem dX12_semaphore_189 : decode cX12_semaphore 189 = .ok (.dup2, 1) := by decide +kernel
theorem dX12_semaphore_190 : decode cX12_semaphore 190 = .ok (.iaload, 1) := by decide +kernel
theorem dX12_semaphore_191 : decode cX12_semaphore 191 = .ok (.aload_n 0, 1) := by decide +kernel
theorem dX12_semaphore_192 : decode cX12_semaphore 192 = .ok (.getfield 200, 3) := by decide +kernel
theorem dX12_semaphore_195 : decode cX12_semaphore 195 = .ok (.iload_n 3, 1) := by decide +kernel
theorem dX12_semaphore_196 : decode cX12_semaphore 196 = .ok (.iaload, 1) := by decide +kernel
theorem dX12_semaphore_197 : decode cX12_semaphore 197 = .ok (.ldc_w 412, 3) := by decide +kernel
theorem dX12_semaphore_200 : decode cX12_semaphore 200 = .ok (.if_icmp .ge 7, 3) := by decide +kernel
theorem dX12_semaphore_203 : decode cX12_semaphore 203 = .ok (.iconst 1, 1) := by decide +kernel
theorem dX12_semaphore_204 : decode cX12_semaphore 204 = .ok (.goto 4, 3) := by decide +kernel
theorem dX12_semaphore_207 : decode cX12_semaphore 207 = .ok (.iconst 0, 1) := by decide +kernel
theorem dX12_semaphore_208 : decode cX12_semaphore 208 = .ok (.iadd, 1) := by decide +kernel
theorem dX12_semaphore_209 : decode cX12_semaphore 209 = .ok (.iastore, 1) := by decide +kernel
theorem dX12_semaphore_210 : decode cX12_semaphore 210 = .ok (.return_, 1) := by decide +kernel
theorem dX12_act_0 : decode cX12_act 0 = .ok (.sipush 256, 3) := by decide +kernel
theorem dX12_act_3 : decode cX12_act 3 = .ok (.aload_n 0, 1) := by decide +kernel
theorem dX12_act_4 : decode cX12_act 4 = .ok (.getfield 149, 3) := by decide +kernel
theorem dX12_act_7 : decode cX12_act 7 = .ok (.iload_n 1, 1) := by decide +kernel
theorem dX12_act_8 : decode cX12_act 8 = .ok (.iaload, 1) := by decide +kernel
theorem dX12_act_9 : decode cX12_act 9 = .ok (.imul, 1) := by decide +kernel
theorem dX12_act_10 : decode cX12_act 10 = .ok (.aload_n 0, 1) := by decide +kernel
theorem dX12_act_11 : decode cX12_act 11 = .ok (.getfield 152, 3) := by decide +kernel
theorem dX12_act_14 : decode cX12_act 14 = .ok (.iload_n 1, 1) := by decide +kernel
theorem dX12_act_15 : decode cX12_act 15 = .ok (.iaload, 1) := by decide +kernel
theorem dX12_act_16 : decode cX12_act 16 = .ok (.iadd, 1) := by decide +kernel
theorem dX12_act_17 : decode cX12_act 17 = .ok (.istore_n 2, 1) := by decide +kernel
theorem dX12_act_18 : decode cX12_act 18 = .ok (.aload_n 0, 1) := by decide +kernel
theorem dX12_act_19 : decode cX12_act 19 = .ok (.iconst 0, 1) := by decide +kernel
theorem dX12_act_20 : decode cX12_act 20 = .ok (.putfield 392, 3) := by decide +kernel
theorem dX12_act_23 : decode cX12_act 23 = .ok (.aload_n 0, 1) := by decide +kernel
theorem dX12_act_24 : decode cX12_act 24 = .ok (.getfield 152, 3) := by decide +kernel
theorem dX12_act_27 : decode cX12_act 27 = .ok (.iload_n 1, 1) := by decide +kernel
theorem dX12_act_28 : decode cX12_act 28 = .ok (.iaload, 1) := by decide +kernel
theorem dX12_act_29 : decode cX12_act 29 = .ok (.aload_n 0, 1) := by decide +kernel
theorem dX12_act_30 : decode cX12_act 30 = .ok (.getfield 115, 3) := by decide +kernel
theorem dX12_act_33 : decode cX12_act 33 = .ok (.aload_n 0, 1) := by decide +kernel
theorem dX12_act_34 : decode cX12_act 34 = .ok (.getfield 149, 3) := by decide +kernel
theorem dX12_act_37 : decode cX12_act 37 = .ok (.iload_n 1, 1) := by decide +kernel
theorem dX12_act_38 : decode cX12_act 38 = .ok (.iaload, 1) := by decide +kernel
theorem dX12_act_39 : decode cX12_act 39 = .ok (.iaload, 1) := by decide +kernel
theorem dX12_act_40 : decode cX12_act 40 = .ok (.if_icmp .lt 11, 3) := by decide +kernel
theorem dX12_act_43 : decode cX12_act 43 = .ok (.aload_n 0, 1) := by decide +kernel
theorem dX12_act_44 : decode cX12_act 44 = .ok (.iload_n 1, 1) := by decide +kernel
theorem dX12_act_45 : decode cX12_act 45 = .ok (.bipush (-7), 2) := by decide +kernel
theorem dX12_act_47 : decode cX12_act 47 = .ok (.invokevirtual 330, 3) := by decide +kernel
theorem dX12_act_50 : decode cX12_act 50 = .ok (.return_, 1) := by decide +kernel
theorem dX12_act_51 : decode cX12_act 51 = .ok (.aload_n 0, 1) := by decide +kernel
theorem dX12_act_52 : decode cX12_act 52 = .ok (.getfield 109, 3) := by decide +kernel
theorem dX12_act_55 : decode cX12_act 55 = .ok (.iload_n 2, 1) := by decide +kernel
theorem dX12_act_56 : decode cX12_act 56 = .ok (.iaload, 1) := by decide +kernel
theorem dX12_act_57 : decode cX12_act 57 = .ok (.istore_n 3, 1) := by decide +kernel
theorem dX12_act_58 : decode cX12_act 58 = .ok (.aload_n 0, 1) := by decide +kernel
theorem dX12_act_59 : decode cX12_act 59 = .ok (.getfield 155, 3) := by decide +kernel
theorem dX12_act_62 : decode cX12_act 62 = .ok (.iload_n 1, 1) := by decide +kernel
theorem dX12_act_63 : decode cX12_act 63 = .ok (.iaload, 1) := by decide +kernel
theorem dX12_act_64 : decode cX12_act 64 = .ok (.aload_n 0, 1) := by decide +kernel
theorem dX12_act_65 : decode cX12_act 65 = .ok (.getfield 101, 3) := by decide +kernel
theorem dX12_act_68 : decode cX12_act 68 = .ok (.iload_n 3, 1) := by decide +kernel
theorem dX12_act_69 : decode cX12_act 69 = .ok (.iaload, 1) := by decide +kernel
theorem dX12_act_70 : decode cX12_act 70 = .ok (.if_icmp .ge 13, 3) := by decide +kernel
theorem dX12_act_73 : decode cX12_act 73 = .ok (.aload_n 0, 1) := by decide +kernel
theorem dX12_act_74 : decode cX12_act 74 = .ok (.iload_n 1, 1) := by decide +kernel
theorem dX12_act_75 : decode cX12_act 75 = .ok (.bipush (-2), 2) := by decide +kernel
theorem dX12_act_77 : decode cX12_act 77 = .ok (.invokevirtual 330, 3) := by decide +kernel
theorem dX12_act_80 : decode cX12_act 80 = .ok (.goto 91, 3) := by decide +kernel
theorem dX12_act_83 : decode cX12_act 83 = .ok (.iload_n 3, 1) := by decide +kernel
theorem dX12_act_84 : decode cX12_act 84 = .ok (.ifCond .ne 27, 3) := by decide +kernel
theorem dX12_act_87 : decode cX12_act 87 = .ok (.aload_n 0, 1) := by decide +kernel
theorem dX12_act_88 : decode cX12_act 88 = .ok (.iload_n 1, 1) := by decide +kernel
theorem dX12_act_89 : decode cX12_act 89 = .ok (.iconst 1, 1) := by decide +kernel
theorem dX12_act_90 : decode cX12_act 90 = .ok (.invokevirtual 342, 3) := by decide +kernel
theorem dX12_act_93 : decode cX12_act 93 = .ok (.ifCond .eq 78, 3) := by decide +kernel
theorem dX12_act_96 : decode cX12_act 96 = .ok (.aload_n 0, 1) := by decide +kernel
theorem dX12_act_97 : decode cX12_act 97 = .ok (.iload_n 1, 1) := by decide +kernel
theorem dX12_act_98 : decode cX12_act 98 = .ok (.iconst 0, 1) := by decide +kernel
theorem dX12_act_99 : decode cX12_act 99 = .ok (.aload_n 0, 1) := by decide +kernel
theorem dX12_act_100 : decode cX12_act 100 = .ok (.getfield 112, 3) := by decide +kernel
theorem dX12_act_103 : decode cX12_act 103 = .ok (.iload_n 2, 1) := by decide +kernel
theorem dX12_act_104 : decode cX12_act 104 = .ok (.iaload, 1) := by decide +kernel
theorem dX12_act_105 : decode cX12_act 105 = .ok (.invokevirtual 345, 3) := by decide +kernel
theorem dX12_act_108 : decode cX12_act 108 = .ok (.goto 63, 3) := by decide +kernel
theorem dX12_act_111 : decode cX12_act 111 = .ok (.iload_n 3, 1) := by decide +kernel
theorem dX12_act_112 : decode cX12_act 112 = .ok (.bipush 20, 2) := by decide +kernel
theorem dX12_act_114 : decode cX12_act 114 = .ok (.if_icmp .ge 12, 3) := by decide +kernel
theorem dX12_act_117 : decode cX12_act 117 = .ok (.aload_n 0, 1) := by decide +kernel
theorem dX12_act_118 : decode cX12_act 118 = .ok (.iload_n 1, 1) := by decide +kernel
theorem dX12_act_119 : decode cX12_act 119 = .ok (.iload_n 3, 1) := by decide +kernel
theorem dX12_act_120 : decode cX12_act 120 = .ok (.invokevirtual 413, 3) := by decide +kernel
theorem dX12_act_123 : decode cX12_act 123 = .ok (.goto 48, 3) := by decide +kernel
theorem dX12_act_126 : decode cX12_act 126 = .ok (.iload_n 3, 1) := by decide +kernel
theorem dX12_act_127 : decode cX12_act 127 = .ok (.bipush 20, 2) := by decide +kernel
theorem dX12_act_129 : decode cX12_act 129 = .ok (.if_icmp .eq 21, 3) := by decide +kernel
theorem dX12_act_132 : decode cX12_act 132 = .ok (.iload_n 3, 1) := by decide +kernel
theorem dX12_act_133 : decode cX12_act 133 = .ok (.bipush 21, 2) := by decide +kernel
theorem dX12_act_135 : decode cX12_act 135 = .ok (.if_icmp .eq 15, 3) := by decide +kernel
theorem dX12_act_138 : decode cX12_act 138 = .ok (.iload_n 3, 1) := by decide +kernel
theorem dX12_act_139 : decode cX12_act 139 = .ok (.bipush 23, 2) := by decide +kernel
theorem dX12_act_141 : decode cX12_act 141 = .ok (.if_icmp .lt 18, 3) := by decide +kernel
theorem dX12_act_144 : decode cX12_act 144 = .ok (.iload_n 3, 1) := by decide +kernel
theorem dX12_act_145 : decode cX12_act 145 = .ok (.bipush 25, 2) := by decide +kernel
theorem dX12_act_147 : decode cX12_act 147 = .ok (.if_icmp .gt 12, 3) := by decide +kernel
theorem dX12_act_150 : decode cX12_act 150 = .ok (.aload_n 0, 1) := by decide +kernel
theorem dX12_act_151 : decode cX12_act 151 = .ok (.iload_n 1, 1) := by decide +kernel
theorem dX12_act_152 : decode cX12_act 152 = .ok (.iload_n 3, 1) := by decide +kernel
theorem dX12_act_153 : decode cX12_act 153 = .ok (.invokevirtual 416, 3) := by decide +kernel
theorem dX12_act_156 : decode cX12_act 156 = .ok (.goto 15, 3) := by decide +kernel
theorem dX12_act_159 : decode cX12_act 159 = .ok (.aload_n 0, 1) := by decide +kernel
theorem dX12_act_160 : decode cX12_act 160 = .ok (.iload_n 1, 1) := by decide +kernel
theorem dX12_act_161 : decode cX12_act 161 = .ok (.iload_n 3, 1) := by decide +kernel
theorem dX12_act_162 : decode cX12_act 162 = .ok (.aload_n 0, 1) := by decide +kernel
theorem dX12_act_163 : decode cX12_act 163 = .ok (.getfield 112, 3) := by decide +kernel
theorem dX12_act_166 : decode cX12_act 166 = .ok (.iload_n 2, 1) := by decide +kernel
theorem dX12_act_167 : decode cX12_act 167 = .ok (.iaload, 1) := by decide +kernel
theorem dX12_act_168 : decode cX12_act 168 = .ok (.invokevirtual 419, 3) := by decide +kernel
theorem dX12_act_171 : decode cX12_act 171 = .ok (.return_, 1) := by decide +kernel
theorem dX12_wakeSleepers_0 : decode cX12_wakeSleepers 0 = .ok (.iconst 1, 1) := by decide +kernel
theorem dX12_wakeSleepers_1 : decode cX12_wakeSleepers 1 = .ok (.istore_n 1, 1) := by decide +kernel
theorem dX12_wakeSleepers_2 : decode cX12_wakeSleepers 2 = .ok (.iload_n 1, 1) := by decide +kernel
theorem dX12_wakeSleepers_3 : decode cX12_wakeSleepers 3 = .ok (.ifCond .le 89, 3) := by decide +kernel
theorem dX12_wakeSleepers_6 : decode cX12_wakeSleepers 6 = .ok (.iconst 0, 1) := by decide +kernel
theorem dX12_wakeSleepers_7 : decode cX12_wakeSleepers 7 = .ok (.istore_n 1, 1) := by decide +kernel
theorem dX12_wakeSleepers_8 : decode cX12_wakeSleepers 8 = .ok (.iconst 1, 1) := by decide +kernel
theorem dX12_wakeSleepers_9 : decode cX12_wakeSleepers 9 = .ok (.istore_n 2, 1) := by decide +kernel
theorem dX12_wakeSleepers_10 : decode cX12_wakeSleepers 10 = .ok (.iload_n 2, 1) := by decide +kernel
theorem dX12_wakeSleepers_11 : decode cX12_wakeSleepers 11 = .ok (.bipush 12, 2) := by decide +kernel
theorem dX12_wakeSleepers_13 : decode cX12_wakeSleepers 13 = .ok (.if_icmp .gt 67, 3) := by decide +kernel
theorem dX12_wakeSleepers_16 : decode cX12_wakeSleepers 16 = .ok (.aload_n 0, 1) := by decide +kernel
theorem dX12_wakeSleepers_17 : decode cX12_wakeSleepers 17 = .ok (.getfield 137, 3) := by decide +kernel
theorem dX12_wakeSleepers_20 : decode cX12_wakeSleepers 20 = .ok (.iload_n 2, 1) := by decide +kernel
theorem dX12_wakeSleepers_21 : decode cX12_wakeSleepers 21 = .ok (.iaload, 1) := by decide +kernel
theorem dX12_wakeSleepers_22 : decode cX12_wakeSleepers 22 = .ok (.iconst 5, 1) := by decide +kernel
theorem dX12_wakeSleepers_23 : decode cX12_wakeSleepers 23 = .ok (.if_icmp .ne 20, 3) := by decide +kernel
theorem dX12_wakeSleepers_26 : decode cX12_wakeSleepers 26 = .ok (.aload_n 0, 1) := by decide +kernel
theorem dX12_wakeSleepers_27 : decode cX12_wakeSleepers 27 = .ok (.getfield 185, 3) := by decide +kernel
theorem dX12_wakeSleepers_30 : decode cX12_wakeSleepers 30 = .ok (.iload_n 2, 1) := by decide +kernel
theorem dX12_wakeSleepers_31 : decode cX12_wakeSleepers 31 = .ok (.iaload, 1) := by decide +kernel
theorem dX12_wakeSleepers_32 : decode cX12_wakeSleepers 32 = .ok (.aload_n 0, 1) := by decide +kernel
theorem dX12_wakeSleepers_33 : decode cX12_wakeSleepers 33 = .ok (.getfield 399, 3) := by decide +kernel
theorem dX12_wakeSleepers_36 : decode cX12_wakeSleepers 36 = .ok (.if_icmp .gt 7, 3) := by decide +kernel
theorem dX12_wakeSleepers_39 : decode cX12_wakeSleepers 39 = .ok (.iconst 1, 1) := by decide +kernel
theorem dX12_wakeSleepers_40 : decode cX12_wakeSleepers 40 = .ok (.goto 4, 3) := by decide +kernel
theorem dX12_wakeSleepers_43 : decode cX12_wakeSleepers 43 = .ok (.iconst 0, 1) := by decide +kernel
theorem dX12_wakeSleepers_44 : decode cX12_wakeSleepers 44 = .ok (.istore_n 3, 1) := by decide +kernel
theorem dX12_wakeSleepers_45 : decode cX12_wakeSleepers 45 = .ok (.iload_n 3, 1) := by decide +kernel
theorem dX12_wakeSleepers_46 : decode cX12_wakeSleepers 46 = .ok (.ifCond .eq 26, 3) := by decide +kernel
theorem dX12_wakeSleepers_49 : decode cX12_wakeSleepers 49 = .ok (.iload_n 1, 1) := by decide +kernel
theorem dX12_wakeSleepers_50 : decode cX12_wakeSleepers 50 = .ok (.ifCond .eq 18, 3) := by decide +kernel
theorem dX12_wakeSleepers_53 : decode cX12_wakeSleepers 53 = .ok (.aload_n 0, 1) := by decide +kernel
theorem dX12_wakeSleepers_54 : decode cX12_wakeSleepers 54 = .ok (.getfield 185, 3) := by decide +kernel
theorem dX12_wakeSleepers_57 : decode cX12_wakeSleepers 57 = .ok (.iload_n 2, 1) := by decide +kernel
theorem dX12_wakeSleepers_58 : decode cX12_wakeSleepers 58 = .ok (.iaload, 1) := by decide +kernel
theorem dX12_wakeSleepers_59 : decode cX12_wakeSleepers 59 = .ok (.aload_n 0, 1) := by decide +kernel
theorem dX12_wakeSleepers_60 : decode cX12_wakeSleepers 60 = .ok (.getfield 185, 3) := by decide +kernel
theorem dX12_wakeSleepers_63 : decode cX12_wakeSleepers 63 = .ok (.iload_n 1, 1) := by decide +kernel
theorem dX12_wakeSleepers_64 : decode cX12_wakeSleepers 64 = .ok (.iaload, 1) := by decide +kernel
theorem dX12_wakeSleepers_65 : decode cX12_wakeSleepers 65 = .ok (.if_icmp .ge 7, 3) := by decide +kernel
theorem dX12_wakeSleepers_68 : decode cX12_wakeSleepers 68 = .ok (.iload_n 2, 1) := by decide +kernel
theorem dX12_wakeSleepers_69 : decode cX12_wakeSleepers 69 = .ok (.goto 4, 3) := by decide +kernel
theorem dX12_wakeSleepers_72 : decode cX12_wakeSleepers 72 = .ok (.iload_n 1, 1) := by decide +kernel
theorem dX12_wakeSleepers_73 : decode cX12_wakeSleepers 73 = .ok (.istore_n 1, 1) := by decide +kernel
theorem dX12_wakeSleepers_74 : decode cX12_wakeSleepers 74 = .ok (.iinc 2 1, 3) := by decide +kernel
theorem dX12_wakeSleepers_77 : decode cX12_wakeSleepers 77 = .ok (.goto (-67), 3) := by decide +kernel
theorem dX12_wakeSleepers_80 : decode cX12_wakeSleepers 80 = .ok (.iload_n 1, 1) := by decide +kernel
theorem dX12_wakeSleepers_81 : decode cX12_wakeSleepers 81 = .ok (.ifCond .le (-79), 3) := by decide +kernel
theorem dX12_wakeSleepers_84 : decode cX12_wakeSleepers 84 = .ok (.aload_n 0, 1) := by decide +kernel
theorem dX12_wakeSleepers_85 : decode cX12_wakeSleepers 85 = .ok (.iload_n 1, 1) := by decide +kernel
theorem dX12_wakeSleepers_86 : decode cX12_wakeSleepers 86 = .ok (.invokevirtual 324, 3) := by decide +kernel
theorem dX12_wakeSleepers_89 : decode cX12_wakeSleepers 89 = .ok (.goto (-87), 3) := by decide +kernel
theorem dX12_wakeSleepers_92 : decode cX12_wakeSleepers 92 = .ok (.return_, 1) := by decide +kernel
theorem dX12_turn_0 : decode cX12_turn 0 = .ok (.aload_n 0, 1) := by decide +kernel
theorem dX12_turn_1 : decode cX12_turn 1 = .ok (.dup, 1) := by decide +kernel
theorem dX12_turn_2 : decode cX12_turn 2 = .ok (.getfield 399, 3) := by decide +kernel
theorem dX12_turn_5 : decode cX12_turn 5 = .ok (.iconst 1, 1) := by decide +kernel
theorem dX12_turn_6 : decode cX12_turn 6 = .ok (.iadd, 1) := by decide +kernel
theorem dX12_turn_7 : decode cX12_turn 7 = .ok (.putfield 399, 3) := by decide +kernel
theorem dX12_turn_10 : decode cX12_turn 10 = .ok (.aload_n 0, 1) := by decide +kernel
theorem dX12_turn_11 : decode cX12_turn 11 = .ok (.invokevirtual 422, 3) := by decide +kernel
theorem dX12_turn_14 : decode cX12_turn 14 = .ok (.iconst 0, 1) := by decide +kernel
theorem dX12_turn_15 : decode cX12_turn 15 = .ok (.istore_n 1, 1) := by decide +kernel
theorem dX12_turn_16 : decode cX12_turn 16 = .ok (.iload_n 1, 1) := by decide +kernel
theorem dX12_turn_17 : decode cX12_turn 17 = .ok (.iconst 3, 1) := by decide +kernel
theorem dX12_turn_18 : decode cX12_turn 18 = .ok (.if_icmp .ge 18, 3) := by decide +kernel
theorem dX12_turn_21 : decode cX12_turn 21 = .ok (.aload_n 0, 1) := by decide +kernel
theorem dX12_turn_22 : decode cX12_turn 22 = .ok (.getfield 194, 3) := by decide +kernel
theorem dX12_turn_25 : decode cX12_turn 25 = .ok (.iload_n 1, 1) := by decide +kernel
theorem dX12_turn_26 : decode cX12_turn 26 = .ok (.iaload, 1) := by decide +kernel
theorem dX12_turn_27 : decode cX12_turn 27 = .ok (.ifCond .ne 9, 3) := by decide +kernel
theorem dX12_turn_30 : decode cX12_turn 30 = .ok (.iinc 1 1, 3) := by decide +kernel
theorem dX12_turn_33 : decode cX12_turn 33 = .ok (.goto (-17), 3) := by decide +kernel
theorem dX12_turn_36 : decode cX12_turn 36 = .ok (.iload_n 1, 1) := by decide +kernel
theorem dX12_turn_37 : decode cX12_turn 37 = .ok (.iconst 3, 1) := by decide +kernel
theorem dX12_turn_38 : decode cX12_turn 38 = .ok (.if_icmp .ne 5, 3) := by decide +kernel
theorem dX12_turn_41 : decode cX12_turn 41 = .ok (.iconst (-1), 1) := by decide +kernel
theorem dX12_turn_42 : decode cX12_turn 42 = .ok (.ireturn, 1) := by decide +kernel
theorem dX12_turn_43 : decode cX12_turn 43 = .ok (.aload_n 0, 1) := by decide +kernel
theorem dX12_turn_44 : decode cX12_turn 44 = .ok (.getfield 191, 3) := by decide +kernel
theorem dX12_turn_47 : decode cX12_turn 47 = .ok (.bipush 13, 2) := by decide +kernel
theorem dX12_turn_49 : decode cX12_turn 49 = .ok (.iload_n 1, 1) := by decide +kernel
theorem dX12_turn_50 : decode cX12_turn 50 = .ok (.imul, 1) := by decide +kernel
theorem dX12_turn_51 : decode cX12_turn 51 = .ok (.iaload, 1) := by decide +kernel
theorem dX12_turn_52 : decode cX12_turn 52 = .ok (.istore_n 2, 1) := by decide +kernel
theorem dX12_turn_53 : decode cX12_turn 53 = .ok (.aload_n 0, 1) := by decide +kernel
theorem dX12_turn_54 : decode cX12_turn 54 = .ok (.iload_n 2, 1) := by decide +kernel
theorem dX12_turn_55 : decode cX12_turn 55 = .ok (.invokevirtual 425, 3) := by decide +kernel
theorem dX12_turn_58 : decode cX12_turn 58 = .ok (.aload_n 0, 1) := by decide +kernel
theorem dX12_turn_59 : decode cX12_turn 59 = .ok (.getfield 137, 3) := by decide +kernel
theorem dX12_turn_62 : decode cX12_turn 62 = .ok (.iload_n 2, 1) := by decide +kernel
theorem dX12_turn_63 : decode cX12_turn 63 = .ok (.iaload, 1) := by decide +kernel
theorem dX12_turn_64 : decode cX12_turn 64 = .ok (.iconst 1, 1) := by decide +kernel
theorem dX12_turn_65 : decode cX12_turn 65 = .ok (.if_icmp .ne 38, 3) := by decide +kernel
theorem dX12_turn_68 : decode cX12_turn 68 = .ok (.aload_n 0, 1) := by decide +kernel
theorem dX12_turn_69 : decode cX12_turn 69 = .ok (.getfield 392, 3) := by decide +kernel
theorem dX12_turn_72 : decode cX12_turn 72 = .ok (.ifCond .ne 31, 3) := by decide +kernel
theorem dX12_turn_75 : decode cX12_turn 75 = .ok (.aload_n 0, 1) := by decide +kernel
theorem dX12_turn_76 : decode cX12_turn 76 = .ok (.getfield 188, 3) := by decide +kernel
theorem dX12_turn_79 : decode cX12_turn 79 = .ok (.iload_n 2, 1) := by decide +kernel
theorem dX12_turn_80 : decode cX12_turn 80 = .ok (.dup2, 1) := by decide +kernel
theorem dX12_turn_81 : decode cX12_turn 81 = .ok (.iaload, 1) := by decide +kernel
theorem dX12_turn_82 : decode cX12_turn 82 = .ok (.iconst 1, 1) := by decide +kernel
theorem dX12_turn_83 : decode cX12_turn 83 = .ok (.iadd, 1) := by decide +kernel
theorem dX12_turn_84 : decode cX12_turn 84 = .ok (.iastore, 1) := by decide +kernel
theorem dX12_turn_85 : decode cX12_turn 85 = .ok (.aload_n 0, 1) := by decide +kernel
theorem dX12_turn_86 : decode cX12_turn 86 = .ok (.getfield 188, 3) := by decide +kernel
theorem dX12_turn_89 : decode cX12_turn 89 = .ok (.iload_n 2, 1) := by decide +kernel
theorem dX12_turn_90 : decode cX12_turn 90 = .ok (.iaload, 1) := by decide +kernel
theorem dX12_turn_91 : decode cX12_turn 91 = .ok (.aload_n 0, 1) := by decide +kernel
theorem dX12_turn_92 : decode cX12_turn 92 = .ok (.getfield 197, 3) := by decide +kernel
theorem dX12_turn_95 : decode cX12_turn 95 = .ok (.if_icmp .lt 8, 3) := by decide +kernel
theorem dX12_turn_98 : decode cX12_turn 98 = .ok (.aload_n 0, 1) := by decide +kernel
theorem dX12_turn_99 : decode cX12_turn 99 = .ok (.iload_n 2, 1) := by decide +kernel
theorem dX12_turn_100 : decode cX12_turn 100 = .ok (.invokevirtual 396, 3) := by decide +kernel
theorem dX12_turn_103 : decode cX12_turn 103 = .ok (.iload_n 2, 1) := by decide +kernel
theorem dX12_turn_104 : decode cX12_turn 104 = .ok (.ireturn, 1) := by decide +kernel
theorem dX12_feed_0 : decode cX12_feed 0 = .ok (.aload_n 0, 1) := by decide +kernel
theorem dX12_feed_1 : decode cX12_feed 1 = .ok (.aload_n 0, 1) := by decide +kernel
theorem dX12_feed_2 : decode cX12_feed 2 = .ok (.getfield 227, 3) := by decide +kernel
theorem dX12_feed_5 : decode cX12_feed 5 = .ok (.bipush 20, 2) := by decide +kernel
theorem dX12_feed_7 : decode cX12_feed 7 = .ok (.iadd, 1) := by decide +kernel
theorem dX12_feed_8 : decode cX12_feed 8 = .ok (.sipush 8192, 3) := by decide +kernel
theorem dX12_feed_11 : decode cX12_feed 11 = .ok (.if_icmp .le 7, 3) := by decide +kernel
theorem dX12_feed_14 : decode cX12_feed 14 = .ok (.iconst 1, 1) := by decide +kernel
theorem dX12_feed_15 : decode cX12_feed 15 = .ok (.goto 4, 3) := by decide +kernel
theorem dX12_feed_18 : decode cX12_feed 18 = .ok (.iconst 0, 1) := by decide +kernel
theorem dX12_feed_19 : decode cX12_feed 19 = .ok (.putfield 1, 3) := by decide +kernel
theorem dX12_feed_22 : decode cX12_feed 22 = .ok (.aload_n 0, 1) := by decide +kernel
theorem dX12_feed_23 : decode cX12_feed 23 = .ok (.getfield 1, 3) := by decide +kernel
theorem dX12_feed_26 : decode cX12_feed 26 = .ok (.ifCond .le 5, 3) := by decide +kernel
theorem dX12_feed_29 : decode cX12_feed 29 = .ok (.iconst 0, 1) := by decide +kernel
theorem dX12_feed_30 : decode cX12_feed 30 = .ok (.ireturn, 1) := by decide +kernel
theorem dX12_feed_31 : decode cX12_feed 31 = .ok (.iconst 0, 1) := by decide +kernel
theorem dX12_feed_32 : decode cX12_feed 32 = .ok (.istore 6, 2) := by decide +kernel
theorem dX12_feed_34 : decode cX12_feed 34 = .ok (.iload 6, 2) := by decide +kernel
theorem dX12_feed_36 : decode cX12_feed 36 = .ok (.bipush 20, 2) := by decide +kernel
theorem dX12_feed_38 : decode cX12_feed 38 = .ok (.if_icmp .ge 90, 3) := by decide +kernel
theorem dX12_feed_41 : decode cX12_feed 41 = .ok (.iload 6, 2) := by decide +kernel
theorem dX12_feed_43 : decode cX12_feed 43 = .ok (.iconst 4, 1) := by decide +kernel
theorem dX12_feed_44 : decode cX12_feed 44 = .ok (.if_icmp .ge 7, 3) := by decide +kernel
theorem dX12_feed_47 : decode cX12_feed 47 = .ok (.iload_n 1, 1) := by decide +kernel
theorem dX12_feed_48 : decode cX12_feed 48 = .ok (.goto 39, 3) := by decide +kernel
theorem dX12_feed_51 : decode cX12_feed 51 = .ok (.iload 6, 2) := by decide +kernel
theorem dX12_feed_53 : decode cX12_feed 53 = .ok (.bipush 8, 2) := by decide +kernel
theorem dX12_feed_55 : decode cX12_feed 55 = .ok (.if_icmp .ge 7, 3) := by decide +kernel
theorem dX12_feed_58 : decode cX12_feed 58 = .ok (.iload_n 2, 1) := by decide +kernel
theorem dX12_feed_59 : decode cX12_feed 59 = .ok (.goto 28, 3) := by decide +kernel
theorem dX12_feed_62 : decode cX12_feed 62 = .ok (.iload 6, 2) := by decide +kernel
theorem dX12_feed_64 : decode cX12_feed 64 = .ok (.bipush 12, 2) := by decide +kernel
theorem dX12_feed_66 : decode cX12_feed 66 = .ok (.if_icmp .ge 7, 3) := by decide +kernel
theorem dX12_feed_69 : decode cX12_feed 69 = .ok (.iload_n 3, 1) := by decide +kernel
theorem dX12_feed_70 : decode cX12_feed 70 = .ok (.goto 17, 3) := by decide +kernel
theorem dX12_feed_73 : decode cX12_feed 73 = .ok (.iload 6, 2) := by decide +kernel
theorem dX12_feed_75 : decode cX12_feed 75 = .ok (.bipush 16, 2) := by decide +kernel
theorem dX12_feed_77 : decode cX12_feed 77 = .ok (.if_icmp .ge 8, 3) := by decide +kernel
theorem dX12_feed_80 : decode cX12_feed 80 = .ok (.iload 4, 2) := by decide +kernel
theorem dX12_feed_82 : decode cX12_feed 82 = .ok (.goto 5, 3) := by decide +kernel
theorem dX12_feed_85 : decode cX12_feed 85 = .ok (.iload 5, 2) := by decide +kernel
theorem dX12_feed_87 : decode cX12_feed 87 = .ok (.istore 7, 2) := by decide +kernel
theorem dX12_feed_89 : decode cX12_feed 89 = .ok (.aload_n 0, 1) := by decide +kernel
theorem dX12_feed_90 : decode cX12_feed 90 = .ok (.getfield 105, 3) := by decide +kernel
theorem dX12_feed_93 : decode cX12_feed 93 = .ok (.aload_n 0, 1) := by decide +kernel
theorem dX12_feed_94 : decode cX12_feed 94 = .ok (.getfield 227, 3) := by decide +kernel
theorem dX12_feed_97 : decode cX12_feed 97 = .ok (.iload 7, 2) := by decide +kernel
theorem dX12_feed_99 : decode cX12_feed 99 = .ok (.bipush 24, 2) := by decide +kernel
theorem dX12_feed_101 : decode cX12_feed 101 = .ok (.bipush 8, 2) := by decide +kernel
theorem dX12_feed_103 : decode cX12_feed 103 = .ok (.iload 6, 2) := by decide +kernel
theorem dX12_feed_105 : decode cX12_feed 105 = .ok (.iconst 3, 1) := by decide +kernel
theorem dX12_feed_106 : decode cX12_feed 106 = .ok (.iand, 1) := by decide +kernel
theorem dX12_feed_107 : decode cX12_feed 107 = .ok (.imul, 1) := by decide +kernel
theorem dX12_feed_108 : decode cX12_feed 108 = .ok (.isub, 1) := by decide +kernel
theorem dX12_feed_109 : decode cX12_feed 109 = .ok (.ishr, 1) := by decide +kernel
theorem dX12_feed_110 : decode cX12_feed 110 = .ok (.i2b, 1) := by decide +kernel
theorem dX12_feed_111 : decode cX12_feed 111 = .ok (.bastore, 1) := by decide +kernel
theorem dX12_feed_112 : decode cX12_feed 112 = .ok (.aload_n 0, 1) := by decide +kernel
theorem dX12_feed_113 : decode cX12_feed 113 = .ok (.dup, 1) := by decide +kernel
theorem dX12_feed_114 : decode cX12_feed 114 = .ok (.getfield 227, 3) := by decide +kernel
theorem dX12_feed_117 : decode cX12_feed 117 = .ok (.iconst 1, 1) := by decide +kernel
theorem dX12_feed_118 : decode cX12_feed 118 = .ok (.iadd, 1) := by decide +kernel
theorem dX12_feed_119 : decode cX12_feed 119 = .ok (.putfield 227, 3) := by decide +kernel
theorem dX12_feed_122 : decode cX12_feed 122 = .ok (.iinc 6 1, 3) := by decide +kernel
theorem dX12_feed_125 : decode cX12_feed 125 = .ok (.goto (-91), 3) := by decide +kernel
theorem dX12_feed_128 : decode cX12_feed 128 = .ok (.aload_n 0, 1) := by decide +kernel
theorem dX12_feed_129 : decode cX12_feed 129 = .ok (.getfield 227, 3) := by decide +kernel
theorem dX12_feed_132 : decode cX12_feed 132 = .ok (.ireturn, 1) := by decide +kernel
theorem dX12_end_0 : decode cX12_end 0 = .ok (.aload_n 0, 1) := by decide +kernel
theorem dX12_end_1 : decode cX12_end 1 = .ok (.iload_n 1, 1) := by decide +kernel
theorem dX12_end_2 : decode cX12_end 2 = .ok (.ifCond .lt 11, 3) := by decide +kernel
theorem dX12_end_5 : decode cX12_end 5 = .ok (.iload_n 1, 1) := by decide +kernel
theorem dX12_end_6 : decode cX12_end 6 = .ok (.aload_n 0, 1) := by decide +kernel
theorem dX12_end_7 : decode cX12_end 7 = .ok (.getfield 227, 3) := by decide +kernel
theorem dX12_end_10 : decode cX12_end 10 = .ok (.if_icmp .le 7, 3) := by decide +kernel
theorem dX12_end_13 : decode cX12_end 13 = .ok (.iconst 1, 1) := by decide +kernel
theorem dX12_end_14 : decode cX12_end 14 = .ok (.goto 4, 3) := by decide +kernel
theorem dX12_end_17 : decode cX12_end 17 = .ok (.iconst 0, 1) := by decide +kernel
theorem dX12_end_18 : decode cX12_end 18 = .ok (.putfield 1, 3) := by decide +kernel
theorem dX12_end_21 : decode cX12_end 21 = .ok (.aload_n 0, 1) := by decide +kernel
theorem dX12_end_22 : decode cX12_end 22 = .ok (.aload_n 0, 1) := by decide +kernel
theorem dX12_end_23 : decode cX12_end 23 = .ok (.getfield 1, 3) := by decide +kernel
theorem dX12_end_26 : decode cX12_end 26 = .ok (.ifCond .le 10, 3) := by decide +kernel
theorem dX12_end_29 : decode cX12_end 29 = .ok (.aload_n 0, 1) := by decide +kernel
theorem dX12_end_30 : decode cX12_end 30 = .ok (.getfield 227, 3) := by decide +kernel
theorem dX12_end_33 : decode cX12_end 33 = .ok (.goto 4, 3) := by decide +kernel
theorem dX12_end_36 : decode cX12_end 36 = .ok (.iload_n 1, 1) := by decide +kernel
theorem dX12_end_37 : decode cX12_end 37 = .ok (.putfield 227, 3) := by decide +kernel
theorem dX12_end_40 : decode cX12_end 40 = .ok (.return_, 1) := by decide +kernel
theorem dX12_free_0 : decode cX12_free 0 = .ok (.iconst 1, 1) := by decide +kernel
theorem dX12_free_1 : decode cX12_free 1 = .ok (.istore_n 1, 1) := by decide +kernel
theorem dX12_free_2 : decode cX12_free 2 = .ok (.iload_n 1, 1) := by decide +kernel
theorem dX12_free_3 : decode cX12_free 3 = .ok (.bipush 12, 2) := by decide +kernel
theorem dX12_free_5 : decode cX12_free 5 = .ok (.if_icmp .gt 18, 3) := by decide +kernel
theorem dX12_free_8 : decode cX12_free 8 = .ok (.aload_n 0, 1) := by decide +kernel
theorem dX12_free_9 : decode cX12_free 9 = .ok (.getfield 137, 3) := by decide +kernel
theorem dX12_free_12 : decode cX12_free 12 = .ok (.iload_n 1, 1) := by decide +kernel
theorem dX12_free_13 : decode cX12_free 13 = .ok (.iaload, 1) := by decide +kernel
theorem dX12_free_14 : decode cX12_free 14 = .ok (.ifCond .eq 9, 3) := by decide +kernel
theorem dX12_free_17 : decode cX12_free 17 = .ok (.iinc 1 1, 3) := by decide +kernel
theorem dX12_free_20 : decode cX12_free 20 = .ok (.goto (-18), 3) := by decide +kernel
theorem dX12_free_23 : decode cX12_free 23 = .ok (.iload_n 1, 1) := by decide +kernel
theorem dX12_free_24 : decode cX12_free 24 = .ok (.bipush 12, 2) := by decide +kernel
theorem dX12_free_26 : decode cX12_free 26 = .ok (.if_icmp .le 7, 3) := by decide +kernel
theorem dX12_free_29 : decode cX12_free 29 = .ok (.iconst 0, 1) := by decide +kernel
theorem dX12_free_30 : decode cX12_free 30 = .ok (.goto 4, 3) := by decide +kernel
theorem dX12_free_33 : decode cX12_free 33 = .ok (.iload_n 1, 1) := by decide +kernel
theorem dX12_free_34 : decode cX12_free 34 = .ok (.ireturn, 1) := by decide +kernel
theorem dX12_load_0 : decode cX12_load 0 = .ok (.aload_n 0, 1) := by decide +kernel
theorem dX12_load_1 : decode cX12_load 1 = .ok (.iload_n 1, 1) := by decide +kernel
theorem dX12_load_2 : decode cX12_load 2 = .ok (.ifCond .lt 8, 3) := by decide +kernel
theorem dX12_load_5 : decode cX12_load 5 = .ok (.iload_n 1, 1) := by decide +kernel
theorem dX12_load_6 : decode cX12_load 6 = .ok (.iconst 3, 1) := by decide +kernel
theorem dX12_load_7 : decode cX12_load 7 = .ok (.if_icmp .lt 7, 3) := by decide +kernel
theorem dX12_load_10 : decode cX12_load 10 = .ok (.iconst 1, 1) := by decide +kernel
theorem dX12_load_11 : decode cX12_load 11 = .ok (.goto 15, 3) := by decide +kernel
theorem dX12_load_14 : decode cX12_load 14 = .ok (.aload_n 0, 1) := by decide +kernel
theorem dX12_load_15 : decode cX12_load 15 = .ok (.invokevirtual 428, 3) := by decide +kernel
theorem dX12_load_18 : decode cX12_load 18 = .ok (.ifCond .ne 7, 3) := by decide +kernel
theorem dX12_load_21 : decode cX12_load 21 = .ok (.iconst 2, 1) := by decide +kernel
theorem dX12_load_22 : decode cX12_load 22 = .ok (.goto 4, 3) := by decide +kernel
theorem dX12_load_25 : decode cX12_load 25 = .ok (.iconst 0, 1) := by decide +kernel
theorem dX12_load_26 : decode cX12_load 26 = .ok (.putfield 1, 3) := by decide +kernel
theorem dX12_load_29 : decode cX12_load 29 = .ok (.aload_n 0, 1) := by decide +kernel
theorem dX12_load_30 : decode cX12_load 30 = .ok (.getfield 1, 3) := by decide +kernel
theorem dX12_load_33 : decode cX12_load 33 = .ok (.ifCond .le 5, 3) := by decide +kernel
theorem dX12_load_36 : decode cX12_load 36 = .ok (.iconst 0, 1) := by decide +kernel
theorem dX12_load_37 : decode cX12_load 37 = .ok (.ireturn, 1) := by decide +kernel
theorem dX12_load_38 : decode cX12_load 38 = .ok (.iconst 0, 1) := by decide +kernel
theorem dX12_load_39 : decode cX12_load 39 = .ok (.istore_n 2, 1) := by decide +kernel
theorem dX12_load_40 : decode cX12_load 40 = .ok (.aload_n 0, 1) := by decide +kernel
theorem dX12_load_41 : decode cX12_load 41 = .ok (.getfield 118, 3) := by decide +kernel
theorem dX12_load_44 : decode cX12_load 44 = .ok (.iload_n 2, 1) := by decide +kernel
theorem dX12_load_45 : decode cX12_load 45 = .ok (.baload, 1) := by decide +kernel
theorem dX12_load_46 : decode cX12_load 46 = .ok (.ifCond .eq 9, 3) := by decide +kernel
theorem dX12_load_49 : decode cX12_load 49 = .ok (.iinc 2 1, 3) := by decide +kernel
theorem dX12_load_52 : decode cX12_load 52 = .ok (.goto (-12), 3) := by decide +kernel
theorem dX12_load_55 : decode cX12_load 55 = .ok (.aload_n 0, 1) := by decide +kernel
theorem dX12_load_56 : decode cX12_load 56 = .ok (.iload_n 2, 1) := by decide +kernel
theorem dX12_load_57 : decode cX12_load 57 = .ok (.invokevirtual 432, 3) := by decide +kernel
theorem dX12_load_60 : decode cX12_load 60 = .ok (.aload_n 0, 1) := by decide +kernel
theorem dX12_load_61 : decode cX12_load 61 = .ok (.iconst 0, 1) := by decide +kernel
theorem dX12_load_62 : decode cX12_load 62 = .ok (.putfield 227, 3) := by decide +kernel
theorem dX12_load_65 : decode cX12_load 65 = .ok (.aload_n 0, 1) := by decide +kernel
theorem dX12_load_66 : decode cX12_load 66 = .ok (.getfield 271, 3) := by decide +kernel
theorem dX12_load_69 : decode cX12_load 69 = .ok (.ifCond .le 10, 3) := by decide +kernel
theorem dX12_load_72 : decode cX12_load 72 = .ok (.iconst (-1), 1) := by decide +kernel
theorem dX12_load_73 : decode cX12_load 73 = .ok (.aload_n 0, 1) := by decide +kernel
theorem dX12_load_74 : decode cX12_load 74 = .ok (.getfield 274, 3) := by decide +kernel
theorem dX12_load_77 : decode cX12_load 77 = .ok (.isub, 1) := by decide +kernel
theorem dX12_load_78 : decode cX12_load 78 = .ok (.ireturn, 1) := by decide +kernel
theorem dX12_load_79 : decode cX12_load 79 = .ok (.aload_n 0, 1) := by decide +kernel
theorem dX12_load_80 : decode cX12_load 80 = .ok (.getfield 118, 3) := by decide +kernel
theorem dX12_load_83 : decode cX12_load 83 = .ok (.iload_n 2, 1) := by decide +kernel
theorem dX12_load_84 : decode cX12_load 84 = .ok (.iconst 1, 1) := by decide +kernel
theorem dX12_load_85 : decode cX12_load 85 = .ok (.bastore, 1) := by decide +kernel
theorem dX12_load_86 : decode cX12_load 86 = .ok (.aload_n 0, 1) := by decide +kernel
theorem dX12_load_87 : decode cX12_load 87 = .ok (.iload_n 2, 1) := by decide +kernel
theorem dX12_load_88 : decode cX12_load 88 = .ok (.iload_n 1, 1) := by decide +kernel
theorem dX12_load_89 : decode cX12_load 89 = .ok (.iconst 0, 1) := by decide +kernel
theorem dX12_load_90 : decode cX12_load 90 = .ok (.iconst 0, 1) := by decide +kernel
theorem dX12_load_91 : decode cX12_load 91 = .ok (.invokevirtual 373, 3) := by decide +kernel
theorem dX12_load_94 : decode cX12_load 94 = .ok (.ireturn, 1) := by decide +kernel
theorem dX12_fault_0 : decode cX12_fault 0 = .ok (.aload_n 0, 1) := by decide +kernel
theorem dX12_fault_1 : decode cX12_fault 1 = .ok (.iconst 0, 1) := by decide +kernel
theorem dX12_fault_2 : decode cX12_fault 2 = .ok (.putfield 1, 3) := by decide +kernel
theorem dX12_fault_5 : decode cX12_fault 5 = .ok (.aload_n 0, 1) := by decide +kernel
theorem dX12_fault_6 : decode cX12_fault 6 = .ok (.getfield 271, 3) := by decide +kernel
theorem dX12_fault_9 : decode cX12_fault 9 = .ok (.ireturn, 1) := by decide +kernel
theorem dX12_tick_0 : decode cX12_tick 0 = .ok (.aload_n 0, 1) := by decide +kernel
theorem dX12_tick_1 : decode cX12_tick 1 = .ok (.iconst 0, 1) := by decide +kernel
theorem dX12_tick_2 : decode cX12_tick 2 = .ok (.putfield 1, 3) := by decide +kernel
theorem dX12_tick_5 : decode cX12_tick 5 = .ok (.aload_n 0, 1) := by decide +kernel
theorem dX12_tick_6 : decode cX12_tick 6 = .ok (.invokevirtual 435, 3) := by decide +kernel
theorem dX12_tick_9 : decode cX12_tick 9 = .ok (.ireturn, 1) := by decide +kernel
theorem dX12_run_0 : decode cX12_run 0 = .ok (.aload_n 0, 1) := by decide +kernel
theorem dX12_run_1 : decode cX12_run 1 = .ok (.iload_n 1, 1) := by decide +kernel
theorem dX12_run_2 : decode cX12_run 2 = .ok (.ifCond .lt 10, 3) := by decide +kernel
theorem dX12_run_5 : decode cX12_run 5 = .ok (.iload_n 1, 1) := by decide +kernel
theorem dX12_run_6 : decode cX12_run 6 = .ok (.sipush 5000, 3) := by decide +kernel
theorem dX12_run_9 : decode cX12_run 9 = .ok (.if_icmp .le 7, 3) := by decide +kernel
theorem dX12_run_12 : decode cX12_run 12 = .ok (.iconst 1, 1) := by decide +kernel
theorem dX12_run_13 : decode cX12_run 13 = .ok (.goto 4, 3) := by decide +kernel
theorem dX12_run_16 : decode cX12_run 16 = .ok (.iconst 0, 1) := by decide +kernel
theorem dX12_run_17 : decode cX12_run 17 = .ok (.putfield 1, 3) := by decide +kernel
theorem dX12_run_20 : decode cX12_run 20 = .ok (.iconst 0, 1) := by decide +kernel
theorem dX12_run_21 : decode cX12_run 21 = .ok (.istore_n 2, 1) := by decide +kernel
theorem dX12_run_22 : decode cX12_run 22 = .ok (.iconst 0, 1) := by decide +kernel
theorem dX12_run_23 : decode cX12_run 23 = .ok (.istore_n 3, 1) := by decide +kernel
theorem dX12_run_24 : decode cX12_run 24 = .ok (.iload_n 3, 1) := by decide +kernel
theorem dX12_run_25 : decode cX12_run 25 = .ok (.iload_n 1, 1) := by decide +kernel
theorem dX12_run_26 : decode cX12_run 26 = .ok (.if_icmp .ge 32, 3) := by decide +kernel
theorem dX12_run_29 : decode cX12_run 29 = .ok (.aload_n 0, 1) := by decide +kernel
theorem dX12_run_30 : decode cX12_run 30 = .ok (.getfield 1, 3) := by decide +kernel
theorem dX12_run_33 : decode cX12_run 33 = .ok (.ifCond .ne 25, 3) := by decide +kernel
theorem dX12_run_36 : decode cX12_run 36 = .ok (.iload_n 2, 1) := by decide +kernel
theorem dX12_run_37 : decode cX12_run 37 = .ok (.aload_n 0, 1) := by decide +kernel
theorem dX12_run_38 : decode cX12_run 38 = .ok (.invokevirtual 435, 3) := by decide +kernel
theorem dX12_run_41 : decode cX12_run 41 = .ok (.iconst (-1), 1) := by decide +kernel
theorem dX12_run_42 : decode cX12_run 42 = .ok (.if_icmp .eq 7, 3) := by decide +kernel
theorem dX12_run_45 : decode cX12_run 45 = .ok (.iconst 1, 1) := by decide +kernel
theorem dX12_run_46 : decode cX12_run 46 = .ok (.goto 4, 3) := by decide +kernel
theorem dX12_run_49 : decode cX12_run 49 = .ok (.iconst 0, 1) := by decide +kernel
theorem dX12_run_50 : decode cX12_run 50 = .ok (.iadd, 1) := by decide +kernel
theorem dX12_run_51 : decode cX12_run 51 = .ok (.istore_n 2, 1) := by decide +kernel
theorem dX12_run_52 : decode cX12_run 52 = .ok (.iinc 3 1, 3) := by decide +kernel
theorem dX12_run_55 : decode cX12_run 55 = .ok (.goto (-31), 3) := by decide +kernel
theorem dX12_run_58 : decode cX12_run 58 = .ok (.iload_n 2, 1) := by decide +kernel
theorem dX12_run_59 : decode cX12_run 59 = .ok (.ireturn, 1) := by decide +kernel
theorem dX12_quantum_0 : decode cX12_quantum 0 = .ok (.aload_n 0, 1) := by decide +kernel
theorem dX12_quantum_1 : decode cX12_quantum 1 = .ok (.iload_n 1, 1) := by decide +kernel
theorem dX12_quantum_2 : decode cX12_quantum 2 = .ok (.iconst 1, 1) := by decide +kernel
theorem dX12_quantum_3 : decode cX12_quantum 3 = .ok (.if_icmp .lt 9, 3) := by decide +kernel
theorem dX12_quantum_6 : decode cX12_quantum 6 = .ok (.iload_n 1, 1) := by decide +kernel
theorem dX12_quantum_7 : decode cX12_quantum 7 = .ok (.bipush 100, 2) := by decide +kernel
theorem dX12_quantum_9 : decode cX12_quantum 9 = .ok (.if_icmp .le 7, 3) := by decide +kernel
theorem dX12_quantum_12 : decode cX12_quantum 12 = .ok (.iconst 1, 1) := by decide +kernel
theorem dX12_quantum_13 : decode cX12_quantum 13 = .ok (.goto 4, 3) := by decide +kernel
theorem dX12_quantum_16 : decode cX12_quantum 16 = .ok (.iconst 0, 1) := by decide +kernel
theorem dX12_quantum_17 : decode cX12_quantum 17 = .ok (.putfield 1, 3) := by decide +kernel
theorem dX12_quantum_20 : decode cX12_quantum 20 = .ok (.aload_n 0, 1) := by decide +kernel
theorem dX12_quantum_21 : decode cX12_quantum 21 = .ok (.getfield 197, 3) := by decide +kernel
theorem dX12_quantum_24 : decode cX12_quantum 24 = .ok (.istore_n 2, 1) := by decide +kernel
theorem dX12_quantum_25 : decode cX12_quantum 25 = .ok (.aload_n 0, 1) := by decide +kernel
theorem dX12_quantum_26 : decode cX12_quantum 26 = .ok (.aload_n 0, 1) := by decide +kernel
theorem dX12_quantum_27 : decode cX12_quantum 27 = .ok (.getfield 1, 3) := by decide +kernel
theorem dX12_quantum_30 : decode cX12_quantum 30 = .ok (.ifCond .le 10, 3) := by decide +kernel
theorem dX12_quantum_33 : decode cX12_quantum 33 = .ok (.aload_n 0, 1) := by decide +kernel
theorem dX12_quantum_34 : decode cX12_quantum 34 = .ok (.getfield 197, 3) := by decide +kernel
theorem dX12_quantum_37 : decode cX12_quantum 37 = .ok (.goto 4, 3) := by decide +kernel
theorem dX12_quantum_40 : decode cX12_quantum 40 = .ok (.iload_n 1, 1) := by decide +kernel
theorem dX12_quantum_41 : decode cX12_quantum 41 = .ok (.putfield 197, 3) := by decide +kernel
theorem dX12_quantum_44 : decode cX12_quantum 44 = .ok (.aload_n 0, 1) := by decide +kernel
theorem dX12_quantum_45 : decode cX12_quantum 45 = .ok (.getfield 1, 3) := by decide +kernel
theorem dX12_quantum_48 : decode cX12_quantum 48 = .ok (.ifCond .le 7, 3) := by decide +kernel
theorem dX12_quantum_51 : decode cX12_quantum 51 = .ok (.iconst 0, 1) := by decide +kernel
theorem dX12_quantum_52 : decode cX12_quantum 52 = .ok (.goto 4, 3) := by decide +kernel
theorem dX12_quantum_55 : decode cX12_quantum 55 = .ok (.iload_n 2, 1) := by decide +kernel
theorem dX12_quantum_56 : decode cX12_quantum 56 = .ok (.ireturn, 1) := by decide +kernel
theorem dX12_kill_0 : decode cX12_kill 0 = .ok (.aload_n 0, 1) := by decide +kernel
theorem dX12_kill_1 : decode cX12_kill 1 = .ok (.aload_n 0, 1) := by decide +kernel
theorem dX12_kill_2 : decode cX12_kill 2 = .ok (.iload_n 1, 1) := by decide +kernel
theorem dX12_kill_3 : decode cX12_kill 3 = .ok (.invokevirtual 312, 3) := by decide +kernel
theorem dX12_kill_6 : decode cX12_kill 6 = .ok (.ifCond .eq 7, 3) := by decide +kernel
theorem dX12_kill_9 : decode cX12_kill 9 = .ok (.iconst 0, 1) := by decide +kernel
theorem dX12_kill_10 : decode cX12_kill 10 = .ok (.goto 4, 3) := by decide +kernel
theorem dX12_kill_13 : decode cX12_kill 13 = .ok (.iconst 1, 1) := by decide +kernel
theorem dX12_kill_14 : decode cX12_kill 14 = .ok (.putfield 1, 3) := by decide +kernel
theorem dX12_kill_17 : decode cX12_kill 17 = .ok (.aload_n 0, 1) := by decide +kernel
theorem dX12_kill_18 : decode cX12_kill 18 = .ok (.getfield 1, 3) := by decide +kernel
theorem dX12_kill_21 : decode cX12_kill 21 = .ok (.ifCond .gt 11, 3) := by decide +kernel
theorem dX12_kill_24 : decode cX12_kill 24 = .ok (.aload_n 0, 1) := by decide +kernel
theorem dX12_kill_25 : decode cX12_kill 25 = .ok (.iload_n 1, 1) := by decide +kernel
theorem dX12_kill_26 : decode cX12_kill 26 = .ok (.invokevirtual 364, 3) := by decide +kernel
theorem dX12_kill_29 : decode cX12_kill 29 = .ok (.ifCond .ne 5, 3) := by decide +kernel
theorem dX12_kill_32 : decode cX12_kill 32 = .ok (.iconst 0, 1) := by decide +kernel
theorem dX12_kill_33 : decode cX12_kill 33 = .ok (.ireturn, 1) := by decide +kernel
theorem dX12_kill_34 : decode cX12_kill 34 = .ok (.aload_n 0, 1) := by decide +kernel
theorem dX12_kill_35 : decode cX12_kill 35 = .ok (.iload_n 1, 1) := by decide +kernel
theorem dX12_kill_36 : decode cX12_kill 36 = .ok (.iconst (-1), 1) := by decide +kernel
theorem dX12_kill_37 : decode cX12_kill 37 = .ok (.invokevirtual 330, 3) := by decide +kernel
theorem dX12_kill_40 : decode cX12_kill 40 = .ok (.iconst 1, 1) := by decide +kernel
theorem dX12_kill_41 : decode cX12_kill 41 = .ok (.ireturn, 1) := by decide +kernel
theorem dX12_reap_0 : decode cX12_reap 0 = .ok (.aload_n 0, 1) := by decide +kernel
theorem dX12_reap_1 : decode cX12_reap 1 = .ok (.aload_n 0, 1) := by decide +kernel
theorem dX12_reap_2 : decode cX12_reap 2 = .ok (.iload_n 1, 1) := by decide +kernel
theorem dX12_reap_3 : decode cX12_reap 3 = .ok (.invokevirtual 312, 3) := by decide +kernel
theorem dX12_reap_6 : decode cX12_reap 6 = .ok (.ifCond .ne 7, 3) := by decide +kernel
theorem dX12_reap_9 : decode cX12_reap 9 = .ok (.iconst 1, 1) := by decide +kernel
theorem dX12_reap_10 : decode cX12_reap 10 = .ok (.goto 28, 3) := by decide +kernel
theorem dX12_reap_13 : decode cX12_reap 13 = .ok (.aload_n 0, 1) := by decide +kernel
theorem dX12_reap_14 : decode cX12_reap 14 = .ok (.getfield 137, 3) := by decide +kernel
theorem dX12_reap_17 : decode cX12_reap 17 = .ok (.iload_n 1, 1) := by decide +kernel
theorem dX12_reap_18 : decode cX12_reap 18 = .ok (.iaload, 1) := by decide +kernel
theorem dX12_reap_19 : decode cX12_reap 19 = .ok (.bipush 7, 2) := by decide +kernel
theorem dX12_reap_21 : decode cX12_reap 21 = .ok (.if_icmp .ne 12, 3) := by decide +kernel
theorem dX12_reap_24 : decode cX12_reap 24 = .ok (.aload_n 0, 1) := by decide +kernel
theorem dX12_reap_25 : decode cX12_reap 25 = .ok (.getfield 146, 3) := by decide +kernel
theorem dX12_reap_28 : decode cX12_reap 28 = .ok (.iload_n 1, 1) := by decide +kernel
theorem dX12_reap_29 : decode cX12_reap 29 = .ok (.iaload, 1) := by decide +kernel
theorem dX12_reap_30 : decode cX12_reap 30 = .ok (.ifCond .eq 7, 3) := by decide +kernel
theorem dX12_reap_33 : decode cX12_reap 33 = .ok (.iconst 2, 1) := by decide +kernel
theorem dX12_reap_34 : decode cX12_reap 34 = .ok (.goto 4, 3) := by decide +kernel
theorem dX12_reap_37 : decode cX12_reap 37 = .ok (.iconst 0, 1) := by decide +kernel
theorem dX12_reap_38 : decode cX12_reap 38 = .ok (.putfield 1, 3) := by decide +kernel
theorem dX12_reap_41 : decode cX12_reap 41 = .ok (.aload_n 0, 1) := by decide +kernel
theorem dX12_reap_42 : decode cX12_reap 42 = .ok (.getfield 1, 3) := by decide +kernel
theorem dX12_reap_45 : decode cX12_reap 45 = .ok (.ifCond .le 5, 3) := by decide +kernel
theorem dX12_reap_48 : decode cX12_reap 48 = .ok (.iconst 0, 1) := by decide +kernel
theorem dX12_reap_49 : decode cX12_reap 49 = .ok (.ireturn, 1) := by decide +kernel
theorem dX12_reap_50 : decode cX12_reap 50 = .ok (.aload_n 0, 1) := by decide +kernel
theorem dX12_reap_51 : decode cX12_reap 51 = .ok (.getfield 140, 3) := by decide +kernel
theorem dX12_reap_54 : decode cX12_reap 54 = .ok (.iload_n 1, 1) := by decide +kernel
theorem dX12_reap_55 : decode cX12_reap 55 = .ok (.iaload, 1) := by decide +kernel
theorem dX12_reap_56 : decode cX12_reap 56 = .ok (.istore_n 2, 1) := by decide +kernel
theorem dX12_reap_57 : decode cX12_reap 57 = .ok (.aload_n 0, 1) := by decide +kernel
theorem dX12_reap_58 : decode cX12_reap 58 = .ok (.iload_n 1, 1) := by decide +kernel
theorem dX12_reap_59 : decode cX12_reap 59 = .ok (.invokevirtual 321, 3) := by decide +kernel
theorem dX12_reap_62 : decode cX12_reap 62 = .ok (.aload_n 0, 1) := by decide +kernel
theorem dX12_reap_63 : decode cX12_reap 63 = .ok (.invokevirtual 327, 3) := by decide +kernel
theorem dX12_reap_66 : decode cX12_reap 66 = .ok (.iload_n 2, 1) := by decide +kernel
theorem dX12_reap_67 : decode cX12_reap 67 = .ok (.ireturn, 1) := by decide +kernel
theorem dX12_key_0 : decode cX12_key 0 = .ok (.aload_n 0, 1) := by decide +kernel
theorem dX12_key_1 : decode cX12_key 1 = .ok (.aload_n 0, 1) := by decide +kernel
theorem dX12_key_2 : decode cX12_key 2 = .ok (.iload_n 1, 1) := by decide +kernel
theorem dX12_key_3 : decode cX12_key 3 = .ok (.invokevirtual 312, 3) := by decide +kernel
theorem dX12_key_6 : decode cX12_key 6 = .ok (.ifCond .ne 7, 3) := by decide +kernel
theorem dX12_key_9 : decode cX12_key 9 = .ok (.iconst 1, 1) := by decide +kernel
theorem dX12_key_10 : decode cX12_key 10 = .ok (.goto 16, 3) := by decide +kernel
theorem dX12_key_13 : decode cX12_key 13 = .ok (.aload_n 0, 1) := by decide +kernel
theorem dX12_key_14 : decode cX12_key 14 = .ok (.iload_n 1, 1) := by decide +kernel
theorem dX12_key_15 : decode cX12_key 15 = .ok (.invokevirtual 364, 3) := by decide +kernel
theorem dX12_key_18 : decode cX12_key 18 = .ok (.ifCond .ne 7, 3) := by decide +kernel
theorem dX12_key_21 : decode cX12_key 21 = .ok (.iconst 2, 1) := by decide +kernel
theorem dX12_key_22 : decode cX12_key 22 = .ok (.goto 4, 3) := by decide +kernel
theorem dX12_key_25 : decode cX12_key 25 = .ok (.iconst 0, 1) := by decide +kernel
theorem dX12_key_26 : decode cX12_key 26 = .ok (.putfield 1, 3) := by decide +kernel
theorem dX12_key_29 : decode cX12_key 29 = .ok (.aload_n 0, 1) := by decide +kernel
theorem dX12_key_30 : decode cX12_key 30 = .ok (.getfield 1, 3) := by decide +kernel
theorem dX12_key_33 : decode cX12_key 33 = .ok (.ifCond .gt 14, 3) := by decide +kernel
theorem dX12_key_36 : decode cX12_key 36 = .ok (.aload_n 0, 1) := by decide +kernel
theorem dX12_key_37 : decode cX12_key 37 = .ok (.getfield 176, 3) := by decide +kernel
theorem dX12_key_40 : decode cX12_key 40 = .ok (.iload_n 1, 1) := by decide +kernel
theorem dX12_key_41 : decode cX12_key 41 = .ok (.iaload, 1) := by decide +kernel
theorem dX12_key_42 : decode cX12_key 42 = .ok (.bipush 8, 2) := by decide +kernel
theorem dX12_key_44 : decode cX12_key 44 = .ok (.if_icmp .ne 5, 3) := by decide +kernel
theorem dX12_key_47 : decode cX12_key 47 = .ok (.iconst 0, 1) := by decide +kernel
theorem dX12_key_48 : decode cX12_key 48 = .ok (.ireturn, 1) := by decide +kernel
theorem dX12_key_49 : decode cX12_key 49 = .ok (.aload_n 0, 1) := by decide +kernel
theorem dX12_key_50 : decode cX12_key 50 = .ok (.getfield 179, 3) := by decide +kernel
theorem dX12_key_53 : decode cX12_key 53 = .ok (.bipush 8, 2) := by decide +kernel
theorem dX12_key_55 : decode cX12_key 55 = .ok (.iload_n 1, 1) := by decide +kernel
theorem dX12_key_56 : decode cX12_key 56 = .ok (.imul, 1) := by decide +kernel
theorem dX12_key_57 : decode cX12_key 57 = .ok (.aload_n 0, 1) := by decide +kernel
theorem dX12_key_58 : decode cX12_key 58 = .ok (.getfield 176, 3) := by decide +kernel
theorem dX12_key_61 : decode cX12_key 61 = .ok (.iload_n 1, 1) := by decide +kernel
theorem dX12_key_62 : decode cX12_key 62 = .ok (.iaload, 1) := by decide +kernel
theorem dX12_key_63 : decode cX12_key 63 = .ok (.iadd, 1) := by decide +kernel
theorem dX12_key_64 : decode cX12_key 64 = .ok (.iload_n 2, 1) := by decide +kernel
theorem dX12_key_65 : decode cX12_key 65 = .ok (.iastore, 1) := by decide +kernel
theorem dX12_key_66 : decode cX12_key 66 = .ok (.aload_n 0, 1) := by decide +kernel
theorem dX12_key_67 : decode cX12_key 67 = .ok (.getfield 176, 3) := by decide +kernel
theorem dX12_key_70 : decode cX12_key 70 = .ok (.iload_n 1, 1) := by decide +kernel
theorem dX12_key_71 : decode cX12_key 71 = .ok (.dup2, 1) := by decide +kernel
theorem dX12_key_72 : decode cX12_key 72 = .ok (.iaload, 1) := by decide +kernel
theorem dX12_key_73 : decode cX12_key 73 = .ok (.iconst 1, 1) := by decide +kernel
theorem dX12_key_74 : decode cX12_key 74 = .ok (.iadd, 1) := by decide +kernel
theorem dX12_key_75 : decode cX12_key 75 = .ok (.iastore, 1) := by decide +kernel
theorem dX12_key_76 : decode cX12_key 76 = .ok (.aload_n 0, 1) := by decide +kernel
theorem dX12_key_77 : decode cX12_key 77 = .ok (.getfield 137, 3) := by decide +kernel
theorem dX12_key_80 : decode cX12_key 80 = .ok (.iload_n 1, 1) := by decide +kernel
theorem dX12_key_81 : decode cX12_key 81 = .ok (.iaload, 1) := by decide +kernel
theorem dX12_key_82 : decode cX12_key 82 = .ok (.iconst 4, 1) := by decide +kernel
theorem dX12_key_83 : decode cX12_key 83 = .ok (.if_icmp .ne 8, 3) := by decide +kernel
theorem dX12_key_86 : decode cX12_key 86 = .ok (.aload_n 0, 1) := by decide +kernel
theorem dX12_key_87 : decode cX12_key 87 = .ok (.iload_n 1, 1) := by decide +kernel
theorem dX12_key_88 : decode cX12_key 88 = .ok (.invokevirtual 324, 3) := by decide +kernel
theorem dX12_key_91 : decode cX12_key 91 = .ok (.iconst 1, 1) := by decide +kernel
theorem dX12_key_92 : decode cX12_key 92 = .ok (.ireturn, 1) := by decide +kernel
theorem dX12_post_0 : decode cX12_post 0 = .ok (.aload_n 0, 1) := by decide +kernel
theorem dX12_post_1 : decode cX12_post 1 = .ok (.aload_n 0, 1) := by decide +kernel
theorem dX12_post_2 : decode cX12_post 2 = .ok (.iload_n 1, 1) := by decide +kernel
theorem dX12_post_3 : decode cX12_post 3 = .ok (.invokevirtual 312, 3) := by decide +kernel
theorem dX12_post_6 : decode cX12_post 6 = .ok (.ifCond .ne 7, 3) := by decide +kernel
theorem dX12_post_9 : decode cX12_post 9 = .ok (.iconst 1, 1) := by decide +kernel
theorem dX12_post_10 : decode cX12_post 10 = .ok (.goto 16, 3) := by decide +kernel
theorem dX12_post_13 : decode cX12_post 13 = .ok (.aload_n 0, 1) := by decide +kernel
theorem dX12_post_14 : decode cX12_post 14 = .ok (.iload_n 1, 1) := by decide +kernel
theorem dX12_post_15 : decode cX12_post 15 = .ok (.invokevirtual 364, 3) := by decide +kernel
theorem dX12_post_18 : decode cX12_post 18 = .ok (.ifCond .ne 7, 3) := by decide +kernel
theorem dX12_post_21 : decode cX12_post 21 = .ok (.iconst 2, 1) := by decide +kernel
theorem dX12_post_22 : decode cX12_post 22 = .ok (.goto 4, 3) := by decide +kernel
theorem dX12_post_25 : decode cX12_post 25 = .ok (.iconst 0, 1) := by decide +kernel
theorem dX12_post_26 : decode cX12_post 26 = .ok (.putfield 1, 3) := by decide +kernel
theorem dX12_post_29 : decode cX12_post 29 = .ok (.aload_n 0, 1) := by decide +kernel
theorem dX12_post_30 : decode cX12_post 30 = .ok (.getfield 1, 3) := by decide +kernel
theorem dX12_post_33 : decode cX12_post 33 = .ok (.ifCond .ne 17, 3) := by decide +kernel
theorem dX12_post_36 : decode cX12_post 36 = .ok (.aload_n 0, 1) := by decide +kernel
theorem dX12_post_37 : decode cX12_post 37 = .ok (.iconst 0, 1) := by decide +kernel
theorem dX12_post_38 : decode cX12_post 38 = .ok (.iload_n 1, 1) := by decide +kernel
theorem dX12_post_39 : decode cX12_post 39 = .ok (.iload_n 2, 1) := by decide +kernel
theorem dX12_post_40 : decode cX12_post 40 = .ok (.invokevirtual 380, 3) := by decide +kernel
theorem dX12_post_43 : decode cX12_post 43 = .ok (.ifCond .ne 7, 3) := by decide +kernel
theorem dX12_post_46 : decode cX12_post 46 = .ok (.iconst 1, 1) := by decide +kernel
theorem dX12_post_47 : decode cX12_post 47 = .ok (.goto 4, 3) := by decide +kernel
theorem dX12_post_50 : decode cX12_post 50 = .ok (.iconst 0, 1) := by decide +kernel
theorem dX12_post_51 : decode cX12_post 51 = .ok (.ireturn, 1) := by decide +kernel
theorem dX12_held_0 : decode cX12_held 0 = .ok (.iconst 0, 1) := by decide +kernel
theorem dX12_held_1 : decode cX12_held 1 = .ok (.istore_n 2, 1) := by decide +kernel
theorem dX12_held_2 : decode cX12_held 2 = .ok (.iconst 0, 1) := by decide +kernel
theorem dX12_held_3 : decode cX12_held 3 = .ok (.istore_n 3, 1) := by decide +kernel
theorem dX12_held_4 : decode cX12_held 4 = .ok (.iload_n 3, 1) := by decide +kernel
theorem dX12_held_5 : decode cX12_held 5 = .ok (.aload_n 0, 1) := by decide +kernel
theorem dX12_held_6 : decode cX12_held 6 = .ok (.getfield 221, 3) := by decide +kernel
theorem dX12_held_9 : decode cX12_held 9 = .ok (.if_icmp .ge 32, 3) := by decide +kernel
theorem dX12_held_12 : decode cX12_held 12 = .ok (.iload_n 2, 1) := by decide +kernel
theorem dX12_held_13 : decode cX12_held 13 = .ok (.aload_n 0, 1) := by decide +kernel
theorem dX12_held_14 : decode cX12_held 14 = .ok (.getfield 218, 3) := by decide +kernel
theorem dX12_held_17 : decode cX12_held 17 = .ok (.iload_n 3, 1) := by decide +kernel
theorem dX12_held_18 : decode cX12_held 18 = .ok (.iaload, 1) := by decide +kernel
theorem dX12_held_19 : decode cX12_held 19 = .ok (.iload_n 1, 1) := by decide +kernel
theorem dX12_held_20 : decode cX12_held 20 = .ok (.if_icmp .ne 12, 3) := by decide +kernel
theorem dX12_held_23 : decode cX12_held 23 = .ok (.aload_n 0, 1) := by decide +kernel
theorem dX12_held_24 : decode cX12_held 24 = .ok (.getfield 215, 3) := by decide +kernel
theorem dX12_held_27 : decode cX12_held 27 = .ok (.iload_n 3, 1) := by decide +kernel
theorem dX12_held_28 : decode cX12_held 28 = .ok (.iaload, 1) := by decide +kernel
theorem dX12_held_29 : decode cX12_held 29 = .ok (.goto 4, 3) := by decide +kernel
theorem dX12_held_32 : decode cX12_held 32 = .ok (.iconst 0, 1) := by decide +kernel
theorem dX12_held_33 : decode cX12_held 33 = .ok (.iadd, 1) := by decide +kernel
theorem dX12_held_34 : decode cX12_held 34 = .ok (.istore_n 2, 1) := by decide +kernel
theorem dX12_held_35 : decode cX12_held 35 = .ok (.iinc 3 1, 3) := by decide +kernel
theorem dX12_held_38 : decode cX12_held 38 = .ok (.goto (-34), 3) := by decide +kernel
theorem dX12_held_41 : decode cX12_held 41 = .ok (.iload_n 2, 1) := by decide +kernel
theorem dX12_held_42 : decode cX12_held 42 = .ok (.ireturn, 1) := by decide +kernel
theorem dX12_state_0 : decode cX12_state 0 = .ok (.aload_n 0, 1) := by decide +kernel
theorem dX12_state_1 : decode cX12_state 1 = .ok (.aload_n 0, 1) := by decide +kernel
theorem dX12_state_2 : decode cX12_state 2 = .ok (.iload_n 1, 1) := by decide +kernel
theorem dX12_state_3 : decode cX12_state 3 = .ok (.invokevirtual 312, 3) := by decide +kernel
theorem dX12_state_6 : decode cX12_state 6 = .ok (.ifCond .eq 13, 3) := by decide +kernel
theorem dX12_state_9 : decode cX12_state 9 = .ok (.iload_n 2, 1) := by decide +kernel
theorem dX12_state_10 : decode cX12_state 10 = .ok (.ifCond .lt 9, 3) := by decide +kernel
theorem dX12_state_13 : decode cX12_state 13 = .ok (.iload_n 2, 1) := by decide +kernel
theorem dX12_state_14 : decode cX12_state 14 = .ok (.bipush 12, 2) := by decide +kernel
theorem dX12_state_16 : decode cX12_state 16 = .ok (.if_icmp .le 7, 3) := by decide +kernel
theorem dX12_state_19 : decode cX12_state 19 = .ok (.iconst 1, 1) := by decide +kernel
theorem dX12_state_20 : decode cX12_state 20 = .ok (.goto 4, 3) := by decide +kernel
theorem dX12_state_23 : decode cX12_state 23 = .ok (.iconst 0, 1) := by decide +kernel
theorem dX12_state_24 : decode cX12_state 24 = .ok (.putfield 1, 3) := by decide +kernel
theorem dX12_state_27 : decode cX12_state 27 = .ok (.aload_n 0, 1) := by decide +kernel
theorem dX12_state_28 : decode cX12_state 28 = .ok (.getfield 1, 3) := by decide +kernel
theorem dX12_state_31 : decode cX12_state 31 = .ok (.ifCond .le 5, 3) := by decide +kernel
theorem dX12_state_34 : decode cX12_state 34 = .ok (.iconst 0, 1) := by decide +kernel
theorem dX12_state_35 : decode cX12_state 35 = .ok (.ireturn, 1) := by decide +kernel
theorem dX12_state_36 : decode cX12_state 36 = .ok (.aload_n 0, 1) := by decide +kernel
theorem dX12_state_37 : decode cX12_state 37 = .ok (.getfield 137, 3) := by decide +kernel
theorem dX12_state_40 : decode cX12_state 40 = .ok (.iload_n 1, 1) := by decide +kernel
theorem dX12_state_41 : decode cX12_state 41 = .ok (.iaload, 1) := by decide +kernel
theorem dX12_state_42 : decode cX12_state 42 = .ok (.ifCond .ne 7, 3) := by decide +kernel
theorem dX12_state_45 : decode cX12_state 45 = .ok (.iconst 1, 1) := by decide +kernel
theorem dX12_state_46 : decode cX12_state 46 = .ok (.goto 4, 3) := by decide +kernel
theorem dX12_state_49 : decode cX12_state 49 = .ok (.iconst 0, 1) := by decide +kernel
theorem dX12_state_50 : decode cX12_state 50 = .ok (.istore_n 3, 1) := by decide +kernel
theorem dX12_state_51 : decode cX12_state 51 = .ok (.iload_n 2, 1) := by decide +kernel
theorem dX12_state_52 : decode cX12_state 52 = .ok (.tableswitch 171 0 11 #[64, 71, 78, 93, 108, 115, 122, 129, 136, 143, 149, 164], 64) := by decide +kernel
theorem dX12_state_116 : decode cX12_state 116 = .ok (.aload_n 0, 1) := by decide +kernel
theorem dX12_state_117 : decode cX12_state 117 = .ok (.getfield 137, 3) := by decide +kernel
theorem dX12_state_120 : decode cX12_state 120 = .ok (.iload_n 1, 1) := by decide +kernel
theorem dX12_state_121 : decode cX12_state 121 = .ok (.iaload, 1) := by decide +kernel
theorem dX12_state_122 : decode cX12_state 122 = .ok (.ireturn, 1) := by decide +kernel
theorem dX12_state_123 : decode cX12_state 123 = .ok (.aload_n 0, 1) := by decide +kernel
theorem dX12_state_124 : decode cX12_state 124 = .ok (.getfield 140, 3) := by decide +kernel
theorem dX12_state_127 : decode cX12_state 127 = .ok (.iload_n 1, 1) := by decide +kernel
theorem dX12_state_128 : decode cX12_state 128 = .ok (.iaload, 1) := by decide +kernel
theorem dX12_state_129 : decode cX12_state 129 = .ok (.ireturn, 1) := by decide +kernel
theorem dX12_state_130 : decode cX12_state 130 = .ok (.iload_n 3, 1) := by decide +kernel
theorem dX12_state_131 : decode cX12_state 131 = .ok (.ifCond .eq 7, 3) := by decide +kernel
theorem dX12_state_134 : decode cX12_state 134 = .ok (.iconst 0, 1) := by decide +kernel
theorem dX12_state_135 : decode cX12_state 135 = .ok (.goto 9, 3) := by decide +kernel
theorem dX12_state_138 : decode cX12_state 138 = .ok (.aload_n 0, 1) := by decide +kernel
theorem dX12_state_139 : decode cX12_state 139 = .ok (.getfield 143, 3) := by decide +kernel
theorem dX12_state_142 : decode cX12_state 142 = .ok (.iload_n 1, 1) := by decide +kernel
theorem dX12_state_143 : decode cX12_state 143 = .ok (.iaload, 1) := by decide +kernel
theorem dX12_state_144 : decode cX12_state 144 = .ok (.ireturn, 1) := by decide +kernel
theorem dX12_state_145 : decode cX12_state 145 = .ok (.iload_n 3, 1) := by decide +kernel
theorem dX12_state_146 : decode cX12_state 146 = .ok (.ifCond .eq 7, 3) := by decide +kernel
theorem dX12_state_149 : decode cX12_state 149 = .ok (.iconst 0, 1) := by decide +kernel
theorem dX12_state_150 : decode cX12_state 150 = .ok (.goto 9, 3) := by decide +kernel
theorem dX12_state_153 : decode cX12_state 153 = .ok (.aload_n 0, 1) := by decide +kernel
theorem dX12_state_154 : decode cX12_state 154 = .ok (.getfield 146, 3) := by decide +kernel
theorem dX12_state_157 : decode cX12_state 157 = .ok (.iload_n 1, 1) := by decide +kernel
theorem dX12_state_158 : decode cX12_state 158 = .ok (.iaload, 1) := by decide +kernel
theorem dX12_state_159 : decode cX12_state 159 = .ok (.ireturn, 1) := by decide +kernel
theorem dX12_state_160 : decode cX12_state 160 = .ok (.aload_n 0, 1) := by decide +kernel
theorem dX12_state_161 : decode cX12_state 161 = .ok (.getfield 152, 3) := by decide +kernel
theorem dX12_state_164 : decode cX12_state 164 = .ok (.iload_n 1, 1) := by decide +kernel
theorem dX12_state_165 : decode cX12_state 165 = .ok (.iaload, 1) := by decide +kernel
theorem dX12_state_166 : decode cX12_state 166 = .ok (.ireturn, 1) := by decide +kernel
theorem dX12_state_167 : decode cX12_state 167 = .ok (.aload_n 0, 1) := by decide +kernel
theorem dX12_state_168 : decode cX12_state 168 = .ok (.getfield 155, 3) := by decide +kernel
theorem dX12_state_171 : decode cX12_state 171 = .ok (.iload_n 1, 1) := by decide +kernel
theorem dX12_state_172 : decode cX12_state 172 = .ok (.iaload, 1) := by decide +kernel
theorem dX12_state_173 : decode cX12_state 173 = .ok (.ireturn, 1) := by decide +kernel
theorem dX12_state_174 : decode cX12_state 174 = .ok (.aload_n 0, 1) := by decide +kernel
theorem dX12_state_175 : decode cX12_state 175 = .ok (.getfield 161, 3) := by decide +kernel
theorem dX12_state_178 : decode cX12_state 178 = .ok (.iload_n 1, 1) := by decide +kernel
theorem dX12_state_179 : decode cX12_state 179 = .ok (.iaload, 1) := by decide +kernel
theorem dX12_state_180 : decode cX12_state 180 = .ok (.ireturn, 1) := by decide +kernel
theorem dX12_state_181 : decode cX12_state 181 = .ok (.aload_n 0, 1) := by decide +kernel
theorem dX12_state_182 : decode cX12_state 182 = .ok (.getfield 167, 3) := by decide +kernel
theorem dX12_state_185 : decode cX12_state 185 = .ok (.iload_n 1, 1) := by decide +kernel
theorem dX12_state_186 : decode cX12_state 186 = .ok (.iaload, 1) := by decide +kernel
theorem dX12_state_187 : decode cX12_state 187 = .ok (.ireturn, 1) := by decide +kernel
theorem dX12_state_188 : decode cX12_state 188 = .ok (.aload_n 0, 1) := by decide +kernel
theorem dX12_state_189 : decode cX12_state 189 = .ok (.getfield 176, 3) := by decide +kernel
theorem dX12_state_192 : decode cX12_state 192 = .ok (.iload_n 1, 1) := by decide +kernel
theorem dX12_state_193 : decode cX12_state 193 = .ok (.iaload, 1) := by decide +kernel
theorem dX12_state_194 : decode cX12_state 194 = .ok (.ireturn, 1) := by decide +kernel
theorem dX12_state_195 : decode cX12_state 195 = .ok (.aload_n 0, 1) := by decide +kernel
theorem dX12_state_196 : decode cX12_state 196 = .ok (.iload_n 1, 1) := by decide +kernel
theorem dX12_state_197 : decode cX12_state 197 = .ok (.invokevirtual 438, 3) := by decide +kernel
theorem dX12_state_200 : decode cX12_state 200 = .ok (.ireturn, 1) := by decide +kernel
theorem dX12_state_201 : decode cX12_state 201 = .ok (.iload_n 3, 1) := by decide +kernel
theorem dX12_state_202 : decode cX12_state 202 = .ok (.ifCond .eq 7, 3) := by decide +kernel
theorem dX12_state_205 : decode cX12_state 205 = .ok (.iconst 0, 1) := by decide +kernel
theorem dX12_state_206 : decode cX12_state 206 = .ok (.goto 9, 3) := by decide +kernel
theorem dX12_state_209 : decode cX12_state 209 = .ok (.aload_n 0, 1) := by decide +kernel
theorem dX12_state_210 : decode cX12_state 210 = .ok (.getfield 182, 3) := by decide +kernel
theorem dX12_state_213 : decode cX12_state 213 = .ok (.iload_n 1, 1) := by decide +kernel
theorem dX12_state_214 : decode cX12_state 214 = .ok (.iaload, 1) := by decide +kernel
theorem dX12_state_215 : decode cX12_state 215 = .ok (.ireturn, 1) := by decide +kernel
theorem dX12_state_216 : decode cX12_state 216 = .ok (.aload_n 0, 1) := by decide +kernel
theorem dX12_state_217 : decode cX12_state 217 = .ok (.getfield 185, 3) := by decide +kernel
theorem dX12_state_220 : decode cX12_state 220 = .ok (.iload_n 1, 1) := by decide +kernel
theorem dX12_state_221 : decode cX12_state 221 = .ok (.iaload, 1) := by decide +kernel
theorem dX12_state_222 : decode cX12_state 222 = .ok (.ireturn, 1) := by decide +kernel
theorem dX12_state_223 : decode cX12_state 223 = .ok (.aload_n 0, 1) := by decide +kernel
theorem dX12_state_224 : decode cX12_state 224 = .ok (.getfield 188, 3) := by decide +kernel
theorem dX12_state_227 : decode cX12_state 227 = .ok (.iload_n 1, 1) := by decide +kernel
theorem dX12_state_228 : decode cX12_state 228 = .ok (.iaload, 1) := by decide +kernel
theorem dX12_state_229 : decode cX12_state 229 = .ok (.ireturn, 1) := by decide +kernel
theorem dX12_stack_0 : decode cX12_stack 0 = .ok (.aload_n 0, 1) := by decide +kernel
theorem dX12_stack_1 : decode cX12_stack 1 = .ok (.aload_n 0, 1) := by decide +kernel
theorem dX12_stack_2 : decode cX12_stack 2 = .ok (.iload_n 1, 1) := by decide +kernel
theorem dX12_stack_3 : decode cX12_stack 3 = .ok (.invokevirtual 312, 3) := by decide +kernel
theorem dX12_stack_6 : decode cX12_stack 6 = .ok (.ifCond .eq 17, 3) := by decide +kernel
theorem dX12_stack_9 : decode cX12_stack 9 = .ok (.iload_n 2, 1) := by decide +kernel
theorem dX12_stack_10 : decode cX12_stack 10 = .ok (.ifCond .lt 13, 3) := by decide +kernel
theorem dX12_stack_13 : decode cX12_stack 13 = .ok (.iload_n 2, 1) := by decide +kernel
theorem dX12_stack_14 : decode cX12_stack 14 = .ok (.aload_n 0, 1) := by decide +kernel
theorem dX12_stack_15 : decode cX12_stack 15 = .ok (.getfield 155, 3) := by decide +kernel
theorem dX12_stack_18 : decode cX12_stack 18 = .ok (.iload_n 1, 1) := by decide +kernel
theorem dX12_stack_19 : decode cX12_stack 19 = .ok (.iaload, 1) := by decide +kernel
theorem dX12_stack_20 : decode cX12_stack 20 = .ok (.if_icmp .lt 7, 3) := by decide +kernel
theorem dX12_stack_23 : decode cX12_stack 23 = .ok (.iconst 1, 1) := by decide +kernel
theorem dX12_stack_24 : decode cX12_stack 24 = .ok (.goto 4, 3) := by decide +kernel
theorem dX12_stack_27 : decode cX12_stack 27 = .ok (.iconst 0, 1) := by decide +kernel
theorem dX12_stack_28 : decode cX12_stack 28 = .ok (.putfield 1, 3) := by decide +kernel
theorem dX12_stack_31 : decode cX12_stack 31 = .ok (.aload_n 0, 1) := by decide +kernel
theorem dX12_stack_32 : decode cX12_stack 32 = .ok (.getfield 1, 3) := by decide +kernel
theorem dX12_stack_35 : decode cX12_stack 35 = .ok (.ifCond .le 7, 3) := by decide +kernel
theorem dX12_stack_38 : decode cX12_stack 38 = .ok (.iconst 0, 1) := by decide +kernel
theorem dX12_stack_39 : decode cX12_stack 39 = .ok (.goto 14, 3) := by decide +kernel
theorem dX12_stack_42 : decode cX12_stack 42 = .ok (.aload_n 0, 1) := by decide +kernel
theorem dX12_stack_43 : decode cX12_stack 43 = .ok (.getfield 158, 3) := by decide +kernel
theorem dX12_stack_46 : decode cX12_stack 46 = .ok (.bipush 40, 2) := by decide +kernel
theorem dX12_stack_48 : decode cX12_stack 48 = .ok (.iload_n 1, 1) := by decide +kernel
theorem dX12_stack_49 : decode cX12_stack 49 = .ok (.imul, 1) := by decide +kernel
theorem dX12_stack_50 : decode cX12_stack 50 = .ok (.iload_n 2, 1) := by decide +kernel
theorem dX12_stack_51 : decode cX12_stack 51 = .ok (.iadd, 1) := by decide +kernel
theorem dX12_stack_52 : decode cX12_stack 52 = .ok (.iaload, 1) := by decide +kernel
theorem dX12_stack_53 : decode cX12_stack 53 = .ok (.ireturn, 1) := by decide +kernel
theorem dX12_message_0 : decode cX12_message 0 = .ok (.aload_n 0, 1) := by decide +kernel
theorem dX12_message_1 : decode cX12_message 1 = .ok (.aload_n 0, 1) := by decide +kernel
theorem dX12_message_2 : decode cX12_message 2 = .ok (.iload_n 1, 1) := by decide +kernel
theorem dX12_message_3 : decode cX12_message 3 = .ok (.invokevirtual 312, 3) := by decide +kernel
theorem dX12_message_6 : decode cX12_message 6 = .ok (.ifCond .eq 17, 3) := by decide +kernel
theorem dX12_message_9 : decode cX12_message 9 = .ok (.iload_n 2, 1) := by decide +kernel
theorem dX12_message_10 : decode cX12_message 10 = .ok (.ifCond .lt 13, 3) := by decide +kernel
theorem dX12_message_13 : decode cX12_message 13 = .ok (.iload_n 2, 1) := by decide +kernel
theorem dX12_message_14 : decode cX12_message 14 = .ok (.aload_n 0, 1) := by decide +kernel
theorem dX12_message_15 : decode cX12_message 15 = .ok (.getfield 167, 3) := by decide +kernel
theorem dX12_message_18 : decode cX12_message 18 = .ok (.iload_n 1, 1) := by decide +kernel
theorem dX12_message_19 : decode cX12_message 19 = .ok (.iaload, 1) := by decide +kernel
theorem dX12_message_20 : decode cX12_message 20 = .ok (.if_icmp .lt 7, 3) := by decide +kernel
theorem dX12_message_23 : decode cX12_message 23 = .ok (.iconst 1, 1) := by decide +kernel
theorem dX12_message_24 : decode cX12_message 24 = .ok (.goto 4, 3) := by decide +kernel
theorem dX12_message_27 : decode cX12_message 27 = .ok (.iconst 0, 1) := by decide +kernel
theorem dX12_message_28 : decode cX12_message 28 = .ok (.putfield 1, 3) := by decide +kernel
theorem dX12_message_31 : decode cX12_message 31 = .ok (.aload_n 0, 1) := by decide +kernel
theorem dX12_message_32 : decode cX12_message 32 = .ok (.getfield 1, 3) := by decide +kernel
theorem dX12_message_35 : decode cX12_message 35 = .ok (.ifCond .le 7, 3) := by decide +kernel
theorem dX12_message_38 : decode cX12_message 38 = .ok (.iconst 0, 1) := by decide +kernel
theorem dX12_message_39 : decode cX12_message 39 = .ok (.goto 32, 3) := by decide +kernel
theorem dX12_message_42 : decode cX12_message 42 = .ok (.iload_n 3, 1) := by decide +kernel
theorem dX12_message_43 : decode cX12_message 43 = .ok (.ifCond .eq 17, 3) := by decide +kernel
theorem dX12_message_46 : decode cX12_message 46 = .ok (.aload_n 0, 1) := by decide +kernel
theorem dX12_message_47 : decode cX12_message 47 = .ok (.getfield 173, 3) := by decide +kernel
theorem dX12_message_50 : decode cX12_message 50 = .ok (.bipush 8, 2) := by decide +kernel
theorem dX12_message_52 : decode cX12_message 52 = .ok (.iload_n 1, 1) := by decide +kernel
theorem dX12_message_53 : decode cX12_message 53 = .ok (.imul, 1) := by decide +kernel
theorem dX12_message_54 : decode cX12_message 54 = .ok (.iload_n 2, 1) := by decide +kernel
theorem dX12_message_55 : decode cX12_message 55 = .ok (.iadd, 1) := by decide +kernel
theorem dX12_message_56 : decode cX12_message 56 = .ok (.iaload, 1) := by decide +kernel
theorem dX12_message_57 : decode cX12_message 57 = .ok (.goto 14, 3) := by decide +kernel
theorem dX12_message_60 : decode cX12_message 60 = .ok (.aload_n 0, 1) := by decide +kernel
theorem dX12_message_61 : decode cX12_message 61 = .ok (.getfield 170, 3) := by decide +kernel
theorem dX12_message_64 : decode cX12_message 64 = .ok (.bipush 8, 2) := by decide +kernel
theorem dX12_message_66 : decode cX12_message 66 = .ok (.iload_n 1, 1) := by decide +kernel
theorem dX12_message_67 : decode cX12_message 67 = .ok (.imul, 1) := by decide +kernel
theorem dX12_message_68 : decode cX12_message 68 = .ok (.iload_n 2, 1) := by decide +kernel
theorem dX12_message_69 : decode cX12_message 69 = .ok (.iadd, 1) := by decide +kernel
theorem dX12_message_70 : decode cX12_message 70 = .ok (.iaload, 1) := by decide +kernel
theorem dX12_message_71 : decode cX12_message 71 = .ok (.ireturn, 1) := by decide +kernel
theorem dX12_ready_0 : decode cX12_ready 0 = .ok (.aload_n 0, 1) := by decide +kernel
theorem dX12_ready_1 : decode cX12_ready 1 = .ok (.iload_n 1, 1) := by decide +kernel
theorem dX12_ready_2 : decode cX12_ready 2 = .ok (.ifCond .lt 22, 3) := by decide +kernel
theorem dX12_ready_5 : decode cX12_ready 5 = .ok (.iload_n 1, 1) := by decide +kernel
theorem dX12_ready_6 : decode cX12_ready 6 = .ok (.iconst 3, 1) := by decide +kernel
theorem dX12_ready_7 : decode cX12_ready 7 = .ok (.if_icmp .ge 17, 3) := by decide +kernel
theorem dX12_ready_10 : decode cX12_ready 10 = .ok (.iload_n 2, 1) := by decide +kernel
theorem dX12_ready_11 : decode cX12_ready 11 = .ok (.ifCond .lt 13, 3) := by decide +kernel
theorem dX12_ready_14 : decode cX12_ready 14 = .ok (.iload_n 2, 1) := by decide +kernel
theorem dX12_ready_15 : decode cX12_ready 15 = .ok (.aload_n 0, 1) := by decide +kernel
theorem dX12_ready_16 : decode cX12_ready 16 = .ok (.getfield 194, 3) := by decide +kernel
theorem dX12_ready_19 : decode cX12_ready 19 = .ok (.iload_n 1, 1) := by decide +kernel
theorem dX12_ready_20 : decode cX12_ready 20 = .ok (.iaload, 1) := by decide +kernel
theorem dX12_ready_21 : decode cX12_ready 21 = .ok (.if_icmp .lt 7, 3) := by decide +kernel
theorem dX12_ready_24 : decode cX12_ready 24 = .ok (.iconst 1, 1) := by decide +kernel
theorem dX12_ready_25 : decode cX12_ready 25 = .ok (.goto 4, 3) := by decide +kernel
theorem dX12_ready_28 : decode cX12_ready 28 = .ok (.iconst 0, 1) := by decide +kernel
theorem dX12_ready_29 : decode cX12_ready 29 = .ok (.putfield 1, 3) := by decide +kernel
theorem dX12_ready_32 : decode cX12_ready 32 = .ok (.aload_n 0, 1) := by decide +kernel
theorem dX12_ready_33 : decode cX12_ready 33 = .ok (.getfield 1, 3) := by decide +kernel
theorem dX12_ready_36 : decode cX12_ready 36 = .ok (.ifCond .le 7, 3) := by decide +kernel
theorem dX12_ready_39 : decode cX12_ready 39 = .ok (.iconst 0, 1) := by decide +kernel
theorem dX12_ready_40 : decode cX12_ready 40 = .ok (.goto 14, 3) := by decide +kernel
theorem dX12_ready_43 : decode cX12_ready 43 = .ok (.aload_n 0, 1) := by decide +kernel
theorem dX12_ready_44 : decode cX12_ready 44 = .ok (.getfield 191, 3) := by decide +kernel
theorem dX12_ready_47 : decode cX12_ready 47 = .ok (.bipush 13, 2) := by decide +kernel
theorem dX12_ready_49 : decode cX12_ready 49 = .ok (.iload_n 1, 1) := by decide +kernel
theorem dX12_ready_50 : decode cX12_ready 50 = .ok (.imul, 1) := by decide +kernel
theorem dX12_ready_51 : decode cX12_ready 51 = .ok (.iload_n 2, 1) := by decide +kernel
theorem dX12_ready_52 : decode cX12_ready 52 = .ok (.iadd, 1) := by decide +kernel
theorem dX12_ready_53 : decode cX12_ready 53 = .ok (.iaload, 1) := by decide +kernel
theorem dX12_ready_54 : decode cX12_ready 54 = .ok (.ireturn, 1) := by decide +kernel
theorem dX12_cell_0 : decode cX12_cell 0 = .ok (.aload_n 0, 1) := by decide +kernel
theorem dX12_cell_1 : decode cX12_cell 1 = .ok (.iload_n 1, 1) := by decide +kernel
theorem dX12_cell_2 : decode cX12_cell 2 = .ok (.ifCond .lt 10, 3) := by decide +kernel
theorem dX12_cell_5 : decode cX12_cell 5 = .ok (.iload_n 1, 1) := by decide +kernel
theorem dX12_cell_6 : decode cX12_cell 6 = .ok (.sipush 1024, 3) := by decide +kernel
theorem dX12_cell_9 : decode cX12_cell 9 = .ok (.if_icmp .lt 7, 3) := by decide +kernel
theorem dX12_cell_12 : decode cX12_cell 12 = .ok (.iconst 1, 1) := by decide +kernel
theorem dX12_cell_13 : decode cX12_cell 13 = .ok (.goto 4, 3) := by decide +kernel
theorem dX12_cell_16 : decode cX12_cell 16 = .ok (.iconst 0, 1) := by decide +kernel
theorem dX12_cell_17 : decode cX12_cell 17 = .ok (.putfield 1, 3) := by decide +kernel
theorem dX12_cell_20 : decode cX12_cell 20 = .ok (.aload_n 0, 1) := by decide +kernel
theorem dX12_cell_21 : decode cX12_cell 21 = .ok (.getfield 1, 3) := by decide +kernel
theorem dX12_cell_24 : decode cX12_cell 24 = .ok (.ifCond .le 7, 3) := by decide +kernel
theorem dX12_cell_27 : decode cX12_cell 27 = .ok (.iconst 0, 1) := by decide +kernel
theorem dX12_cell_28 : decode cX12_cell 28 = .ok (.goto 9, 3) := by decide +kernel
theorem dX12_cell_31 : decode cX12_cell 31 = .ok (.aload_n 0, 1) := by decide +kernel
theorem dX12_cell_32 : decode cX12_cell 32 = .ok (.getfield 209, 3) := by decide +kernel
theorem dX12_cell_35 : decode cX12_cell 35 = .ok (.iload_n 1, 1) := by decide +kernel
theorem dX12_cell_36 : decode cX12_cell 36 = .ok (.iaload, 1) := by decide +kernel
theorem dX12_cell_37 : decode cX12_cell 37 = .ok (.ireturn, 1) := by decide +kernel
theorem dX12_block_0 : decode cX12_block 0 = .ok (.aload_n 0, 1) := by decide +kernel
theorem dX12_block_1 : decode cX12_block 1 = .ok (.iload_n 1, 1) := by decide +kernel
theorem dX12_block_2 : decode cX12_block 2 = .ok (.ifCond .lt 20, 3) := by decide +kernel
theorem dX12_block_5 : decode cX12_block 5 = .ok (.iload_n 1, 1) := by decide +kernel
theorem dX12_block_6 : decode cX12_block 6 = .ok (.aload_n 0, 1) := by decide +kernel
theorem dX12_block_7 : decode cX12_block 7 = .ok (.getfield 221, 3) := by decide +kernel
theorem dX12_block_10 : decode cX12_block 10 = .ok (.if_icmp .ge 12, 3) := by decide +kernel
theorem dX12_block_13 : decode cX12_block 13 = .ok (.iload_n 2, 1) := by decide +kernel
theorem dX12_block_14 : decode cX12_block 14 = .ok (.ifCond .lt 8, 3) := by decide +kernel
theorem dX12_block_17 : decode cX12_block 17 = .ok (.iload_n 2, 1) := by decide +kernel
theorem dX12_block_18 : decode cX12_block 18 = .ok (.iconst 2, 1) := by decide +kernel
theorem dX12_block_19 : decode cX12_block 19 = .ok (.if_icmp .le 7, 3) := by decide +kernel
theorem dX12_block_22 : decode cX12_block 22 = .ok (.iconst 1, 1) := by decide +kernel
theorem dX12_block_23 : decode cX12_block 23 = .ok (.goto 4, 3) := by decide +kernel
theorem dX12_block_26 : decode cX12_block 26 = .ok (.iconst 0, 1) := by decide +kernel
theorem dX12_block_27 : decode cX12_block 27 = .ok (.putfield 1, 3) := by decide +kernel
theorem dX12_block_30 : decode cX12_block 30 = .ok (.aload_n 0, 1) := by decide +kernel
theorem dX12_block_31 : decode cX12_block 31 = .ok (.getfield 1, 3) := by decide +kernel
theorem dX12_block_34 : decode cX12_block 34 = .ok (.ifCond .le 7, 3) := by decide +kernel
theorem dX12_block_37 : decode cX12_block 37 = .ok (.iconst 0, 1) := by decide +kernel
theorem dX12_block_38 : decode cX12_block 38 = .ok (.goto 36, 3) := by decide +kernel
theorem dX12_block_41 : decode cX12_block 41 = .ok (.iload_n 2, 1) := by decide +kernel
theorem dX12_block_42 : decode cX12_block 42 = .ok (.ifCond .ne 12, 3) := by decide +kernel
theorem dX12_block_45 : decode cX12_block 45 = .ok (.aload_n 0, 1) := by decide +kernel
theorem dX12_block_46 : decode cX12_block 46 = .ok (.getfield 212, 3) := by decide +kernel
theorem dX12_block_49 : decode cX12_block 49 = .ok (.iload_n 1, 1) := by decide +kernel
theorem dX12_block_50 : decode cX12_block 50 = .ok (.iaload, 1) := by decide +kernel
theorem dX12_block_51 : decode cX12_block 51 = .ok (.goto 23, 3) := by decide +kernel
theorem dX12_block_54 : decode cX12_block 54 = .ok (.iload_n 2, 1) := by decide +kernel
theorem dX12_block_55 : decode cX12_block 55 = .ok (.iconst 1, 1) := by decide +kernel
theorem dX12_block_56 : decode cX12_block 56 = .ok (.if_icmp .ne 12, 3) := by decide +kernel
theorem dX12_block_59 : decode cX12_block 59 = .ok (.aload_n 0, 1) := by decide +kernel
theorem dX12_block_60 : decode cX12_block 60 = .ok (.getfield 215, 3) := by decide +kernel
theorem dX12_block_63 : decode cX12_block 63 = .ok (.iload_n 1, 1) := by decide +kernel
theorem dX12_block_64 : decode cX12_block 64 = .ok (.iaload, 1) := by decide +kernel
theorem dX12_block_65 : decode cX12_block 65 = .ok (.goto 9, 3) := by decide +kernel
theorem dX12_block_68 : decode cX12_block 68 = .ok (.aload_n 0, 1) := by decide +kernel
theorem dX12_block_69 : decode cX12_block 69 = .ok (.getfield 218, 3) := by decide +kernel
theorem dX12_block_72 : decode cX12_block 72 = .ok (.iload_n 1, 1) := by decide +kernel
theorem dX12_block_73 : decode cX12_block 73 = .ok (.iaload, 1) := by decide +kernel
theorem dX12_block_74 : decode cX12_block 74 = .ok (.ireturn, 1) := by decide +kernel
theorem dX12_semaphore__0 : decode cX12_semaphore_ 0 = .ok (.aload_n 0, 1) := by decide +kernel
theorem dX12_semaphore__1 : decode cX12_semaphore_ 1 = .ok (.iload_n 1, 1) := by decide +kernel
theorem dX12_semaphore__2 : decode cX12_semaphore_ 2 = .ok (.ifCond .lt 30, 3) := by decide +kernel
theorem dX12_semaphore__5 : decode cX12_semaphore_ 5 = .ok (.iload_n 1, 1) := by decide +kernel
theorem dX12_semaphore__6 : decode cX12_semaphore_ 6 = .ok (.bipush 8, 2) := by decide +kernel
theorem dX12_semaphore__8 : decode cX12_semaphore_ 8 = .ok (.if_icmp .ge 24, 3) := by decide +kernel
theorem dX12_semaphore__11 : decode cX12_semaphore_ 11 = .ok (.iload_n 2, 1) := by decide +kernel
theorem dX12_semaphore__12 : decode cX12_semaphore_ 12 = .ok (.ifCond .lt 20, 3) := by decide +kernel
theorem dX12_semaphore__15 : decode cX12_semaphore_ 15 = .ok (.iload_n 2, 1) := by decide +kernel
theorem dX12_semaphore__16 : decode cX12_semaphore_ 16 = .ok (.iconst 2, 1) := by decide +kernel
theorem dX12_semaphore__17 : decode cX12_semaphore_ 17 = .ok (.isub, 1) := by decide +kernel
theorem dX12_semaphore__18 : decode cX12_semaphore_ 18 = .ok (.aload_n 0, 1) := by decide +kernel
theorem dX12_semaphore__19 : decode cX12_semaphore_ 19 = .ok (.getfield 206, 3) := by decide +kernel
theorem dX12_semaphore__22 : decode cX12_semaphore_ 22 = .ok (.iload_n 1, 1) := by decide +kernel
theorem dX12_semaphore__23 : decode cX12_semaphore_ 23 = .ok (.iaload, 1) := by decide +kernel
theorem dX12_semaphore__24 : decode cX12_semaphore_ 24 = .ok (.if_icmp .lt 12, 3) := by decide +kernel
theorem dX12_semaphore__27 : decode cX12_semaphore_ 27 = .ok (.iload_n 2, 1) := by decide +kernel
theorem dX12_semaphore__28 : decode cX12_semaphore_ 28 = .ok (.iconst 1, 1) := by decide +kernel
theorem dX12_semaphore__29 : decode cX12_semaphore_ 29 = .ok (.if_icmp .le 7, 3) := by decide +kernel
theorem dX12_semaphore__32 : decode cX12_semaphore_ 32 = .ok (.iconst 1, 1) := by decide +kernel
theorem dX12_semaphore__33 : decode cX12_semaphore_ 33 = .ok (.goto 4, 3) := by decide +kernel
theorem dX12_semaphore__36 : decode cX12_semaphore_ 36 = .ok (.iconst 0, 1) := by decide +kernel
theorem dX12_semaphore__37 : decode cX12_semaphore_ 37 = .ok (.putfield 1, 3) := by decide +kernel
theorem dX12_semaphore__40 : decode cX12_semaphore_ 40 = .ok (.aload_n 0, 1) := by decide +kernel
theorem dX12_semaphore__41 : decode cX12_semaphore_ 41 = .ok (.getfield 1, 3) := by decide +kernel
theorem dX12_semaphore__44 : decode cX12_semaphore_ 44 = .ok (.ifCond .le 7, 3) := by decide +kernel
theorem dX12_semaphore__47 : decode cX12_semaphore_ 47 = .ok (.iconst 0, 1) := by decide +kernel
theorem dX12_semaphore__48 : decode cX12_semaphore_ 48 = .ok (.goto 43, 3) := by decide +kernel
theorem dX12_semaphore__51 : decode cX12_semaphore_ 51 = .ok (.iload_n 2, 1) := by decide +kernel
theorem dX12_semaphore__52 : decode cX12_semaphore_ 52 = .ok (.ifCond .ne 12, 3) := by decide +kernel
theorem dX12_semaphore__55 : decode cX12_semaphore_ 55 = .ok (.aload_n 0, 1) := by decide +kernel
theorem dX12_semaphore__56 : decode cX12_semaphore_ 56 = .ok (.getfield 200, 3) := by decide +kernel
theorem dX12_semaphore__59 : decode cX12_semaphore_ 59 = .ok (.iload_n 1, 1) := by decide +kernel
theorem dX12_semaphore__60 : decode cX12_semaphore_ 60 = .ok (.iaload, 1) := by decide +kernel
theorem dX12_semaphore__61 : decode cX12_semaphore_ 61 = .ok (.goto 30, 3) := by decide +kernel
theorem dX12_semaphore__64 : decode cX12_semaphore_ 64 = .ok (.iload_n 2, 1) := by decide +kernel
theorem dX12_semaphore__65 : decode cX12_semaphore_ 65 = .ok (.iconst 1, 1) := by decide +kernel
theorem dX12_semaphore__66 : decode cX12_semaphore_ 66 = .ok (.if_icmp .ne 12, 3) := by decide +kernel
theorem dX12_semaphore__69 : decode cX12_semaphore_ 69 = .ok (.aload_n 0, 1) := by decide +kernel
theorem dX12_semaphore__70 : decode cX12_semaphore_ 70 = .ok (.getfield 206, 3) := by decide +kernel
theorem dX12_semaphore__73 : decode cX12_semaphore_ 73 = .ok (.iload_n 1, 1) := by decide +kernel
theorem dX12_semaphore__74 : decode cX12_semaphore_ 74 = .ok (.iaload, 1) := by decide +kernel
theorem dX12_semaphore__75 : decode cX12_semaphore_ 75 = .ok (.goto 16, 3) := by decide +kernel
theorem dX12_semaphore__78 : decode cX12_semaphore_ 78 = .ok (.aload_n 0, 1) := by decide +kernel
theorem dX12_semaphore__79 : decode cX12_semaphore_ 79 = .ok (.getfield 203, 3) := by decide +kernel
theorem dX12_semaphore__82 : decode cX12_semaphore_ 82 = .ok (.bipush 13, 2) := by decide +kernel
theorem dX12_semaphore__84 : decode cX12_semaphore_ 84 = .ok (.iload_n 1, 1) := by decide +kernel
theorem dX12_semaphore__85 : decode cX12_semaphore_ 85 = .ok (.imul, 1) := by decide +kernel
theorem dX12_semaphore__86 : decode cX12_semaphore_ 86 = .ok (.iload_n 2, 1) := by decide +kernel
theorem dX12_semaphore__87 : decode cX12_semaphore_ 87 = .ok (.iadd, 1) := by decide +kernel
theorem dX12_semaphore__88 : decode cX12_semaphore_ 88 = .ok (.iconst 2, 1) := by decide +kernel
theorem dX12_semaphore__89 : decode cX12_semaphore_ 89 = .ok (.isub, 1) := by decide +kernel
theorem dX12_semaphore__90 : decode cX12_semaphore_ 90 = .ok (.iaload, 1) := by decide +kernel
theorem dX12_semaphore__91 : decode cX12_semaphore_ 91 = .ok (.ireturn, 1) := by decide +kernel
theorem dX12_out_0 : decode cX12_out 0 = .ok (.aload_n 0, 1) := by decide +kernel
theorem dX12_out_1 : decode cX12_out 1 = .ok (.iload_n 1, 1) := by decide +kernel
theorem dX12_out_2 : decode cX12_out 2 = .ok (.ifCond .lt 11, 3) := by decide +kernel
theorem dX12_out_5 : decode cX12_out 5 = .ok (.iload_n 1, 1) := by decide +kernel
theorem dX12_out_6 : decode cX12_out 6 = .ok (.aload_n 0, 1) := by decide +kernel
theorem dX12_out_7 : decode cX12_out 7 = .ok (.getfield 406, 3) := by decide +kernel
theorem dX12_out_10 : decode cX12_out 10 = .ok (.if_icmp .lt 7, 3) := by decide +kernel
theorem dX12_out_13 : decode cX12_out 13 = .ok (.iconst 1, 1) := by decide +kernel
theorem dX12_out_14 : decode cX12_out 14 = .ok (.goto 4, 3) := by decide +kernel
theorem dX12_out_17 : decode cX12_out 17 = .ok (.iconst 0, 1) := by decide +kernel
theorem dX12_out_18 : decode cX12_out 18 = .ok (.putfield 1, 3) := by decide +kernel
theorem dX12_out_21 : decode cX12_out 21 = .ok (.aload_n 0, 1) := by decide +kernel
theorem dX12_out_22 : decode cX12_out 22 = .ok (.getfield 1, 3) := by decide +kernel
theorem dX12_out_25 : decode cX12_out 25 = .ok (.ifCond .le 7, 3) := by decide +kernel
theorem dX12_out_28 : decode cX12_out 28 = .ok (.iconst 0, 1) := by decide +kernel
theorem dX12_out_29 : decode cX12_out 29 = .ok (.goto 9, 3) := by decide +kernel
theorem dX12_out_32 : decode cX12_out 32 = .ok (.aload_n 0, 1) := by decide +kernel
theorem dX12_out_33 : decode cX12_out 33 = .ok (.getfield 224, 3) := by decide +kernel
theorem dX12_out_36 : decode cX12_out 36 = .ok (.iload_n 1, 1) := by decide +kernel
theorem dX12_out_37 : decode cX12_out 37 = .ok (.iaload, 1) := by decide +kernel
theorem dX12_out_38 : decode cX12_out 38 = .ok (.ireturn, 1) := by decide +kernel
theorem dX12_processes_0 : decode cX12_processes 0 = .ok (.iconst 0, 1) := by decide +kernel
theorem dX12_processes_1 : decode cX12_processes 1 = .ok (.istore_n 3, 1) := by decide +kernel
theorem dX12_processes_2 : decode cX12_processes 2 = .ok (.iconst 1, 1) := by decide +kernel
theorem dX12_processes_3 : decode cX12_processes 3 = .ok (.istore 4, 2) := by decide +kernel
theorem dX12_processes_5 : decode cX12_processes 5 = .ok (.iload 4, 2) := by decide +kernel
theorem dX12_processes_7 : decode cX12_processes 7 = .ok (.bipush 12, 2) := by decide +kernel
theorem dX12_processes_9 : decode cX12_processes 9 = .ok (.if_icmp .gt 39, 3) := by decide +kernel
theorem dX12_processes_12 : decode cX12_processes 12 = .ok (.iload_n 3, 1) := by decide +kernel
theorem dX12_processes_13 : decode cX12_processes 13 = .ok (.aload_n 0, 1) := by decide +kernel
theorem dX12_processes_14 : decode cX12_processes 14 = .ok (.getfield 137, 3) := by decide +kernel
theorem dX12_processes_17 : decode cX12_processes 17 = .ok (.iload 4, 2) := by decide +kernel
theorem dX12_processes_19 : decode cX12_processes 19 = .ok (.iaload, 1) := by decide +kernel
theorem dX12_processes_20 : decode cX12_processes 20 = .ok (.iload_n 1, 1) := by decide +kernel
theorem dX12_processes_21 : decode cX12_processes 21 = .ok (.if_icmp .lt 18, 3) := by decide +kernel
theorem dX12_processes_24 : decode cX12_processes 24 = .ok (.aload_n 0, 1) := by decide +kernel
theorem dX12_processes_25 : decode cX12_processes 25 = .ok (.getfield 137, 3) := by decide +kernel
theorem dX12_processes_28 : decode cX12_processes 28 = .ok (.iload 4, 2) := by decide +kernel
theorem dX12_processes_30 : decode cX12_processes 30 = .ok (.iaload, 1) := by decide +kernel
theorem dX12_processes_31 : decode cX12_processes 31 = .ok (.iload_n 2, 1) := by decide +kernel
theorem dX12_processes_32 : decode cX12_processes 32 = .ok (.if_icmp .gt 7, 3) := by decide +kernel
theorem dX12_processes_35 : decode cX12_processes 35 = .ok (.iconst 1, 1) := by decide +kernel
theorem dX12_processes_36 : decode cX12_processes 36 = .ok (.goto 4, 3) := by decide +kernel
theorem dX12_processes_39 : decode cX12_processes 39 = .ok (.iconst 0, 1) := by decide +kernel
theorem dX12_processes_40 : decode cX12_processes 40 = .ok (.iadd, 1) := by decide +kernel
theorem dX12_processes_41 : decode cX12_processes 41 = .ok (.istore_n 3, 1) := by decide +kernel
theorem dX12_processes_42 : decode cX12_processes 42 = .ok (.iinc 4 1, 3) := by decide +kernel
theorem dX12_processes_45 : decode cX12_processes 45 = .ok (.goto (-40), 3) := by decide +kernel
theorem dX12_processes_48 : decode cX12_processes 48 = .ok (.iload_n 3, 1) := by decide +kernel
theorem dX12_processes_49 : decode cX12_processes 49 = .ok (.ireturn, 1) := by decide +kernel
theorem dX12_count_0 : decode cX12_count 0 = .ok (.aload_n 0, 1) := by decide +kernel
theorem dX12_count_1 : decode cX12_count 1 = .ok (.iload_n 1, 1) := by decide +kernel
theorem dX12_count_2 : decode cX12_count 2 = .ok (.ifCond .lt 9, 3) := by decide +kernel
theorem dX12_count_5 : decode cX12_count 5 = .ok (.iload_n 1, 1) := by decide +kernel
theorem dX12_count_6 : decode cX12_count 6 = .ok (.bipush 10, 2) := by decide +kernel
theorem dX12_count_8 : decode cX12_count 8 = .ok (.if_icmp .le 7, 3) := by decide +kernel
theorem dX12_count_11 : decode cX12_count 11 = .ok (.iconst 1, 1) := by decide +kernel
theorem dX12_count_12 : decode cX12_count 12 = .ok (.goto 4, 3) := by decide +kernel
theorem dX12_count_15 : decode cX12_count 15 = .ok (.iconst 0, 1) := by decide +kernel
theorem dX12_count_16 : decode cX12_count 16 = .ok (.putfield 1, 3) := by decide +kernel
theorem dX12_count_19 : decode cX12_count 19 = .ok (.iconst 0, 1) := by decide +kernel
theorem dX12_count_20 : decode cX12_count 20 = .ok (.istore_n 2, 1) := by decide +kernel
theorem dX12_count_21 : decode cX12_count 21 = .ok (.iconst 0, 1) := by decide +kernel
theorem dX12_count_22 : decode cX12_count 22 = .ok (.istore_n 3, 1) := by decide +kernel
theorem dX12_count_23 : decode cX12_count 23 = .ok (.iconst 0, 1) := by decide +kernel
theorem dX12_count_24 : decode cX12_count 24 = .ok (.istore 4, 2) := by decide +kernel
theorem dX12_count_26 : decode cX12_count 26 = .ok (.iload 4, 2) := by decide +kernel
theorem dX12_count_28 : decode cX12_count 28 = .ok (.bipush 13, 2) := by decide +kernel
theorem dX12_count_30 : decode cX12_count 30 = .ok (.if_icmp .ge 51, 3) := by decide +kernel
theorem dX12_count_33 : decode cX12_count 33 = .ok (.iload_n 2, 1) := by decide +kernel
theorem dX12_count_34 : decode cX12_count 34 = .ok (.aload_n 0, 1) := by decide +kernel
theorem dX12_count_35 : decode cX12_count 35 = .ok (.getfield 118, 3) := by decide +kernel
theorem dX12_count_38 : decode cX12_count 38 = .ok (.iload 4, 2) := by decide +kernel
theorem dX12_count_40 : decode cX12_count 40 = .ok (.baload, 1) := by decide +kernel
theorem dX12_count_41 : decode cX12_count 41 = .ok (.ifCond .eq 7, 3) := by decide +kernel
theorem dX12_count_44 : decode cX12_count 44 = .ok (.iconst 1, 1) := by decide +kernel
theorem dX12_count_45 : decode cX12_count 45 = .ok (.goto 4, 3) := by decide +kernel
theorem dX12_count_48 : decode cX12_count 48 = .ok (.iconst 0, 1) := by decide +kernel
theorem dX12_count_49 : decode cX12_count 49 = .ok (.iadd, 1) := by decide +kernel
theorem dX12_count_50 : decode cX12_count 50 = .ok (.istore_n 2, 1) := by decide +kernel
theorem dX12_count_51 : decode cX12_count 51 = .ok (.iload_n 3, 1) := by decide +kernel
theorem dX12_count_52 : decode cX12_count 52 = .ok (.aload_n 0, 1) := by decide +kernel
theorem dX12_count_53 : decode cX12_count 53 = .ok (.getfield 118, 3) := by decide +kernel
theorem dX12_count_56 : decode cX12_count 56 = .ok (.iload 4, 2) := by decide +kernel
theorem dX12_count_58 : decode cX12_count 58 = .ok (.baload, 1) := by decide +kernel
theorem dX12_count_59 : decode cX12_count 59 = .ok (.ifCond .eq 13, 3) := by decide +kernel
theorem dX12_count_62 : decode cX12_count 62 = .ok (.aload_n 0, 1) := by decide +kernel
theorem dX12_count_63 : decode cX12_count 63 = .ok (.getfield 115, 3) := by decide +kernel
theorem dX12_count_66 : decode cX12_count 66 = .ok (.iload 4, 2) := by decide +kernel
theorem dX12_count_68 : decode cX12_count 68 = .ok (.iaload, 1) := by decide +kernel
theorem dX12_count_69 : decode cX12_count 69 = .ok (.goto 4, 3) := by decide +kernel
theorem dX12_count_72 : decode cX12_count 72 = .ok (.iconst 0, 1) := by decide +kernel
theorem dX12_count_73 : decode cX12_count 73 = .ok (.iadd, 1) := by decide +kernel
theorem dX12_count_74 : decode cX12_count 74 = .ok (.istore_n 3, 1) := by decide +kernel
theorem dX12_count_75 : decode cX12_count 75 = .ok (.iinc 4 1, 3) := by decide +kernel
theorem dX12_count_78 : decode cX12_count 78 = .ok (.goto (-52), 3) := by decide +kernel
theorem dX12_count_81 : decode cX12_count 81 = .ok (.aload_n 0, 1) := by decide +kernel
theorem dX12_count_82 : decode cX12_count 82 = .ok (.getfield 1, 3) := by decide +kernel
theorem dX12_count_85 : decode cX12_count 85 = .ok (.ifCond .le 7, 3) := by decide +kernel
theorem dX12_count_88 : decode cX12_count 88 = .ok (.iconst 0, 1) := by decide +kernel
theorem dX12_count_89 : decode cX12_count 89 = .ok (.goto 4, 3) := by decide +kernel
theorem dX12_count_92 : decode cX12_count 92 = .ok (.iload_n 1, 1) := by decide +kernel
theorem dX12_count_93 : decode cX12_count 93 = .ok (.tableswitch 120 0 9 #[55, 71, 76, 81, 87, 92, 100, 107, 116, 118], 55) := by decide +kernel
theorem dX12_count_148 : decode cX12_count 148 = .ok (.aload_n 0, 1) := by decide +kernel
theorem dX12_count_149 : decode cX12_count 149 = .ok (.getfield 1, 3) := by decide +kernel
theorem dX12_count_152 : decode cX12_count 152 = .ok (.ifCond .le 7, 3) := by decide +kernel
theorem dX12_count_155 : decode cX12_count 155 = .ok (.iconst 0, 1) := by decide +kernel
theorem dX12_count_156 : decode cX12_count 156 = .ok (.goto 7, 3) := by decide +kernel
theorem dX12_count_159 : decode cX12_count 159 = .ok (.aload_n 0, 1) := by decide +kernel
theorem dX12_count_160 : decode cX12_count 160 = .ok (.getfield 399, 3) := by decide +kernel
theorem dX12_count_163 : decode cX12_count 163 = .ok (.ireturn, 1) := by decide +kernel
theorem dX12_count_164 : decode cX12_count 164 = .ok (.aload_n 0, 1) := by decide +kernel
theorem dX12_count_165 : decode cX12_count 165 = .ok (.getfield 406, 3) := by decide +kernel
theorem dX12_count_168 : decode cX12_count 168 = .ok (.ireturn, 1) := by decide +kernel
theorem dX12_count_169 : decode cX12_count 169 = .ok (.aload_n 0, 1) := by decide +kernel
theorem dX12_count_170 : decode cX12_count 170 = .ok (.getfield 409, 3) := by decide +kernel
theorem dX12_count_173 : decode cX12_count 173 = .ok (.ireturn, 1) := by decide +kernel
theorem dX12_count_174 : decode cX12_count 174 = .ok (.aload_n 0, 1) := by decide +kernel
theorem dX12_count_175 : decode cX12_count 175 = .ok (.iconst 0, 1) := by decide +kernel
theorem dX12_count_176 : decode cX12_count 176 = .ok (.invokevirtual 438, 3) := by decide +kernel
theorem dX12_count_179 : decode cX12_count 179 = .ok (.ireturn, 1) := by decide +kernel
theorem dX12_count_180 : decode cX12_count 180 = .ok (.aload_n 0, 1) := by decide +kernel
theorem dX12_count_181 : decode cX12_count 181 = .ok (.getfield 221, 3) := by decide +kernel
theorem dX12_count_184 : decode cX12_count 184 = .ok (.ireturn, 1) := by decide +kernel
theorem dX12_count_185 : decode cX12_count 185 = .ok (.aload_n 0, 1) := by decide +kernel
theorem dX12_count_186 : decode cX12_count 186 = .ok (.iconst 1, 1) := by decide +kernel
theorem dX12_count_187 : decode cX12_count 187 = .ok (.bipush 6, 2) := by decide +kernel
theorem dX12_count_189 : decode cX12_count 189 = .ok (.invokevirtual 441, 3) := by decide +kernel
theorem dX12_count_192 : decode cX12_count 192 = .ok (.ireturn, 1) := by decide +kernel
theorem dX12_count_193 : decode cX12_count 193 = .ok (.aload_n 0, 1) := by decide +kernel
theorem dX12_count_194 : decode cX12_count 194 = .ok (.iconst 1, 1) := by decide +kernel
theorem dX12_count_195 : decode cX12_count 195 = .ok (.iconst 1, 1) := by decide +kernel
theorem dX12_count_196 : decode cX12_count 196 = .ok (.invokevirtual 441, 3) := by decide +kernel
theorem dX12_count_199 : decode cX12_count 199 = .ok (.ireturn, 1) := by decide +kernel
theorem dX12_count_200 : decode cX12_count 200 = .ok (.aload_n 0, 1) := by decide +kernel
theorem dX12_count_201 : decode cX12_count 201 = .ok (.bipush 7, 2) := by decide +kernel
theorem dX12_count_203 : decode cX12_count 203 = .ok (.bipush 7, 2) := by decide +kernel
theorem dX12_count_205 : decode cX12_count 205 = .ok (.invokevirtual 441, 3) := by decide +kernel
theorem dX12_count_208 : decode cX12_count 208 = .ok (.ireturn, 1) := by decide +kernel
theorem dX12_count_209 : decode cX12_count 209 = .ok (.iload_n 2, 1) := by decide +kernel
theorem dX12_count_210 : decode cX12_count 210 = .ok (.ireturn, 1) := by decide +kernel
theorem dX12_count_211 : decode cX12_count 211 = .ok (.iload_n 3, 1) := by decide +kernel
theorem dX12_count_212 : decode cX12_count 212 = .ok (.ireturn, 1) := by decide +kernel
theorem dX12_count_213 : decode cX12_count 213 = .ok (.aload_n 0, 1) := by decide +kernel
theorem dX12_count_214 : decode cX12_count 214 = .ok (.getfield 227, 3) := by decide +kernel
theorem dX12_count_217 : decode cX12_count 217 = .ok (.ireturn, 1) := by decide +kernel
