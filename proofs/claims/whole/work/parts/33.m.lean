/-! METHODS (printed by gen/build.py): Mo_init Mo_putBack Mo_tell Mo_undo Mo_in Mo_image Mo_lasting Mo_back Mo_is Mo_isField Mo_isRing Mo_isBucket Mo_reckon -/
theorem d_Mo_init_0 : decode (yB Y_Mo_init) 0 = .ok (.aload_n 0, 1) := by decide +kernel
theorem d_Mo_init_1 : decode (yB Y_Mo_init) 1 = .ok (.invokespecial 1, 3) := by decide +kernel
theorem d_Mo_init_4 : decode (yB Y_Mo_init) 4 = .ok (.aload_n 0, 1) := by decide +kernel
theorem d_Mo_init_5 : decode (yB Y_Mo_init) 5 = .ok (.bipush 7, 2) := by decide +kernel
theorem d_Mo_init_7 : decode (yB Y_Mo_init) 7 = .ok (.newarray .int, 2) := by decide +kernel
theorem d_Mo_init_9 : decode (yB Y_Mo_init) 9 = .ok (.putfield 7, 3) := by decide +kernel
theorem d_Mo_init_12 : decode (yB Y_Mo_init) 12 = .ok (.aload_n 0, 1) := by decide +kernel
theorem d_Mo_init_13 : decode (yB Y_Mo_init) 13 = .ok (.sipush 5480, 3) := by decide +kernel
theorem d_Mo_init_16 : decode (yB Y_Mo_init) 16 = .ok (.newarray .int, 2) := by decide +kernel
theorem d_Mo_init_18 : decode (yB Y_Mo_init) 18 = .ok (.putfield 13, 3) := by decide +kernel
theorem d_Mo_init_21 : decode (yB Y_Mo_init) 21 = .ok (.aload_n 0, 1) := by decide +kernel
theorem d_Mo_init_22 : decode (yB Y_Mo_init) 22 = .ok (.sipush 10960, 3) := by decide +kernel
theorem d_Mo_init_25 : decode (yB Y_Mo_init) 25 = .ok (.newarray .int, 2) := by decide +kernel
theorem d_Mo_init_27 : decode (yB Y_Mo_init) 27 = .ok (.putfield 16, 3) := by decide +kernel
theorem d_Mo_init_30 : decode (yB Y_Mo_init) 30 = .ok (.aload_n 0, 1) := by decide +kernel
theorem d_Mo_init_31 : decode (yB Y_Mo_init) 31 = .ok (.iconst 2, 1) := by decide +kernel
theorem d_Mo_init_32 : decode (yB Y_Mo_init) 32 = .ok (.newarray .boolean, 2) := by decide +kernel
theorem d_Mo_init_34 : decode (yB Y_Mo_init) 34 = .ok (.putfield 19, 3) := by decide +kernel
theorem d_Mo_init_37 : decode (yB Y_Mo_init) 37 = .ok (.aload_n 0, 1) := by decide +kernel
theorem d_Mo_init_38 : decode (yB Y_Mo_init) 38 = .ok (.sipush 900, 3) := by decide +kernel
theorem d_Mo_init_41 : decode (yB Y_Mo_init) 41 = .ok (.newarray .int, 2) := by decide +kernel
theorem d_Mo_init_43 : decode (yB Y_Mo_init) 43 = .ok (.putfield 23, 3) := by decide +kernel
theorem d_Mo_init_46 : decode (yB Y_Mo_init) 46 = .ok (.aload_n 0, 1) := by decide +kernel
theorem d_Mo_init_47 : decode (yB Y_Mo_init) 47 = .ok (.bipush 16, 2) := by decide +kernel
theorem d_Mo_init_49 : decode (yB Y_Mo_init) 49 = .ok (.newarray .int, 2) := by decide +kernel
theorem d_Mo_init_51 : decode (yB Y_Mo_init) 51 = .ok (.putfield 26, 3) := by decide +kernel
theorem d_Mo_init_54 : decode (yB Y_Mo_init) 54 = .ok (.aload_n 0, 1) := by decide +kernel
theorem d_Mo_init_55 : decode (yB Y_Mo_init) 55 = .ok (.sipush 800, 3) := by decide +kernel
theorem d_Mo_init_58 : decode (yB Y_Mo_init) 58 = .ok (.newarray .int, 2) := by decide +kernel
theorem d_Mo_init_60 : decode (yB Y_Mo_init) 60 = .ok (.putfield 29, 3) := by decide +kernel
theorem d_Mo_init_63 : decode (yB Y_Mo_init) 63 = .ok (.aload_n 0, 1) := by decide +kernel
theorem d_Mo_init_64 : decode (yB Y_Mo_init) 64 = .ok (.bipush 16, 2) := by decide +kernel
theorem d_Mo_init_66 : decode (yB Y_Mo_init) 66 = .ok (.newarray .int, 2) := by decide +kernel
theorem d_Mo_init_68 : decode (yB Y_Mo_init) 68 = .ok (.putfield 32, 3) := by decide +kernel
theorem d_Mo_init_71 : decode (yB Y_Mo_init) 71 = .ok (.aload_n 0, 1) := by decide +kernel
theorem d_Mo_init_72 : decode (yB Y_Mo_init) 72 = .ok (.sipush 400, 3) := by decide +kernel
theorem d_Mo_init_75 : decode (yB Y_Mo_init) 75 = .ok (.newarray .int, 2) := by decide +kernel
theorem d_Mo_init_77 : decode (yB Y_Mo_init) 77 = .ok (.putfield 35, 3) := by decide +kernel
theorem d_Mo_init_80 : decode (yB Y_Mo_init) 80 = .ok (.aload_n 0, 1) := by decide +kernel
theorem d_Mo_init_81 : decode (yB Y_Mo_init) 81 = .ok (.iconst (-1), 1) := by decide +kernel
theorem d_Mo_init_82 : decode (yB Y_Mo_init) 82 = .ok (.putfield 38, 3) := by decide +kernel
theorem d_Mo_init_85 : decode (yB Y_Mo_init) 85 = .ok (.aload_n 0, 1) := by decide +kernel
theorem d_Mo_init_86 : decode (yB Y_Mo_init) 86 = .ok (.bipush 96, 2) := by decide +kernel
theorem d_Mo_init_88 : decode (yB Y_Mo_init) 88 = .ok (.newarray .int, 2) := by decide +kernel
theorem d_Mo_init_90 : decode (yB Y_Mo_init) 90 = .ok (.putfield 42, 3) := by decide +kernel
theorem d_Mo_init_93 : decode (yB Y_Mo_init) 93 = .ok (.aload_n 0, 1) := by decide +kernel
theorem d_Mo_init_94 : decode (yB Y_Mo_init) 94 = .ok (.sipush 400, 3) := by decide +kernel
theorem d_Mo_init_97 : decode (yB Y_Mo_init) 97 = .ok (.newarray .int, 2) := by decide +kernel
theorem d_Mo_init_99 : decode (yB Y_Mo_init) 99 = .ok (.putfield 45, 3) := by decide +kernel
theorem d_Mo_init_102 : decode (yB Y_Mo_init) 102 = .ok (.aload_n 0, 1) := by decide +kernel
theorem d_Mo_init_103 : decode (yB Y_Mo_init) 103 = .ok (.sipush 400, 3) := by decide +kernel
theorem d_Mo_init_106 : decode (yB Y_Mo_init) 106 = .ok (.newarray .int, 2) := by decide +kernel
theorem d_Mo_init_108 : decode (yB Y_Mo_init) 108 = .ok (.putfield 48, 3) := by decide +kernel
theorem d_Mo_init_111 : decode (yB Y_Mo_init) 111 = .ok (.aload_n 0, 1) := by decide +kernel
theorem d_Mo_init_112 : decode (yB Y_Mo_init) 112 = .ok (.sipush 400, 3) := by decide +kernel
theorem d_Mo_init_115 : decode (yB Y_Mo_init) 115 = .ok (.newarray .int, 2) := by decide +kernel
theorem d_Mo_init_117 : decode (yB Y_Mo_init) 117 = .ok (.putfield 51, 3) := by decide +kernel
theorem d_Mo_init_120 : decode (yB Y_Mo_init) 120 = .ok (.aload_n 0, 1) := by decide +kernel
theorem d_Mo_init_121 : decode (yB Y_Mo_init) 121 = .ok (.sipush 400, 3) := by decide +kernel
theorem d_Mo_init_124 : decode (yB Y_Mo_init) 124 = .ok (.newarray .int, 2) := by decide +kernel
theorem d_Mo_init_126 : decode (yB Y_Mo_init) 126 = .ok (.putfield 54, 3) := by decide +kernel
theorem d_Mo_init_129 : decode (yB Y_Mo_init) 129 = .ok (.aload_n 0, 1) := by decide +kernel
theorem d_Mo_init_130 : decode (yB Y_Mo_init) 130 = .ok (.bipush 9, 2) := by decide +kernel
theorem d_Mo_init_132 : decode (yB Y_Mo_init) 132 = .ok (.newarray .long, 2) := by decide +kernel
theorem d_Mo_init_134 : decode (yB Y_Mo_init) 134 = .ok (.dup, 1) := by decide +kernel
theorem d_Mo_init_135 : decode (yB Y_Mo_init) 135 = .ok (.iconst 0, 1) := by decide +kernel
theorem d_Mo_init_136 : decode (yB Y_Mo_init) 136 = .ok (.ldc2_w 57, 3) := by decide +kernel
theorem d_Mo_init_139 : decode (yB Y_Mo_init) 139 = .ok (.lastore, 1) := by decide +kernel
theorem d_Mo_init_140 : decode (yB Y_Mo_init) 140 = .ok (.dup, 1) := by decide +kernel
theorem d_Mo_init_141 : decode (yB Y_Mo_init) 141 = .ok (.iconst 1, 1) := by decide +kernel
theorem d_Mo_init_142 : decode (yB Y_Mo_init) 142 = .ok (.ldc2_w 59, 3) := by decide +kernel
theorem d_Mo_init_145 : decode (yB Y_Mo_init) 145 = .ok (.lastore, 1) := by decide +kernel
theorem d_Mo_init_146 : decode (yB Y_Mo_init) 146 = .ok (.dup, 1) := by decide +kernel
theorem d_Mo_init_147 : decode (yB Y_Mo_init) 147 = .ok (.iconst 2, 1) := by decide +kernel
theorem d_Mo_init_148 : decode (yB Y_Mo_init) 148 = .ok (.ldc2_w 61, 3) := by decide +kernel
theorem d_Mo_init_151 : decode (yB Y_Mo_init) 151 = .ok (.lastore, 1) := by decide +kernel
theorem d_Mo_init_152 : decode (yB Y_Mo_init) 152 = .ok (.dup, 1) := by decide +kernel
theorem d_Mo_init_153 : decode (yB Y_Mo_init) 153 = .ok (.iconst 3, 1) := by decide +kernel
theorem d_Mo_init_154 : decode (yB Y_Mo_init) 154 = .ok (.ldc2_w 63, 3) := by decide +kernel
theorem d_Mo_init_157 : decode (yB Y_Mo_init) 157 = .ok (.lastore, 1) := by decide +kernel
theorem d_Mo_init_158 : decode (yB Y_Mo_init) 158 = .ok (.dup, 1) := by decide +kernel
theorem d_Mo_init_159 : decode (yB Y_Mo_init) 159 = .ok (.iconst 4, 1) := by decide +kernel
theorem d_Mo_init_160 : decode (yB Y_Mo_init) 160 = .ok (.ldc2_w 65, 3) := by decide +kernel
theorem d_Mo_init_163 : decode (yB Y_Mo_init) 163 = .ok (.lastore, 1) := by decide +kernel
theorem d_Mo_init_164 : decode (yB Y_Mo_init) 164 = .ok (.dup, 1) := by decide +kernel
theorem d_Mo_init_165 : decode (yB Y_Mo_init) 165 = .ok (.iconst 5, 1) := by decide +kernel
theorem d_Mo_init_166 : decode (yB Y_Mo_init) 166 = .ok (.ldc2_w 67, 3) := by decide +kernel
theorem d_Mo_init_169 : decode (yB Y_Mo_init) 169 = .ok (.lastore, 1) := by decide +kernel
theorem d_Mo_init_170 : decode (yB Y_Mo_init) 170 = .ok (.dup, 1) := by decide +kernel
theorem d_Mo_init_171 : decode (yB Y_Mo_init) 171 = .ok (.bipush 6, 2) := by decide +kernel
theorem d_Mo_init_173 : decode (yB Y_Mo_init) 173 = .ok (.ldc2_w 69, 3) := by decide +kernel
theorem d_Mo_init_176 : decode (yB Y_Mo_init) 176 = .ok (.lastore, 1) := by decide +kernel
theorem d_Mo_init_177 : decode (yB Y_Mo_init) 177 = .ok (.dup, 1) := by decide +kernel
theorem d_Mo_init_178 : decode (yB Y_Mo_init) 178 = .ok (.bipush 7, 2) := by decide +kernel
theorem d_Mo_init_180 : decode (yB Y_Mo_init) 180 = .ok (.ldc2_w 71, 3) := by decide +kernel
theorem d_Mo_init_183 : decode (yB Y_Mo_init) 183 = .ok (.lastore, 1) := by decide +kernel
theorem d_Mo_init_184 : decode (yB Y_Mo_init) 184 = .ok (.dup, 1) := by decide +kernel
theorem d_Mo_init_185 : decode (yB Y_Mo_init) 185 = .ok (.bipush 8, 2) := by decide +kernel
theorem d_Mo_init_187 : decode (yB Y_Mo_init) 187 = .ok (.ldc2_w 73, 3) := by decide +kernel
theorem d_Mo_init_190 : decode (yB Y_Mo_init) 190 = .ok (.lastore, 1) := by decide +kernel
theorem d_Mo_init_191 : decode (yB Y_Mo_init) 191 = .ok (.putfield 75, 3) := by decide +kernel
theorem d_Mo_init_194 : decode (yB Y_Mo_init) 194 = .ok (.aload_n 0, 1) := by decide +kernel
theorem d_Mo_init_195 : decode (yB Y_Mo_init) 195 = .ok (.bipush 7, 2) := by decide +kernel
theorem d_Mo_init_197 : decode (yB Y_Mo_init) 197 = .ok (.newarray .long, 2) := by decide +kernel
theorem d_Mo_init_199 : decode (yB Y_Mo_init) 199 = .ok (.dup, 1) := by decide +kernel
theorem d_Mo_init_200 : decode (yB Y_Mo_init) 200 = .ok (.iconst 0, 1) := by decide +kernel
theorem d_Mo_init_201 : decode (yB Y_Mo_init) 201 = .ok (.ldc2_w 69, 3) := by decide +kernel
theorem d_Mo_init_204 : decode (yB Y_Mo_init) 204 = .ok (.lastore, 1) := by decide +kernel
theorem d_Mo_init_205 : decode (yB Y_Mo_init) 205 = .ok (.dup, 1) := by decide +kernel
theorem d_Mo_init_206 : decode (yB Y_Mo_init) 206 = .ok (.iconst 1, 1) := by decide +kernel
theorem d_Mo_init_207 : decode (yB Y_Mo_init) 207 = .ok (.ldc2_w 79, 3) := by decide +kernel
theorem d_Mo_init_210 : decode (yB Y_Mo_init) 210 = .ok (.lastore, 1) := by decide +kernel
theorem d_Mo_init_211 : decode (yB Y_Mo_init) 211 = .ok (.dup, 1) := by decide +kernel
theorem d_Mo_init_212 : decode (yB Y_Mo_init) 212 = .ok (.iconst 2, 1) := by decide +kernel
theorem d_Mo_init_213 : decode (yB Y_Mo_init) 213 = .ok (.ldc2_w 81, 3) := by decide +kernel
theorem d_Mo_init_216 : decode (yB Y_Mo_init) 216 = .ok (.lastore, 1) := by decide +kernel
theorem d_Mo_init_217 : decode (yB Y_Mo_init) 217 = .ok (.dup, 1) := by decide +kernel
theorem d_Mo_init_218 : decode (yB Y_Mo_init) 218 = .ok (.iconst 3, 1) := by decide +kernel
theorem d_Mo_init_219 : decode (yB Y_Mo_init) 219 = .ok (.ldc2_w 83, 3) := by decide +kernel
theorem d_Mo_init_222 : decode (yB Y_Mo_init) 222 = .ok (.lastore, 1) := by decide +kernel
theorem d_Mo_init_223 : decode (yB Y_Mo_init) 223 = .ok (.dup, 1) := by decide +kernel
theorem d_Mo_init_224 : decode (yB Y_Mo_init) 224 = .ok (.iconst 4, 1) := by decide +kernel
theorem d_Mo_init_225 : decode (yB Y_Mo_init) 225 = .ok (.ldc2_w 85, 3) := by decide +kernel
theorem d_Mo_init_228 : decode (yB Y_Mo_init) 228 = .ok (.lastore, 1) := by decide +kernel
theorem d_Mo_init_229 : decode (yB Y_Mo_init) 229 = .ok (.dup, 1) := by decide +kernel
theorem d_Mo_init_230 : decode (yB Y_Mo_init) 230 = .ok (.iconst 5, 1) := by decide +kernel
theorem d_Mo_init_231 : decode (yB Y_Mo_init) 231 = .ok (.ldc2_w 67, 3) := by decide +kernel
theorem d_Mo_init_234 : decode (yB Y_Mo_init) 234 = .ok (.lastore, 1) := by decide +kernel
theorem d_Mo_init_235 : decode (yB Y_Mo_init) 235 = .ok (.dup, 1) := by decide +kernel
theorem d_Mo_init_236 : decode (yB Y_Mo_init) 236 = .ok (.bipush 6, 2) := by decide +kernel
theorem d_Mo_init_238 : decode (yB Y_Mo_init) 238 = .ok (.ldc2_w 87, 3) := by decide +kernel
theorem d_Mo_init_241 : decode (yB Y_Mo_init) 241 = .ok (.lastore, 1) := by decide +kernel
theorem d_Mo_init_242 : decode (yB Y_Mo_init) 242 = .ok (.putfield 89, 3) := by decide +kernel
theorem d_Mo_init_245 : decode (yB Y_Mo_init) 245 = .ok (.aload_n 0, 1) := by decide +kernel
theorem d_Mo_init_246 : decode (yB Y_Mo_init) 246 = .ok (.iconst 4, 1) := by decide +kernel
theorem d_Mo_init_247 : decode (yB Y_Mo_init) 247 = .ok (.newarray .long, 2) := by decide +kernel
theorem d_Mo_init_249 : decode (yB Y_Mo_init) 249 = .ok (.dup, 1) := by decide +kernel
theorem d_Mo_init_250 : decode (yB Y_Mo_init) 250 = .ok (.iconst 0, 1) := by decide +kernel
theorem d_Mo_init_251 : decode (yB Y_Mo_init) 251 = .ok (.ldc2_w 92, 3) := by decide +kernel
theorem d_Mo_init_254 : decode (yB Y_Mo_init) 254 = .ok (.lastore, 1) := by decide +kernel
theorem d_Mo_init_255 : decode (yB Y_Mo_init) 255 = .ok (.dup, 1) := by decide +kernel
theorem d_Mo_init_256 : decode (yB Y_Mo_init) 256 = .ok (.iconst 1, 1) := by decide +kernel
theorem d_Mo_init_257 : decode (yB Y_Mo_init) 257 = .ok (.ldc2_w 94, 3) := by decide +kernel
theorem d_Mo_init_260 : decode (yB Y_Mo_init) 260 = .ok (.lastore, 1) := by decide +kernel
theorem d_Mo_init_261 : decode (yB Y_Mo_init) 261 = .ok (.dup, 1) := by decide +kernel
theorem d_Mo_init_262 : decode (yB Y_Mo_init) 262 = .ok (.iconst 2, 1) := by decide +kernel
theorem d_Mo_init_263 : decode (yB Y_Mo_init) 263 = .ok (.ldc2_w 96, 3) := by decide +kernel
theorem d_Mo_init_266 : decode (yB Y_Mo_init) 266 = .ok (.lastore, 1) := by decide +kernel
theorem d_Mo_init_267 : decode (yB Y_Mo_init) 267 = .ok (.dup, 1) := by decide +kernel
theorem d_Mo_init_268 : decode (yB Y_Mo_init) 268 = .ok (.iconst 3, 1) := by decide +kernel
theorem d_Mo_init_269 : decode (yB Y_Mo_init) 269 = .ok (.ldc2_w 98, 3) := by decide +kernel
theorem d_Mo_init_272 : decode (yB Y_Mo_init) 272 = .ok (.lastore, 1) := by decide +kernel
theorem d_Mo_init_273 : decode (yB Y_Mo_init) 273 = .ok (.putfield 100, 3) := by decide +kernel
theorem d_Mo_init_276 : decode (yB Y_Mo_init) 276 = .ok (.aload_n 0, 1) := by decide +kernel
theorem d_Mo_init_277 : decode (yB Y_Mo_init) 277 = .ok (.bipush 13, 2) := by decide +kernel
theorem d_Mo_init_279 : decode (yB Y_Mo_init) 279 = .ok (.newarray .long, 2) := by decide +kernel
theorem d_Mo_init_281 : decode (yB Y_Mo_init) 281 = .ok (.putfield 103, 3) := by decide +kernel
theorem d_Mo_init_284 : decode (yB Y_Mo_init) 284 = .ok (.aload_n 0, 1) := by decide +kernel
theorem d_Mo_init_285 : decode (yB Y_Mo_init) 285 = .ok (.bipush 13, 2) := by decide +kernel
theorem d_Mo_init_287 : decode (yB Y_Mo_init) 287 = .ok (.newarray .long, 2) := by decide +kernel
theorem d_Mo_init_289 : decode (yB Y_Mo_init) 289 = .ok (.putfield 106, 3) := by decide +kernel
theorem d_Mo_init_292 : decode (yB Y_Mo_init) 292 = .ok (.aload_n 0, 1) := by decide +kernel
theorem d_Mo_init_293 : decode (yB Y_Mo_init) 293 = .ok (.sipush 400, 3) := by decide +kernel
theorem d_Mo_init_296 : decode (yB Y_Mo_init) 296 = .ok (.newarray .long, 2) := by decide +kernel
theorem d_Mo_init_298 : decode (yB Y_Mo_init) 298 = .ok (.putfield 109, 3) := by decide +kernel
theorem d_Mo_init_301 : decode (yB Y_Mo_init) 301 = .ok (.aload_n 0, 1) := by decide +kernel
theorem d_Mo_init_302 : decode (yB Y_Mo_init) 302 = .ok (.bipush 8, 2) := by decide +kernel
theorem d_Mo_init_304 : decode (yB Y_Mo_init) 304 = .ok (.newarray .int, 2) := by decide +kernel
theorem d_Mo_init_306 : decode (yB Y_Mo_init) 306 = .ok (.putfield 112, 3) := by decide +kernel
theorem d_Mo_init_309 : decode (yB Y_Mo_init) 309 = .ok (.aload_n 0, 1) := by decide +kernel
theorem d_Mo_init_310 : decode (yB Y_Mo_init) 310 = .ok (.bipush 24, 2) := by decide +kernel
theorem d_Mo_init_312 : decode (yB Y_Mo_init) 312 = .ok (.newarray .int, 2) := by decide +kernel
theorem d_Mo_init_314 : decode (yB Y_Mo_init) 314 = .ok (.putfield 115, 3) := by decide +kernel
theorem d_Mo_init_317 : decode (yB Y_Mo_init) 317 = .ok (.aload_n 0, 1) := by decide +kernel
theorem d_Mo_init_318 : decode (yB Y_Mo_init) 318 = .ok (.iconst 4, 1) := by decide +kernel
theorem d_Mo_init_319 : decode (yB Y_Mo_init) 319 = .ok (.newarray .int, 2) := by decide +kernel
theorem d_Mo_init_321 : decode (yB Y_Mo_init) 321 = .ok (.putfield 118, 3) := by decide +kernel
theorem d_Mo_init_324 : decode (yB Y_Mo_init) 324 = .ok (.aload_n 0, 1) := by decide +kernel
theorem d_Mo_init_325 : decode (yB Y_Mo_init) 325 = .ok (.iconst 3, 1) := by decide +kernel
theorem d_Mo_init_326 : decode (yB Y_Mo_init) 326 = .ok (.newarray .int, 2) := by decide +kernel
theorem d_Mo_init_328 : decode (yB Y_Mo_init) 328 = .ok (.putfield 121, 3) := by decide +kernel
theorem d_Mo_init_331 : decode (yB Y_Mo_init) 331 = .ok (.aload_n 0, 1) := by decide +kernel
theorem d_Mo_init_332 : decode (yB Y_Mo_init) 332 = .ok (.sipush 256, 3) := by decide +kernel
theorem d_Mo_init_335 : decode (yB Y_Mo_init) 335 = .ok (.newarray .int, 2) := by decide +kernel
theorem d_Mo_init_337 : decode (yB Y_Mo_init) 337 = .ok (.putfield 124, 3) := by decide +kernel
theorem d_Mo_init_340 : decode (yB Y_Mo_init) 340 = .ok (.aload_n 0, 1) := by decide +kernel
theorem d_Mo_init_341 : decode (yB Y_Mo_init) 341 = .ok (.sipush 401, 3) := by decide +kernel
theorem d_Mo_init_344 : decode (yB Y_Mo_init) 344 = .ok (.newarray .int, 2) := by decide +kernel
theorem d_Mo_init_346 : decode (yB Y_Mo_init) 346 = .ok (.putfield 127, 3) := by decide +kernel
theorem d_Mo_init_349 : decode (yB Y_Mo_init) 349 = .ok (.aload_n 0, 1) := by decide +kernel
theorem d_Mo_init_350 : decode (yB Y_Mo_init) 350 = .ok (.bipush 21, 2) := by decide +kernel
theorem d_Mo_init_352 : decode (yB Y_Mo_init) 352 = .ok (.newarray .long, 2) := by decide +kernel
theorem d_Mo_init_354 : decode (yB Y_Mo_init) 354 = .ok (.putfield 130, 3) := by decide +kernel
theorem d_Mo_init_357 : decode (yB Y_Mo_init) 357 = .ok (.aload_n 0, 1) := by decide +kernel
theorem d_Mo_init_358 : decode (yB Y_Mo_init) 358 = .ok (.iconst 4, 1) := by decide +kernel
theorem d_Mo_init_359 : decode (yB Y_Mo_init) 359 = .ok (.newarray .long, 2) := by decide +kernel
theorem d_Mo_init_361 : decode (yB Y_Mo_init) 361 = .ok (.dup, 1) := by decide +kernel
theorem d_Mo_init_362 : decode (yB Y_Mo_init) 362 = .ok (.iconst 0, 1) := by decide +kernel
theorem d_Mo_init_363 : decode (yB Y_Mo_init) 363 = .ok (.ldc2_w 133, 3) := by decide +kernel
theorem d_Mo_init_366 : decode (yB Y_Mo_init) 366 = .ok (.lastore, 1) := by decide +kernel
theorem d_Mo_init_367 : decode (yB Y_Mo_init) 367 = .ok (.dup, 1) := by decide +kernel
theorem d_Mo_init_368 : decode (yB Y_Mo_init) 368 = .ok (.iconst 1, 1) := by decide +kernel
theorem d_Mo_init_369 : decode (yB Y_Mo_init) 369 = .ok (.ldc2_w 135, 3) := by decide +kernel
theorem d_Mo_init_372 : decode (yB Y_Mo_init) 372 = .ok (.lastore, 1) := by decide +kernel
theorem d_Mo_init_373 : decode (yB Y_Mo_init) 373 = .ok (.dup, 1) := by decide +kernel
theorem d_Mo_init_374 : decode (yB Y_Mo_init) 374 = .ok (.iconst 2, 1) := by decide +kernel
theorem d_Mo_init_375 : decode (yB Y_Mo_init) 375 = .ok (.ldc2_w 137, 3) := by decide +kernel
theorem d_Mo_init_378 : decode (yB Y_Mo_init) 378 = .ok (.lastore, 1) := by decide +kernel
theorem d_Mo_init_379 : decode (yB Y_Mo_init) 379 = .ok (.dup, 1) := by decide +kernel
theorem d_Mo_init_380 : decode (yB Y_Mo_init) 380 = .ok (.iconst 3, 1) := by decide +kernel
theorem d_Mo_init_381 : decode (yB Y_Mo_init) 381 = .ok (.ldc2_w 139, 3) := by decide +kernel
theorem d_Mo_init_384 : decode (yB Y_Mo_init) 384 = .ok (.lastore, 1) := by decide +kernel
theorem d_Mo_init_385 : decode (yB Y_Mo_init) 385 = .ok (.putfield 141, 3) := by decide +kernel
theorem d_Mo_init_388 : decode (yB Y_Mo_init) 388 = .ok (.aload_n 0, 1) := by decide +kernel
theorem d_Mo_init_389 : decode (yB Y_Mo_init) 389 = .ok (.bipush 96, 2) := by decide +kernel
theorem d_Mo_init_391 : decode (yB Y_Mo_init) 391 = .ok (.newarray .int, 2) := by decide +kernel
theorem d_Mo_init_393 : decode (yB Y_Mo_init) 393 = .ok (.putfield 144, 3) := by decide +kernel
theorem d_Mo_init_396 : decode (yB Y_Mo_init) 396 = .ok (.aload_n 0, 1) := by decide +kernel
theorem d_Mo_init_397 : decode (yB Y_Mo_init) 397 = .ok (.iconst (-1), 1) := by decide +kernel
theorem d_Mo_init_398 : decode (yB Y_Mo_init) 398 = .ok (.putfield 147, 3) := by decide +kernel
theorem d_Mo_init_401 : decode (yB Y_Mo_init) 401 = .ok (.aload_n 0, 1) := by decide +kernel
theorem d_Mo_init_402 : decode (yB Y_Mo_init) 402 = .ok (.bipush 11, 2) := by decide +kernel
theorem d_Mo_init_404 : decode (yB Y_Mo_init) 404 = .ok (.newarray .int, 2) := by decide +kernel
theorem d_Mo_init_406 : decode (yB Y_Mo_init) 406 = .ok (.putfield 150, 3) := by decide +kernel
theorem d_Mo_init_409 : decode (yB Y_Mo_init) 409 = .ok (.aload_n 0, 1) := by decide +kernel
theorem d_Mo_init_410 : decode (yB Y_Mo_init) 410 = .ok (.iconst (-1), 1) := by decide +kernel
theorem d_Mo_init_411 : decode (yB Y_Mo_init) 411 = .ok (.putfield 153, 3) := by decide +kernel
theorem d_Mo_init_414 : decode (yB Y_Mo_init) 414 = .ok (.aload_n 0, 1) := by decide +kernel
theorem d_Mo_init_415 : decode (yB Y_Mo_init) 415 = .ok (.getfield 13, 3) := by decide +kernel
theorem d_Mo_init_418 : decode (yB Y_Mo_init) 418 = .ok (.iconst 3, 1) := by decide +kernel
theorem d_Mo_init_419 : decode (yB Y_Mo_init) 419 = .ok (.iconst (-1), 1) := by decide +kernel
theorem d_Mo_init_420 : decode (yB Y_Mo_init) 420 = .ok (.iastore, 1) := by decide +kernel
theorem d_Mo_init_421 : decode (yB Y_Mo_init) 421 = .ok (.aload_n 0, 1) := by decide +kernel
theorem d_Mo_init_422 : decode (yB Y_Mo_init) 422 = .ok (.getfield 13, 3) := by decide +kernel
theorem d_Mo_init_425 : decode (yB Y_Mo_init) 425 = .ok (.iconst 5, 1) := by decide +kernel
theorem d_Mo_init_426 : decode (yB Y_Mo_init) 426 = .ok (.iconst 3, 1) := by decide +kernel
theorem d_Mo_init_427 : decode (yB Y_Mo_init) 427 = .ok (.iastore, 1) := by decide +kernel
theorem d_Mo_init_428 : decode (yB Y_Mo_init) 428 = .ok (.aload_n 0, 1) := by decide +kernel
theorem d_Mo_init_429 : decode (yB Y_Mo_init) 429 = .ok (.getfield 13, 3) := by decide +kernel
theorem d_Mo_init_432 : decode (yB Y_Mo_init) 432 = .ok (.bipush 7, 2) := by decide +kernel
theorem d_Mo_init_434 : decode (yB Y_Mo_init) 434 = .ok (.iconst 1, 1) := by decide +kernel
theorem d_Mo_init_435 : decode (yB Y_Mo_init) 435 = .ok (.iastore, 1) := by decide +kernel
theorem d_Mo_init_436 : decode (yB Y_Mo_init) 436 = .ok (.iconst 0, 1) := by decide +kernel
theorem d_Mo_init_437 : decode (yB Y_Mo_init) 437 = .ok (.istore_n 1, 1) := by decide +kernel
theorem d_Mo_init_438 : decode (yB Y_Mo_init) 438 = .ok (.iload_n 1, 1) := by decide +kernel
theorem d_Mo_init_439 : decode (yB Y_Mo_init) 439 = .ok (.bipush 32, 2) := by decide +kernel
theorem d_Mo_init_441 : decode (yB Y_Mo_init) 441 = .ok (.if_icmp .ge 19, 3) := by decide +kernel
theorem d_Mo_init_444 : decode (yB Y_Mo_init) 444 = .ok (.aload_n 0, 1) := by decide +kernel
theorem d_Mo_init_445 : decode (yB Y_Mo_init) 445 = .ok (.getfield 13, 3) := by decide +kernel
theorem d_Mo_init_448 : decode (yB Y_Mo_init) 448 = .ok (.bipush 12, 2) := by decide +kernel
theorem d_Mo_init_450 : decode (yB Y_Mo_init) 450 = .ok (.iload_n 1, 1) := by decide +kernel
theorem d_Mo_init_451 : decode (yB Y_Mo_init) 451 = .ok (.iadd, 1) := by decide +kernel
theorem d_Mo_init_452 : decode (yB Y_Mo_init) 452 = .ok (.iconst 1, 1) := by decide +kernel
theorem d_Mo_init_453 : decode (yB Y_Mo_init) 453 = .ok (.iastore, 1) := by decide +kernel
theorem d_Mo_init_454 : decode (yB Y_Mo_init) 454 = .ok (.iinc 1 1, 3) := by decide +kernel
theorem d_Mo_init_457 : decode (yB Y_Mo_init) 457 = .ok (.goto (-19), 3) := by decide +kernel
theorem d_Mo_init_460 : decode (yB Y_Mo_init) 460 = .ok (.iconst 0, 1) := by decide +kernel
theorem d_Mo_init_461 : decode (yB Y_Mo_init) 461 = .ok (.istore_n 1, 1) := by decide +kernel
theorem d_Mo_init_462 : decode (yB Y_Mo_init) 462 = .ok (.iload_n 1, 1) := by decide +kernel
theorem d_Mo_init_463 : decode (yB Y_Mo_init) 463 = .ok (.bipush 8, 2) := by decide +kernel
theorem d_Mo_init_465 : decode (yB Y_Mo_init) 465 = .ok (.if_icmp .ge 19, 3) := by decide +kernel
theorem d_Mo_init_468 : decode (yB Y_Mo_init) 468 = .ok (.aload_n 0, 1) := by decide +kernel
theorem d_Mo_init_469 : decode (yB Y_Mo_init) 469 = .ok (.getfield 13, 3) := by decide +kernel
theorem d_Mo_init_472 : decode (yB Y_Mo_init) 472 = .ok (.bipush 57, 2) := by decide +kernel
theorem d_Mo_init_474 : decode (yB Y_Mo_init) 474 = .ok (.iload_n 1, 1) := by decide +kernel
theorem d_Mo_init_475 : decode (yB Y_Mo_init) 475 = .ok (.iadd, 1) := by decide +kernel
theorem d_Mo_init_476 : decode (yB Y_Mo_init) 476 = .ok (.iconst (-1), 1) := by decide +kernel
theorem d_Mo_init_477 : decode (yB Y_Mo_init) 477 = .ok (.iastore, 1) := by decide +kernel
theorem d_Mo_init_478 : decode (yB Y_Mo_init) 478 = .ok (.iinc 1 1, 3) := by decide +kernel
theorem d_Mo_init_481 : decode (yB Y_Mo_init) 481 = .ok (.goto (-19), 3) := by decide +kernel
theorem d_Mo_init_484 : decode (yB Y_Mo_init) 484 = .ok (.return_, 1) := by decide +kernel
def F_Mo_init_L462 (n : Nat) (E : zE) (r462 : Nat × Int32 × zS × zH → Option (zS × zH)) (a0 : Nat) (x1 : Int32) (S : zS) (M : zH) : Option (zS × zH) :=
  if 8 ≤ x1 then
    some (S, M)
  else
    (zgR S a0 11 3).bind fun b_2 =>
    (zstI S M b_2 (57 + x1) (-1)).bind fun m_3 =>
    r462 (a0, x1 + 1, S, m_3)
def F_Mo_init_b462 (n : Nat) (E : zE) : Nat × Int32 × zS × zH → Option (zS × zH) := zfix (fun r462 s => F_Mo_init_L462 n E r462 s.1 s.2.1 s.2.2.1 s.2.2.2) n
def F_Mo_init_L438 (n : Nat) (E : zE) (r438 : Nat × Int32 × zS × zH → Option (zS × zH)) (a0 : Nat) (x1 : Int32) (S : zS) (M : zH) : Option (zS × zH) :=
  if 32 ≤ x1 then
    F_Mo_init_b462 n E (a0, 0, S, M)
  else
    (zgR S a0 11 3).bind fun b_5 =>
    (zstI S M b_5 (12 + x1) 1).bind fun m_6 =>
    r438 (a0, x1 + 1, S, m_6)
def F_Mo_init_b438 (n : Nat) (E : zE) : Nat × Int32 × zS × zH → Option (zS × zH) := zfix (fun r438 s => F_Mo_init_L438 n E r438 s.1 s.2.1 s.2.2.1 s.2.2.2) n
def F_Mo_init (n : Nat) (E : zE) (a0 : Nat) (S : zS) (M : zH) : Option (zS × zH) :=
  (zmkA S M 12 7 7).bind fun q_7 =>
  (zpR q_7.2.1 a0 11 2 q_7.1).bind fun S_8 =>
  (zmkA S_8 q_7.2.2 12 5480 5480).bind fun q_9 =>
  (zpR q_9.2.1 a0 11 3 q_9.1).bind fun S_10 =>
  (zmkA S_10 q_9.2.2 12 10960 10960).bind fun q_11 =>
  (zpR q_11.2.1 a0 11 4 q_11.1).bind fun S_12 =>
  (zmkA S_12 q_11.2.2 13 2 2).bind fun q_13 =>
  (zpR q_13.2.1 a0 11 5 q_13.1).bind fun S_14 =>
  (zmkA S_14 q_13.2.2 12 900 900).bind fun q_15 =>
  (zpR q_15.2.1 a0 11 6 q_15.1).bind fun S_16 =>
  (zmkA S_16 q_15.2.2 12 16 16).bind fun q_17 =>
  (zpR q_17.2.1 a0 11 7 q_17.1).bind fun S_18 =>
  (zmkA S_18 q_17.2.2 12 800 800).bind fun q_19 =>
  (zpR q_19.2.1 a0 11 9 q_19.1).bind fun S_20 =>
  (zmkA S_20 q_19.2.2 12 16 16).bind fun q_21 =>
  (zpR q_21.2.1 a0 11 10 q_21.1).bind fun S_22 =>
  (zmkA S_22 q_21.2.2 12 400 400).bind fun q_23 =>
  (zpR q_23.2.1 a0 11 12 q_23.1).bind fun S_24 =>
  (zpI S_24 q_23.2.2 a0 11 18 (-1)).bind fun m_25 =>
  (zmkA S_24 m_25 12 96 96).bind fun q_26 =>
  (zpR q_26.2.1 a0 11 22 q_26.1).bind fun S_27 =>
  (zmkA S_27 q_26.2.2 12 400 400).bind fun q_28 =>
  (zpR q_28.2.1 a0 11 24 q_28.1).bind fun S_29 =>
  (zmkA S_29 q_28.2.2 12 400 400).bind fun q_30 =>
  (zpR q_30.2.1 a0 11 25 q_30.1).bind fun S_31 =>
  (zmkA S_31 q_30.2.2 12 400 400).bind fun q_32 =>
  (zpR q_32.2.1 a0 11 27 q_32.1).bind fun S_33 =>
  (zmkA S_33 q_32.2.2 12 400 400).bind fun q_34 =>
  (zpR q_34.2.1 a0 11 28 q_34.1).bind fun S_35 =>
  (zmkA S_35 q_34.2.2 15 9 9).bind fun q_36 =>
  (zstJ q_36.2.1 q_36.2.2 q_36.1 0 599495).bind fun m_37 =>
  (zstJ q_36.2.1 m_37 q_36.1 1 277893).bind fun m_38 =>
  (zstJ q_36.2.1 m_38 q_36.1 2 81477).bind fun m_39 =>
  (zstJ q_36.2.1 m_39 q_36.1 3 6591876).bind fun m_40 =>
  (zstJ q_36.2.1 m_40 q_36.1 4 89238708).bind fun m_41 =>
  (zstJ q_36.2.1 m_41 q_36.1 5 12769452).bind fun m_42 =>
  (zstJ q_36.2.1 m_42 q_36.1 6 278194).bind fun m_43 =>
  (zstJ q_36.2.1 m_43 q_36.1 7 23732).bind fun m_44 =>
  (zstJ q_36.2.1 m_44 q_36.1 8 441828).bind fun m_45 =>
  (zpR q_36.2.1 a0 11 31 q_36.1).bind fun S_46 =>
  (zmkA S_46 m_45 15 7 7).bind fun q_47 =>
  (zstJ q_47.2.1 q_47.2.2 q_47.1 0 278194).bind fun m_48 =>
  (zstJ q_47.2.1 m_48 q_47.1 1 146885).bind fun m_49 =>
  (zstJ q_47.2.1 m_49 q_47.1 2 404362868).bind fun m_50 =>
  (zstJ q_47.2.1 m_50 q_47.1 3 102407444).bind fun m_51 =>
  (zstJ q_47.2.1 m_51 q_47.1 4 677454).bind fun m_52 =>
  (zstJ q_47.2.1 m_52 q_47.1 5 12769452).bind fun m_53 =>
  (zstJ q_47.2.1 m_53 q_47.1 6 209399).bind fun m_54 =>
  (zpR q_47.2.1 a0 11 32 q_47.1).bind fun S_55 =>
  (zmkA S_55 m_54 15 4 4).bind fun q_56 =>
  (zstJ q_56.2.1 q_56.2.2 q_56.1 0 611795).bind fun m_57 =>
  (zstJ q_56.2.1 m_57 q_56.1 1 12748147).bind fun m_58 =>
  (zstJ q_56.2.1 m_58 q_56.1 2 526131).bind fun m_59 =>
  (zstJ q_56.2.1 m_59 q_56.1 3 67155).bind fun m_60 =>
  (zpR q_56.2.1 a0 11 33 q_56.1).bind fun S_61 =>
  (zmkA S_61 m_60 15 13 13).bind fun q_62 =>
  (zpR q_62.2.1 a0 11 35 q_62.1).bind fun S_63 =>
  (zmkA S_63 q_62.2.2 15 13 13).bind fun q_64 =>
  (zpR q_64.2.1 a0 11 36 q_64.1).bind fun S_65 =>
  (zmkA S_65 q_64.2.2 15 400 400).bind fun q_66 =>
  (zpR q_66.2.1 a0 11 37 q_66.1).bind fun S_67 =>
  (zmkA S_67 q_66.2.2 12 8 8).bind fun q_68 =>
  (zpR q_68.2.1 a0 11 41 q_68.1).bind fun S_69 =>
  (zmkA S_69 q_68.2.2 12 24 24).bind fun q_70 =>
  (zpR q_70.2.1 a0 11 42 q_70.1).bind fun S_71 =>
  (zmkA S_71 q_70.2.2 12 4 4).bind fun q_72 =>
  (zpR q_72.2.1 a0 11 43 q_72.1).bind fun S_73 =>
  (zmkA S_73 q_72.2.2 12 3 3).bind fun q_74 =>
  (zpR q_74.2.1 a0 11 44 q_74.1).bind fun S_75 =>
  (zmkA S_75 q_74.2.2 12 256 256).bind fun q_76 =>
  (zpR q_76.2.1 a0 11 45 q_76.1).bind fun S_77 =>
  (zmkA S_77 q_76.2.2 12 401 401).bind fun q_78 =>
  (zpR q_78.2.1 a0 11 46 q_78.1).bind fun S_79 =>
  (zmkA S_79 q_78.2.2 15 21 21).bind fun q_80 =>
  (zpR q_80.2.1 a0 11 47 q_80.1).bind fun S_81 =>
  (zmkA S_81 q_80.2.2 15 4 4).bind fun q_82 =>
  (zstJ q_82.2.1 q_82.2.2 q_82.1 0 2505835).bind fun m_83 =>
  (zstJ q_82.2.1 m_83 q_82.1 1 594989).bind fun m_84 =>
  (zstJ q_82.2.1 m_84 q_82.1 2 19636).bind fun m_85 =>
  (zstJ q_82.2.1 m_85 q_82.1 3 525939).bind fun m_86 =>
  (zpR q_82.2.1 a0 11 48 q_82.1).bind fun S_87 =>
  (zmkA S_87 m_86 12 96 96).bind fun q_88 =>
  (zpR q_88.2.1 a0 11 49 q_88.1).bind fun S_89 =>
  (zpI S_89 q_88.2.2 a0 11 52 (-1)).bind fun m_90 =>
  (zmkA S_89 m_90 12 11 11).bind fun q_91 =>
  (zpR q_91.2.1 a0 11 55 q_91.1).bind fun S_92 =>
  (zpI S_92 q_91.2.2 a0 11 56 (-1)).bind fun m_93 =>
  (zgR S_92 a0 11 3).bind fun b_94 =>
  (zstI S_92 m_93 b_94 3 (-1)).bind fun m_95 =>
  (zstI S_92 m_95 b_94 5 3).bind fun m_96 =>
  (zstI S_92 m_96 b_94 7 1).bind fun m_97 =>
  F_Mo_init_b438 n E (a0, 0, S_92, m_97)
theorem K_Mo_init_L462 (n : Nat) (E : zE) (r462 : Nat × Int32 × zS × zH → Option (zS × zH)) (a0 : Nat) (x1 : Int32) (S : zS) (M : zH) (S' : zS) (M' : zH) (hr462 : ∀ (a0 : Nat) (x1 : Int32) (S : zS) (M : zH), r462 (a0, x1, S, M) = some (S', M') → zG E Y_Mo_init (none, S', M') 462 [(0, .ref a0), (1, .int x1)] [] S M 30 21551) (h : F_Mo_init_L462 n E r462 a0 x1 S M = some (S', M')) : zG E Y_Mo_init (none, S', M') 462 [(0, .ref a0), (1, .int x1)] [] S M 30 21551 := by
  unfold F_Mo_init_L462 at h
  refine zi_iload_n 1 d_Mo_init_462 rfl ?_
  refine zi_bipush 8 d_Mo_init_463 rfl ?_
  refine zi_icmp_ge (tgt := 484) d_Mo_init_465 rfl (fun c_1 => ?_) (fun c_1 => ?_)
  · rw [if_pos c_1] at h
    cases h
    exact zo_ret d_Mo_init_484 (Nat.le_of_ble_eq_true rfl) (Nat.le_of_ble_eq_true rfl) rfl
  · rw [if_neg c_1] at h
    refine zi_aload_n 0 d_Mo_init_468 rfl ?_
    obtain ⟨b_2, eb_2, h⟩ := zbind h
    refine zo_getR 472 zkd_11 3 d_Mo_init_469 eb_2 rfl tw_1232 rfl ?_
    refine zi_bipush 57 d_Mo_init_472 rfl ?_
    refine zi_iload_n 1 d_Mo_init_474 rfl ?_
    refine zi_iadd d_Mo_init_475 ?_
    refine zi_iconst (-1) d_Mo_init_476 rfl ?_
    obtain ⟨m_3, em_3, h⟩ := zbind h
    refine zo_iast 478 d_Mo_init_477 em_3 rfl ?_
    refine zi_iinc 1 (x1 + 1) [(1, .int (x1 + 1)), (0, .ref a0)] d_Mo_init_478 rfl rfl (by decide) rfl ?_
    refine zi_goto (tgt := 462) d_Mo_init_481 rfl ?_
    refine zi_lo [(0, .ref a0), (1, .int (x1 + 1))] [1, 0] rfl ?_
    exact hr462 a0 (x1 + 1) S m_3 h
theorem K_Mo_init_b462 (n : Nat) (E : zE) (a0 : Nat) (x1 : Int32) (S : zS) (M : zH) (S' : zS) (M' : zH)  (h : F_Mo_init_b462 n E (a0, x1, S, M) = some (S', M')) : zG E Y_Mo_init (none, S', M') 462 [(0, .ref a0), (1, .int x1)] [] S M 30 21551 := by
  have key : ∀ (k : Nat) (a0 : Nat) (x1 : Int32) (S : zS) (M : zH), zfix (fun r462 s => F_Mo_init_L462 n E r462 s.1 s.2.1 s.2.2.1 s.2.2.2) k (a0, x1, S, M) = some (S', M') → zG E Y_Mo_init (none, S', M') 462 [(0, .ref a0), (1, .int x1)] [] S M 30 21551 := by
    intro k
    induction k with
    | zero => intro a0 x1 S M h; cases h
    | succ k ih => intro a0 x1 S M h; exact K_Mo_init_L462 n E _ a0 x1 S M S' M'  (fun a0 x1 S M h => ih a0 x1 S M h) h
  exact key n a0 x1 S M h
theorem K_Mo_init_L438 (n : Nat) (E : zE) (r438 : Nat × Int32 × zS × zH → Option (zS × zH)) (a0 : Nat) (x1 : Int32) (S : zS) (M : zH) (S' : zS) (M' : zH) (hr438 : ∀ (a0 : Nat) (x1 : Int32) (S : zS) (M : zH), r438 (a0, x1, S, M) = some (S', M') → zG E Y_Mo_init (none, S', M') 438 [(0, .ref a0), (1, .int x1)] [] S M 30 21551) (h : F_Mo_init_L438 n E r438 a0 x1 S M = some (S', M')) : zG E Y_Mo_init (none, S', M') 438 [(0, .ref a0), (1, .int x1)] [] S M 30 21551 := by
  unfold F_Mo_init_L438 at h
  refine zi_iload_n 1 d_Mo_init_438 rfl ?_
  refine zi_bipush 32 d_Mo_init_439 rfl ?_
  refine zi_icmp_ge (tgt := 460) d_Mo_init_441 rfl (fun c_4 => ?_) (fun c_4 => ?_)
  · rw [if_pos c_4] at h
    refine zi_iconst 0 d_Mo_init_460 rfl ?_
    refine zi_istore_n [(1, .int 0), (0, .ref a0)] d_Mo_init_461 (by decide) rfl ?_
    refine zi_lo [(0, .ref a0), (1, .int 0)] [1, 0] rfl ?_
    exact K_Mo_init_b462 n E a0 0 S M S' M'  h
  · rw [if_neg c_4] at h
    refine zi_aload_n 0 d_Mo_init_444 rfl ?_
    obtain ⟨b_5, eb_5, h⟩ := zbind h
    refine zo_getR 448 zkd_11 3 d_Mo_init_445 eb_5 rfl tw_1232 rfl ?_
    refine zi_bipush 12 d_Mo_init_448 rfl ?_
    refine zi_iload_n 1 d_Mo_init_450 rfl ?_
    refine zi_iadd d_Mo_init_451 ?_
    refine zi_iconst 1 d_Mo_init_452 rfl ?_
    obtain ⟨m_6, em_6, h⟩ := zbind h
    refine zo_iast 454 d_Mo_init_453 em_6 rfl ?_
    refine zi_iinc 1 (x1 + 1) [(1, .int (x1 + 1)), (0, .ref a0)] d_Mo_init_454 rfl rfl (by decide) rfl ?_
    refine zi_goto (tgt := 438) d_Mo_init_457 rfl ?_
    refine zi_lo [(0, .ref a0), (1, .int (x1 + 1))] [1, 0] rfl ?_
    exact hr438 a0 (x1 + 1) S m_6 h
theorem K_Mo_init_b438 (n : Nat) (E : zE) (a0 : Nat) (x1 : Int32) (S : zS) (M : zH) (S' : zS) (M' : zH)  (h : F_Mo_init_b438 n E (a0, x1, S, M) = some (S', M')) : zG E Y_Mo_init (none, S', M') 438 [(0, .ref a0), (1, .int x1)] [] S M 30 21551 := by
  have key : ∀ (k : Nat) (a0 : Nat) (x1 : Int32) (S : zS) (M : zH), zfix (fun r438 s => F_Mo_init_L438 n E r438 s.1 s.2.1 s.2.2.1 s.2.2.2) k (a0, x1, S, M) = some (S', M') → zG E Y_Mo_init (none, S', M') 438 [(0, .ref a0), (1, .int x1)] [] S M 30 21551 := by
    intro k
    induction k with
    | zero => intro a0 x1 S M h; cases h
    | succ k ih => intro a0 x1 S M h; exact K_Mo_init_L438 n E _ a0 x1 S M S' M'  (fun a0 x1 S M h => ih a0 x1 S M h) h
  exact key n a0 x1 S M h
theorem K_Mo_init (n : Nat) (E : zE) (a0 : Nat) (S : zS) (M : zH) (S' : zS) (M' : zH)  (h : F_Mo_init n E a0 S M = some (S', M')) : zG E Y_Mo_init (none, S', M') 0 [(0, .ref a0)] [] S M 0 0 := by
  unfold F_Mo_init at h
  refine zi_aload_n 0 d_Mo_init_0 rfl ?_
  refine zi_objInit d_Mo_init_1 tw_1206 tw_28 zobj (by decide) (Nat.le_of_ble_eq_true rfl) ?_
  refine zi_aload_n 0 d_Mo_init_4 rfl ?_
  refine zi_bipush 7 d_Mo_init_5 rfl ?_
  obtain ⟨q_7, eq_7, h⟩ := zbind h
  refine zo_newarr (pos := 0) 9 d_Mo_init_7 eq_7 (by decide) rfl rfl (by decide) tw_129 (Nat.le_of_ble_eq_true rfl) (Nat.le_of_ble_eq_true rfl) rfl rfl rfl ?_
  obtain ⟨S_8, eS_8, h⟩ := zbind h
  refine zo_putR 12 zkd_11 2 d_Mo_init_9 eS_8 rfl rfl rfl rfl ⟨rfl, rfl⟩ tw_1231 rfl ?_
  refine zi_aload_n 0 d_Mo_init_12 rfl ?_
  refine zi_sipush 5480 d_Mo_init_13 rfl ?_
  obtain ⟨q_9, eq_9, h⟩ := zbind h
  refine zo_newarr (pos := 0) 18 d_Mo_init_16 eq_9 (by decide) rfl rfl (by decide) tw_129 (Nat.le_of_ble_eq_true rfl) (Nat.le_of_ble_eq_true rfl) rfl rfl rfl ?_
  obtain ⟨S_10, eS_10, h⟩ := zbind h
  refine zo_putR 21 zkd_11 3 d_Mo_init_18 eS_10 rfl rfl rfl rfl ⟨rfl, rfl⟩ tw_1232 rfl ?_
  refine zi_aload_n 0 d_Mo_init_21 rfl ?_
  refine zi_sipush 10960 d_Mo_init_22 rfl ?_
  obtain ⟨q_11, eq_11, h⟩ := zbind h
  refine zo_newarr (pos := 0) 27 d_Mo_init_25 eq_11 (by decide) rfl rfl (by decide) tw_129 (Nat.le_of_ble_eq_true rfl) (Nat.le_of_ble_eq_true rfl) rfl rfl rfl ?_
  obtain ⟨S_12, eS_12, h⟩ := zbind h
  refine zo_putR 30 zkd_11 4 d_Mo_init_27 eS_12 rfl rfl rfl rfl ⟨rfl, rfl⟩ tw_1233 rfl ?_
  refine zi_aload_n 0 d_Mo_init_30 rfl ?_
  refine zi_iconst 2 d_Mo_init_31 rfl ?_
  obtain ⟨q_13, eq_13, h⟩ := zbind h
  refine zo_newarr (pos := 1) 34 d_Mo_init_32 eq_13 (by decide) rfl rfl (by decide) tw_130 (Nat.le_of_ble_eq_true rfl) (Nat.le_of_ble_eq_true rfl) rfl rfl rfl ?_
  obtain ⟨S_14, eS_14, h⟩ := zbind h
  refine zo_putR 37 zkd_11 5 d_Mo_init_34 eS_14 rfl rfl rfl rfl ⟨rfl, rfl⟩ tw_1234 rfl ?_
  refine zi_aload_n 0 d_Mo_init_37 rfl ?_
  refine zi_sipush 900 d_Mo_init_38 rfl ?_
  obtain ⟨q_15, eq_15, h⟩ := zbind h
  refine zo_newarr (pos := 0) 43 d_Mo_init_41 eq_15 (by decide) rfl rfl (by decide) tw_129 (Nat.le_of_ble_eq_true rfl) (Nat.le_of_ble_eq_true rfl) rfl rfl rfl ?_
  obtain ⟨S_16, eS_16, h⟩ := zbind h
  refine zo_putR 46 zkd_11 6 d_Mo_init_43 eS_16 rfl rfl rfl rfl ⟨rfl, rfl⟩ tw_1235 rfl ?_
  refine zi_aload_n 0 d_Mo_init_46 rfl ?_
  refine zi_bipush 16 d_Mo_init_47 rfl ?_
  obtain ⟨q_17, eq_17, h⟩ := zbind h
  refine zo_newarr (pos := 0) 51 d_Mo_init_49 eq_17 (by decide) rfl rfl (by decide) tw_129 (Nat.le_of_ble_eq_true rfl) (Nat.le_of_ble_eq_true rfl) rfl rfl rfl ?_
  obtain ⟨S_18, eS_18, h⟩ := zbind h
  refine zo_putR 54 zkd_11 7 d_Mo_init_51 eS_18 rfl rfl rfl rfl ⟨rfl, rfl⟩ tw_1236 rfl ?_
  refine zi_aload_n 0 d_Mo_init_54 rfl ?_
  refine zi_sipush 800 d_Mo_init_55 rfl ?_
  obtain ⟨q_19, eq_19, h⟩ := zbind h
  refine zo_newarr (pos := 0) 60 d_Mo_init_58 eq_19 (by decide) rfl rfl (by decide) tw_129 (Nat.le_of_ble_eq_true rfl) (Nat.le_of_ble_eq_true rfl) rfl rfl rfl ?_
  obtain ⟨S_20, eS_20, h⟩ := zbind h
  refine zo_putR 63 zkd_11 9 d_Mo_init_60 eS_20 rfl rfl rfl rfl ⟨rfl, rfl⟩ tw_1238 rfl ?_
  refine zi_aload_n 0 d_Mo_init_63 rfl ?_
  refine zi_bipush 16 d_Mo_init_64 rfl ?_
  obtain ⟨q_21, eq_21, h⟩ := zbind h
  refine zo_newarr (pos := 0) 68 d_Mo_init_66 eq_21 (by decide) rfl rfl (by decide) tw_129 (Nat.le_of_ble_eq_true rfl) (Nat.le_of_ble_eq_true rfl) rfl rfl rfl ?_
  obtain ⟨S_22, eS_22, h⟩ := zbind h
  refine zo_putR 71 zkd_11 10 d_Mo_init_68 eS_22 rfl rfl rfl rfl ⟨rfl, rfl⟩ tw_1239 rfl ?_
  refine zi_aload_n 0 d_Mo_init_71 rfl ?_
  refine zi_sipush 400 d_Mo_init_72 rfl ?_
  obtain ⟨q_23, eq_23, h⟩ := zbind h
  refine zo_newarr (pos := 0) 77 d_Mo_init_75 eq_23 (by decide) rfl rfl (by decide) tw_129 (Nat.le_of_ble_eq_true rfl) (Nat.le_of_ble_eq_true rfl) rfl rfl rfl ?_
  obtain ⟨S_24, eS_24, h⟩ := zbind h
  refine zo_putR 80 zkd_11 12 d_Mo_init_77 eS_24 rfl rfl rfl rfl ⟨rfl, rfl⟩ tw_1241 rfl ?_
  refine zi_aload_n 0 d_Mo_init_80 rfl ?_
  refine zi_iconst (-1) d_Mo_init_81 rfl ?_
  obtain ⟨m_25, em_25, h⟩ := zbind h
  refine zo_putI 85 zkd_11 18 d_Mo_init_82 em_25 rfl rfl rfl tw_1247 rfl ?_
  refine zi_aload_n 0 d_Mo_init_85 rfl ?_
  refine zi_bipush 96 d_Mo_init_86 rfl ?_
  obtain ⟨q_26, eq_26, h⟩ := zbind h
  refine zo_newarr (pos := 0) 90 d_Mo_init_88 eq_26 (by decide) rfl rfl (by decide) tw_129 (Nat.le_of_ble_eq_true rfl) (Nat.le_of_ble_eq_true rfl) rfl rfl rfl ?_
  obtain ⟨S_27, eS_27, h⟩ := zbind h
  refine zo_putR 93 zkd_11 22 d_Mo_init_90 eS_27 rfl rfl rfl rfl ⟨rfl, rfl⟩ tw_1251 rfl ?_
  refine zi_aload_n 0 d_Mo_init_93 rfl ?_
  refine zi_sipush 400 d_Mo_init_94 rfl ?_
  obtain ⟨q_28, eq_28, h⟩ := zbind h
  refine zo_newarr (pos := 0) 99 d_Mo_init_97 eq_28 (by decide) rfl rfl (by decide) tw_129 (Nat.le_of_ble_eq_true rfl) (Nat.le_of_ble_eq_true rfl) rfl rfl rfl ?_
  obtain ⟨S_29, eS_29, h⟩ := zbind h
  refine zo_putR 102 zkd_11 24 d_Mo_init_99 eS_29 rfl rfl rfl rfl ⟨rfl, rfl⟩ tw_1253 rfl ?_
  refine zi_aload_n 0 d_Mo_init_102 rfl ?_
  refine zi_sipush 400 d_Mo_init_103 rfl ?_
  obtain ⟨q_30, eq_30, h⟩ := zbind h
  refine zo_newarr (pos := 0) 108 d_Mo_init_106 eq_30 (by decide) rfl rfl (by decide) tw_129 (Nat.le_of_ble_eq_true rfl) (Nat.le_of_ble_eq_true rfl) rfl rfl rfl ?_
  obtain ⟨S_31, eS_31, h⟩ := zbind h
  refine zo_putR 111 zkd_11 25 d_Mo_init_108 eS_31 rfl rfl rfl rfl ⟨rfl, rfl⟩ tw_1254 rfl ?_
  refine zi_aload_n 0 d_Mo_init_111 rfl ?_
  refine zi_sipush 400 d_Mo_init_112 rfl ?_
  obtain ⟨q_32, eq_32, h⟩ := zbind h
  refine zo_newarr (pos := 0) 117 d_Mo_init_115 eq_32 (by decide) rfl rfl (by decide) tw_129 (Nat.le_of_ble_eq_true rfl) (Nat.le_of_ble_eq_true rfl) rfl rfl rfl ?_
  obtain ⟨S_33, eS_33, h⟩ := zbind h
  refine zo_putR 120 zkd_11 27 d_Mo_init_117 eS_33 rfl rfl rfl rfl ⟨rfl, rfl⟩ tw_1256 rfl ?_
  refine zi_aload_n 0 d_Mo_init_120 rfl ?_
  refine zi_sipush 400 d_Mo_init_121 rfl ?_
  obtain ⟨q_34, eq_34, h⟩ := zbind h
  refine zo_newarr (pos := 0) 126 d_Mo_init_124 eq_34 (by decide) rfl rfl (by decide) tw_129 (Nat.le_of_ble_eq_true rfl) (Nat.le_of_ble_eq_true rfl) rfl rfl rfl ?_
  obtain ⟨S_35, eS_35, h⟩ := zbind h
  refine zo_putR 129 zkd_11 28 d_Mo_init_126 eS_35 rfl rfl rfl rfl ⟨rfl, rfl⟩ tw_1257 rfl ?_
  refine zi_aload_n 0 d_Mo_init_129 rfl ?_
  refine zi_bipush 9 d_Mo_init_130 rfl ?_
  obtain ⟨q_36, eq_36, h⟩ := zbind h
  refine zo_newarr (pos := 3) 134 d_Mo_init_132 eq_36 (by decide) rfl rfl (by decide) tw_331 (Nat.le_of_ble_eq_true rfl) (Nat.le_of_ble_eq_true rfl) rfl rfl rfl ?_
  refine zi_dup d_Mo_init_134 rfl ?_
  refine zi_iconst 0 d_Mo_init_135 rfl ?_
  refine zi_ldc2 d_Mo_init_136 tw_1207 ?_
  obtain ⟨m_37, em_37, h⟩ := zbind h
  refine zo_last 140 d_Mo_init_139 em_37 rfl ?_
  refine zi_dup d_Mo_init_140 rfl ?_
  refine zi_iconst 1 d_Mo_init_141 rfl ?_
  refine zi_ldc2 d_Mo_init_142 tw_1208 ?_
  obtain ⟨m_38, em_38, h⟩ := zbind h
  refine zo_last 146 d_Mo_init_145 em_38 rfl ?_
  refine zi_dup d_Mo_init_146 rfl ?_
  refine zi_iconst 2 d_Mo_init_147 rfl ?_
  refine zi_ldc2 d_Mo_init_148 tw_1209 ?_
  obtain ⟨m_39, em_39, h⟩ := zbind h
  refine zo_last 152 d_Mo_init_151 em_39 rfl ?_
  refine zi_dup d_Mo_init_152 rfl ?_
  refine zi_iconst 3 d_Mo_init_153 rfl ?_
  refine zi_ldc2 d_Mo_init_154 tw_1210 ?_
  obtain ⟨m_40, em_40, h⟩ := zbind h
  refine zo_last 158 d_Mo_init_157 em_40 rfl ?_
  refine zi_dup d_Mo_init_158 rfl ?_
  refine zi_iconst 4 d_Mo_init_159 rfl ?_
  refine zi_ldc2 d_Mo_init_160 tw_1211 ?_
  obtain ⟨m_41, em_41, h⟩ := zbind h
  refine zo_last 164 d_Mo_init_163 em_41 rfl ?_
  refine zi_dup d_Mo_init_164 rfl ?_
  refine zi_iconst 5 d_Mo_init_165 rfl ?_
  refine zi_ldc2 d_Mo_init_166 tw_1212 ?_
  obtain ⟨m_42, em_42, h⟩ := zbind h
  refine zo_last 170 d_Mo_init_169 em_42 rfl ?_
  refine zi_dup d_Mo_init_170 rfl ?_
  refine zi_bipush 6 d_Mo_init_171 rfl ?_
  refine zi_ldc2 d_Mo_init_173 tw_1213 ?_
  obtain ⟨m_43, em_43, h⟩ := zbind h
  refine zo_last 177 d_Mo_init_176 em_43 rfl ?_
  refine zi_dup d_Mo_init_177 rfl ?_
  refine zi_bipush 7 d_Mo_init_178 rfl ?_
  refine zi_ldc2 d_Mo_init_180 tw_1214 ?_
  obtain ⟨m_44, em_44, h⟩ := zbind h
  refine zo_last 184 d_Mo_init_183 em_44 rfl ?_
  refine zi_dup d_Mo_init_184 rfl ?_
  refine zi_bipush 8 d_Mo_init_185 rfl ?_
  refine zi_ldc2 d_Mo_init_187 tw_1215 ?_
  obtain ⟨m_45, em_45, h⟩ := zbind h
  refine zo_last 191 d_Mo_init_190 em_45 rfl ?_
  obtain ⟨S_46, eS_46, h⟩ := zbind h
  refine zo_putR 194 zkd_11 31 d_Mo_init_191 eS_46 rfl rfl rfl rfl ⟨rfl, rfl⟩ tw_1260 rfl ?_
  refine zi_aload_n 0 d_Mo_init_194 rfl ?_
  refine zi_bipush 7 d_Mo_init_195 rfl ?_
  obtain ⟨q_47, eq_47, h⟩ := zbind h
  refine zo_newarr (pos := 3) 199 d_Mo_init_197 eq_47 (by decide) rfl rfl (by decide) tw_331 (Nat.le_of_ble_eq_true rfl) (Nat.le_of_ble_eq_true rfl) rfl rfl rfl ?_
  refine zi_dup d_Mo_init_199 rfl ?_
  refine zi_iconst 0 d_Mo_init_200 rfl ?_
  refine zi_ldc2 d_Mo_init_201 tw_1213 ?_
  obtain ⟨m_48, em_48, h⟩ := zbind h
  refine zo_last 205 d_Mo_init_204 em_48 rfl ?_
  refine zi_dup d_Mo_init_205 rfl ?_
  refine zi_iconst 1 d_Mo_init_206 rfl ?_
  refine zi_ldc2 d_Mo_init_207 tw_1216 ?_
  obtain ⟨m_49, em_49, h⟩ := zbind h
  refine zo_last 211 d_Mo_init_210 em_49 rfl ?_
  refine zi_dup d_Mo_init_211 rfl ?_
  refine zi_iconst 2 d_Mo_init_212 rfl ?_
  refine zi_ldc2 d_Mo_init_213 tw_1217 ?_
  obtain ⟨m_50, em_50, h⟩ := zbind h
  refine zo_last 217 d_Mo_init_216 em_50 rfl ?_
  refine zi_dup d_Mo_init_217 rfl ?_
  refine zi_iconst 3 d_Mo_init_218 rfl ?_
  refine zi_ldc2 d_Mo_init_219 tw_1218 ?_
  obtain ⟨m_51, em_51, h⟩ := zbind h
  refine zo_last 223 d_Mo_init_222 em_51 rfl ?_
  refine zi_dup d_Mo_init_223 rfl ?_
  refine zi_iconst 4 d_Mo_init_224 rfl ?_
  refine zi_ldc2 d_Mo_init_225 tw_1219 ?_
  obtain ⟨m_52, em_52, h⟩ := zbind h
  refine zo_last 229 d_Mo_init_228 em_52 rfl ?_
  refine zi_dup d_Mo_init_229 rfl ?_
  refine zi_iconst 5 d_Mo_init_230 rfl ?_
  refine zi_ldc2 d_Mo_init_231 tw_1212 ?_
  obtain ⟨m_53, em_53, h⟩ := zbind h
  refine zo_last 235 d_Mo_init_234 em_53 rfl ?_
  refine zi_dup d_Mo_init_235 rfl ?_
  refine zi_bipush 6 d_Mo_init_236 rfl ?_
  refine zi_ldc2 d_Mo_init_238 tw_1220 ?_
  obtain ⟨m_54, em_54, h⟩ := zbind h
  refine zo_last 242 d_Mo_init_241 em_54 rfl ?_
  obtain ⟨S_55, eS_55, h⟩ := zbind h
  refine zo_putR 245 zkd_11 32 d_Mo_init_242 eS_55 rfl rfl rfl rfl ⟨rfl, rfl⟩ tw_1261 rfl ?_
  refine zi_aload_n 0 d_Mo_init_245 rfl ?_
  refine zi_iconst 4 d_Mo_init_246 rfl ?_
  obtain ⟨q_56, eq_56, h⟩ := zbind h
  refine zo_newarr (pos := 3) 249 d_Mo_init_247 eq_56 (by decide) rfl rfl (by decide) tw_331 (Nat.le_of_ble_eq_true rfl) (Nat.le_of_ble_eq_true rfl) rfl rfl rfl ?_
  refine zi_dup d_Mo_init_249 rfl ?_
  refine zi_iconst 0 d_Mo_init_250 rfl ?_
  refine zi_ldc2 d_Mo_init_251 tw_1221 ?_
  obtain ⟨m_57, em_57, h⟩ := zbind h
  refine zo_last 255 d_Mo_init_254 em_57 rfl ?_
  refine zi_dup d_Mo_init_255 rfl ?_
  refine zi_iconst 1 d_Mo_init_256 rfl ?_
  refine zi_ldc2 d_Mo_init_257 tw_1222 ?_
  obtain ⟨m_58, em_58, h⟩ := zbind h
  refine zo_last 261 d_Mo_init_260 em_58 rfl ?_
  refine zi_dup d_Mo_init_261 rfl ?_
  refine zi_iconst 2 d_Mo_init_262 rfl ?_
  refine zi_ldc2 d_Mo_init_263 tw_1223 ?_
  obtain ⟨m_59, em_59, h⟩ := zbind h
  refine zo_last 267 d_Mo_init_266 em_59 rfl ?_
  refine zi_dup d_Mo_init_267 rfl ?_
  refine zi_iconst 3 d_Mo_init_268 rfl ?_
  refine zi_ldc2 d_Mo_init_269 tw_1224 ?_
  obtain ⟨m_60, em_60, h⟩ := zbind h
  refine zo_last 273 d_Mo_init_272 em_60 rfl ?_
  obtain ⟨S_61, eS_61, h⟩ := zbind h
  refine zo_putR 276 zkd_11 33 d_Mo_init_273 eS_61 rfl rfl rfl rfl ⟨rfl, rfl⟩ tw_1262 rfl ?_
  refine zi_aload_n 0 d_Mo_init_276 rfl ?_
  refine zi_bipush 13 d_Mo_init_277 rfl ?_
  obtain ⟨q_62, eq_62, h⟩ := zbind h
  refine zo_newarr (pos := 3) 281 d_Mo_init_279 eq_62 (by decide) rfl rfl (by decide) tw_331 (Nat.le_of_ble_eq_true rfl) (Nat.le_of_ble_eq_true rfl) rfl rfl rfl ?_
  obtain ⟨S_63, eS_63, h⟩ := zbind h
  refine zo_putR 284 zkd_11 35 d_Mo_init_281 eS_63 rfl rfl rfl rfl ⟨rfl, rfl⟩ tw_1264 rfl ?_
  refine zi_aload_n 0 d_Mo_init_284 rfl ?_
  refine zi_bipush 13 d_Mo_init_285 rfl ?_
  obtain ⟨q_64, eq_64, h⟩ := zbind h
  refine zo_newarr (pos := 3) 289 d_Mo_init_287 eq_64 (by decide) rfl rfl (by decide) tw_331 (Nat.le_of_ble_eq_true rfl) (Nat.le_of_ble_eq_true rfl) rfl rfl rfl ?_
  obtain ⟨S_65, eS_65, h⟩ := zbind h
  refine zo_putR 292 zkd_11 36 d_Mo_init_289 eS_65 rfl rfl rfl rfl ⟨rfl, rfl⟩ tw_1265 rfl ?_
  refine zi_aload_n 0 d_Mo_init_292 rfl ?_
  refine zi_sipush 400 d_Mo_init_293 rfl ?_
  obtain ⟨q_66, eq_66, h⟩ := zbind h
  refine zo_newarr (pos := 3) 298 d_Mo_init_296 eq_66 (by decide) rfl rfl (by decide) tw_331 (Nat.le_of_ble_eq_true rfl) (Nat.le_of_ble_eq_true rfl) rfl rfl rfl ?_
  obtain ⟨S_67, eS_67, h⟩ := zbind h
  refine zo_putR 301 zkd_11 37 d_Mo_init_298 eS_67 rfl rfl rfl rfl ⟨rfl, rfl⟩ tw_1266 rfl ?_
  refine zi_aload_n 0 d_Mo_init_301 rfl ?_
  refine zi_bipush 8 d_Mo_init_302 rfl ?_
  obtain ⟨q_68, eq_68, h⟩ := zbind h
  refine zo_newarr (pos := 0) 306 d_Mo_init_304 eq_68 (by decide) rfl rfl (by decide) tw_129 (Nat.le_of_ble_eq_true rfl) (Nat.le_of_ble_eq_true rfl) rfl rfl rfl ?_
  obtain ⟨S_69, eS_69, h⟩ := zbind h
  refine zo_putR 309 zkd_11 41 d_Mo_init_306 eS_69 rfl rfl rfl rfl ⟨rfl, rfl⟩ tw_1270 rfl ?_
  refine zi_aload_n 0 d_Mo_init_309 rfl ?_
  refine zi_bipush 24 d_Mo_init_310 rfl ?_
  obtain ⟨q_70, eq_70, h⟩ := zbind h
  refine zo_newarr (pos := 0) 314 d_Mo_init_312 eq_70 (by decide) rfl rfl (by decide) tw_129 (Nat.le_of_ble_eq_true rfl) (Nat.le_of_ble_eq_true rfl) rfl rfl rfl ?_
  obtain ⟨S_71, eS_71, h⟩ := zbind h
  refine zo_putR 317 zkd_11 42 d_Mo_init_314 eS_71 rfl rfl rfl rfl ⟨rfl, rfl⟩ tw_1271 rfl ?_
  refine zi_aload_n 0 d_Mo_init_317 rfl ?_
  refine zi_iconst 4 d_Mo_init_318 rfl ?_
  obtain ⟨q_72, eq_72, h⟩ := zbind h
  refine zo_newarr (pos := 0) 321 d_Mo_init_319 eq_72 (by decide) rfl rfl (by decide) tw_129 (Nat.le_of_ble_eq_true rfl) (Nat.le_of_ble_eq_true rfl) rfl rfl rfl ?_
  obtain ⟨S_73, eS_73, h⟩ := zbind h
  refine zo_putR 324 zkd_11 43 d_Mo_init_321 eS_73 rfl rfl rfl rfl ⟨rfl, rfl⟩ tw_1272 rfl ?_
  refine zi_aload_n 0 d_Mo_init_324 rfl ?_
  refine zi_iconst 3 d_Mo_init_325 rfl ?_
  obtain ⟨q_74, eq_74, h⟩ := zbind h
  refine zo_newarr (pos := 0) 328 d_Mo_init_326 eq_74 (by decide) rfl rfl (by decide) tw_129 (Nat.le_of_ble_eq_true rfl) (Nat.le_of_ble_eq_true rfl) rfl rfl rfl ?_
  obtain ⟨S_75, eS_75, h⟩ := zbind h
  refine zo_putR 331 zkd_11 44 d_Mo_init_328 eS_75 rfl rfl rfl rfl ⟨rfl, rfl⟩ tw_1273 rfl ?_
  refine zi_aload_n 0 d_Mo_init_331 rfl ?_
  refine zi_sipush 256 d_Mo_init_332 rfl ?_
  obtain ⟨q_76, eq_76, h⟩ := zbind h
  refine zo_newarr (pos := 0) 337 d_Mo_init_335 eq_76 (by decide) rfl rfl (by decide) tw_129 (Nat.le_of_ble_eq_true rfl) (Nat.le_of_ble_eq_true rfl) rfl rfl rfl ?_
  obtain ⟨S_77, eS_77, h⟩ := zbind h
  refine zo_putR 340 zkd_11 45 d_Mo_init_337 eS_77 rfl rfl rfl rfl ⟨rfl, rfl⟩ tw_1274 rfl ?_
  refine zi_aload_n 0 d_Mo_init_340 rfl ?_
  refine zi_sipush 401 d_Mo_init_341 rfl ?_
  obtain ⟨q_78, eq_78, h⟩ := zbind h
  refine zo_newarr (pos := 0) 346 d_Mo_init_344 eq_78 (by decide) rfl rfl (by decide) tw_129 (Nat.le_of_ble_eq_true rfl) (Nat.le_of_ble_eq_true rfl) rfl rfl rfl ?_
  obtain ⟨S_79, eS_79, h⟩ := zbind h
  refine zo_putR 349 zkd_11 46 d_Mo_init_346 eS_79 rfl rfl rfl rfl ⟨rfl, rfl⟩ tw_1275 rfl ?_
  refine zi_aload_n 0 d_Mo_init_349 rfl ?_
  refine zi_bipush 21 d_Mo_init_350 rfl ?_
  obtain ⟨q_80, eq_80, h⟩ := zbind h
  refine zo_newarr (pos := 3) 354 d_Mo_init_352 eq_80 (by decide) rfl rfl (by decide) tw_331 (Nat.le_of_ble_eq_true rfl) (Nat.le_of_ble_eq_true rfl) rfl rfl rfl ?_
  obtain ⟨S_81, eS_81, h⟩ := zbind h
  refine zo_putR 357 zkd_11 47 d_Mo_init_354 eS_81 rfl rfl rfl rfl ⟨rfl, rfl⟩ tw_1276 rfl ?_
  refine zi_aload_n 0 d_Mo_init_357 rfl ?_
  refine zi_iconst 4 d_Mo_init_358 rfl ?_
  obtain ⟨q_82, eq_82, h⟩ := zbind h
  refine zo_newarr (pos := 3) 361 d_Mo_init_359 eq_82 (by decide) rfl rfl (by decide) tw_331 (Nat.le_of_ble_eq_true rfl) (Nat.le_of_ble_eq_true rfl) rfl rfl rfl ?_
  refine zi_dup d_Mo_init_361 rfl ?_
  refine zi_iconst 0 d_Mo_init_362 rfl ?_
  refine zi_ldc2 d_Mo_init_363 tw_1225 ?_
  obtain ⟨m_83, em_83, h⟩ := zbind h
  refine zo_last 367 d_Mo_init_366 em_83 rfl ?_
  refine zi_dup d_Mo_init_367 rfl ?_
  refine zi_iconst 1 d_Mo_init_368 rfl ?_
  refine zi_ldc2 d_Mo_init_369 tw_1226 ?_
  obtain ⟨m_84, em_84, h⟩ := zbind h
  refine zo_last 373 d_Mo_init_372 em_84 rfl ?_
  refine zi_dup d_Mo_init_373 rfl ?_
  refine zi_iconst 2 d_Mo_init_374 rfl ?_
  refine zi_ldc2 d_Mo_init_375 tw_1227 ?_
  obtain ⟨m_85, em_85, h⟩ := zbind h
  refine zo_last 379 d_Mo_init_378 em_85 rfl ?_
  refine zi_dup d_Mo_init_379 rfl ?_
  refine zi_iconst 3 d_Mo_init_380 rfl ?_
  refine zi_ldc2 d_Mo_init_381 tw_1228 ?_
  obtain ⟨m_86, em_86, h⟩ := zbind h
  refine zo_last 385 d_Mo_init_384 em_86 rfl ?_
  obtain ⟨S_87, eS_87, h⟩ := zbind h
  refine zo_putR 388 zkd_11 48 d_Mo_init_385 eS_87 rfl rfl rfl rfl ⟨rfl, rfl⟩ tw_1277 rfl ?_
  refine zi_aload_n 0 d_Mo_init_388 rfl ?_
  refine zi_bipush 96 d_Mo_init_389 rfl ?_
  obtain ⟨q_88, eq_88, h⟩ := zbind h
  refine zo_newarr (pos := 0) 393 d_Mo_init_391 eq_88 (by decide) rfl rfl (by decide) tw_129 (Nat.le_of_ble_eq_true rfl) (Nat.le_of_ble_eq_true rfl) rfl rfl rfl ?_
  obtain ⟨S_89, eS_89, h⟩ := zbind h
  refine zo_putR 396 zkd_11 49 d_Mo_init_393 eS_89 rfl rfl rfl rfl ⟨rfl, rfl⟩ tw_1278 rfl ?_
  refine zi_aload_n 0 d_Mo_init_396 rfl ?_
  refine zi_iconst (-1) d_Mo_init_397 rfl ?_
  obtain ⟨m_90, em_90, h⟩ := zbind h
  refine zo_putI 401 zkd_11 52 d_Mo_init_398 em_90 rfl rfl rfl tw_1281 rfl ?_
  refine zi_aload_n 0 d_Mo_init_401 rfl ?_
  refine zi_bipush 11 d_Mo_init_402 rfl ?_
  obtain ⟨q_91, eq_91, h⟩ := zbind h
  refine zo_newarr (pos := 0) 406 d_Mo_init_404 eq_91 (by decide) rfl rfl (by decide) tw_129 (Nat.le_of_ble_eq_true rfl) (Nat.le_of_ble_eq_true rfl) rfl rfl rfl ?_
  obtain ⟨S_92, eS_92, h⟩ := zbind h
  refine zo_putR 409 zkd_11 55 d_Mo_init_406 eS_92 rfl rfl rfl rfl ⟨rfl, rfl⟩ tw_1284 rfl ?_
  refine zi_aload_n 0 d_Mo_init_409 rfl ?_
  refine zi_iconst (-1) d_Mo_init_410 rfl ?_
  obtain ⟨m_93, em_93, h⟩ := zbind h
  refine zo_putI 414 zkd_11 56 d_Mo_init_411 em_93 rfl rfl rfl tw_1285 rfl ?_
  refine zi_aload_n 0 d_Mo_init_414 rfl ?_
  obtain ⟨b_94, eb_94, h⟩ := zbind h
  refine zo_getR 418 zkd_11 3 d_Mo_init_415 eb_94 rfl tw_1232 rfl ?_
  refine zi_iconst 3 d_Mo_init_418 rfl ?_
  refine zi_iconst (-1) d_Mo_init_419 rfl ?_
  obtain ⟨m_95, em_95, h⟩ := zbind h
  refine zo_iast 421 d_Mo_init_420 em_95 rfl ?_
  refine zi_aload_n 0 d_Mo_init_421 rfl ?_
  refine zo_getR 425 zkd_11 3 d_Mo_init_422 eb_94 rfl tw_1232 rfl ?_
  refine zi_iconst 5 d_Mo_init_425 rfl ?_
  refine zi_iconst 3 d_Mo_init_426 rfl ?_
  obtain ⟨m_96, em_96, h⟩ := zbind h
  refine zo_iast 428 d_Mo_init_427 em_96 rfl ?_
  refine zi_aload_n 0 d_Mo_init_428 rfl ?_
  refine zo_getR 432 zkd_11 3 d_Mo_init_429 eb_94 rfl tw_1232 rfl ?_
  refine zi_bipush 7 d_Mo_init_432 rfl ?_
  refine zi_iconst 1 d_Mo_init_434 rfl ?_
  obtain ⟨m_97, em_97, h⟩ := zbind h
  refine zo_iast 436 d_Mo_init_435 em_97 rfl ?_
  refine zi_iconst 0 d_Mo_init_436 rfl ?_
  refine zi_istore_n [(1, .int 0), (0, .ref a0)] d_Mo_init_437 (by decide) rfl ?_
  refine zi_lo [(0, .ref a0), (1, .int 0)] [1, 0] rfl ?_
  exact K_Mo_init_b438 n E a0 0 S_92 m_97 S' M'  h
theorem C_Mo_init (n : Nat) (E : zE) (a0 : Nat) (S : zS) (M : zH) (S' : zS) (M' : zH) (h : F_Mo_init n E a0 S M = some (S', M')) : zC E Y_Mo_init [.ref a0] S M (none, S', M') :=
  zC.of (Or.inl (show plainName "NightColanderModel" = true by decide)) (Nat.le_of_ble_eq_true rfl) (trivial) (K_Mo_init n E a0 S M S' M' h)
theorem d_Mo_putBack_0 : decode (yB Y_Mo_putBack) 0 = .ok (.iconst 0, 1) := by decide +kernel
theorem d_Mo_putBack_1 : decode (yB Y_Mo_putBack) 1 = .ok (.istore_n 2, 1) := by decide +kernel
theorem d_Mo_putBack_2 : decode (yB Y_Mo_putBack) 2 = .ok (.iload_n 2, 1) := by decide +kernel
theorem d_Mo_putBack_3 : decode (yB Y_Mo_putBack) 3 = .ok (.bipush 50, 2) := by decide +kernel
theorem d_Mo_putBack_5 : decode (yB Y_Mo_putBack) 5 = .ok (.if_icmp .ge 28, 3) := by decide +kernel
theorem d_Mo_putBack_8 : decode (yB Y_Mo_putBack) 8 = .ok (.aload_n 0, 1) := by decide +kernel
theorem d_Mo_putBack_9 : decode (yB Y_Mo_putBack) 9 = .ok (.getfield 13, 3) := by decide +kernel
theorem d_Mo_putBack_12 : decode (yB Y_Mo_putBack) 12 = .ok (.iconst 4, 1) := by decide +kernel
theorem d_Mo_putBack_13 : decode (yB Y_Mo_putBack) 13 = .ok (.iload_n 2, 1) := by decide +kernel
theorem d_Mo_putBack_14 : decode (yB Y_Mo_putBack) 14 = .ok (.iadd, 1) := by decide +kernel
theorem d_Mo_putBack_15 : decode (yB Y_Mo_putBack) 15 = .ok (.aload_n 0, 1) := by decide +kernel
theorem d_Mo_putBack_16 : decode (yB Y_Mo_putBack) 16 = .ok (.getfield 23, 3) := by decide +kernel
theorem d_Mo_putBack_19 : decode (yB Y_Mo_putBack) 19 = .ok (.bipush 50, 2) := by decide +kernel
theorem d_Mo_putBack_21 : decode (yB Y_Mo_putBack) 21 = .ok (.iload_n 1, 1) := by decide +kernel
theorem d_Mo_putBack_22 : decode (yB Y_Mo_putBack) 22 = .ok (.imul, 1) := by decide +kernel
theorem d_Mo_putBack_23 : decode (yB Y_Mo_putBack) 23 = .ok (.iload_n 2, 1) := by decide +kernel
theorem d_Mo_putBack_24 : decode (yB Y_Mo_putBack) 24 = .ok (.iadd, 1) := by decide +kernel
theorem d_Mo_putBack_25 : decode (yB Y_Mo_putBack) 25 = .ok (.iaload, 1) := by decide +kernel
theorem d_Mo_putBack_26 : decode (yB Y_Mo_putBack) 26 = .ok (.iastore, 1) := by decide +kernel
theorem d_Mo_putBack_27 : decode (yB Y_Mo_putBack) 27 = .ok (.iinc 2 1, 3) := by decide +kernel
theorem d_Mo_putBack_30 : decode (yB Y_Mo_putBack) 30 = .ok (.goto (-28), 3) := by decide +kernel
theorem d_Mo_putBack_33 : decode (yB Y_Mo_putBack) 33 = .ok (.return_, 1) := by decide +kernel
def F_Mo_putBack_L2 (n : Nat) (E : zE) (S : zS) (r2 : Nat × Int32 × Int32 × zH → Option (zH)) (a0 : Nat) (x1 : Int32) (x2 : Int32) (M : zH) : Option (zH) :=
  if 50 ≤ x2 then
    some (M)
  else
    (zgR S a0 11 3).bind fun b_2 =>
    (zgR S a0 11 6).bind fun b_3 =>
    (zldI S M b_3 ((50 * x1) + x2)).bind fun v_4 =>
    (zstI S M b_2 (4 + x2) v_4).bind fun m_5 =>
    r2 (a0, x1, x2 + 1, m_5)
def F_Mo_putBack_b2 (n : Nat) (E : zE) (S : zS) : Nat × Int32 × Int32 × zH → Option (zH) := zfix (fun r2 s => F_Mo_putBack_L2 n E S r2 s.1 s.2.1 s.2.2.1 s.2.2.2) n
def F_Mo_putBack (n : Nat) (E : zE) (S : zS) (a0 : Nat) (x1 : Int32) (M : zH) : Option (zH) :=
  F_Mo_putBack_b2 n E S (a0, x1, 0, M)
theorem K_Mo_putBack_L2 (n : Nat) (E : zE) (S : zS) (r2 : Nat × Int32 × Int32 × zH → Option (zH)) (a0 : Nat) (x1 : Int32) (x2 : Int32) (M : zH) (M' : zH) (hr2 : ∀ (a0 : Nat) (x1 : Int32) (x2 : Int32) (M : zH), r2 (a0, x1, x2, M) = some M' → zG E Y_Mo_putBack (none, S, M') 2 [(0, .ref a0), (1, .int x1), (2, .int x2)] [] S M 0 0) (h : F_Mo_putBack_L2 n E S r2 a0 x1 x2 M = some M') : zG E Y_Mo_putBack (none, S, M') 2 [(0, .ref a0), (1, .int x1), (2, .int x2)] [] S M 0 0 := by
  unfold F_Mo_putBack_L2 at h
  refine zi_iload_n 2 d_Mo_putBack_2 rfl ?_
  refine zi_bipush 50 d_Mo_putBack_3 rfl ?_
  refine zi_icmp_ge (tgt := 33) d_Mo_putBack_5 rfl (fun c_1 => ?_) (fun c_1 => ?_)
  · rw [if_pos c_1] at h
    cases h
    exact zo_ret d_Mo_putBack_33 (Nat.le_of_ble_eq_true rfl) (Nat.le_of_ble_eq_true rfl) rfl
  · rw [if_neg c_1] at h
    refine zi_aload_n 0 d_Mo_putBack_8 rfl ?_
    obtain ⟨b_2, eb_2, h⟩ := zbind h
    refine zo_getR 12 zkd_11 3 d_Mo_putBack_9 eb_2 rfl tw_1232 rfl ?_
    refine zi_iconst 4 d_Mo_putBack_12 rfl ?_
    refine zi_iload_n 2 d_Mo_putBack_13 rfl ?_
    refine zi_iadd d_Mo_putBack_14 ?_
    refine zi_aload_n 0 d_Mo_putBack_15 rfl ?_
    obtain ⟨b_3, eb_3, h⟩ := zbind h
    refine zo_getR 19 zkd_11 6 d_Mo_putBack_16 eb_3 rfl tw_1235 rfl ?_
    refine zi_bipush 50 d_Mo_putBack_19 rfl ?_
    refine zi_iload_n 1 d_Mo_putBack_21 rfl ?_
    refine zi_imul d_Mo_putBack_22 ?_
    refine zi_iload_n 2 d_Mo_putBack_23 rfl ?_
    refine zi_iadd d_Mo_putBack_24 ?_
    obtain ⟨v_4, ev_4, h⟩ := zbind h
    refine zo_iald 26 d_Mo_putBack_25 ev_4 rfl ?_
    obtain ⟨m_5, em_5, h⟩ := zbind h
    refine zo_iast 27 d_Mo_putBack_26 em_5 rfl ?_
    refine zi_iinc 2 (x2 + 1) [(2, .int (x2 + 1)), (0, .ref a0), (1, .int x1)] d_Mo_putBack_27 rfl rfl (by decide) rfl ?_
    refine zi_goto (tgt := 2) d_Mo_putBack_30 rfl ?_
    refine zi_lo [(0, .ref a0), (1, .int x1), (2, .int (x2 + 1))] [1, 2, 0] rfl ?_
    exact hr2 a0 x1 (x2 + 1) m_5 h
theorem K_Mo_putBack_b2 (n : Nat) (E : zE) (S : zS) (a0 : Nat) (x1 : Int32) (x2 : Int32) (M : zH) (M' : zH)  (h : F_Mo_putBack_b2 n E S (a0, x1, x2, M) = some M') : zG E Y_Mo_putBack (none, S, M') 2 [(0, .ref a0), (1, .int x1), (2, .int x2)] [] S M 0 0 := by
  have key : ∀ (k : Nat) (a0 : Nat) (x1 : Int32) (x2 : Int32) (M : zH), zfix (fun r2 s => F_Mo_putBack_L2 n E S r2 s.1 s.2.1 s.2.2.1 s.2.2.2) k (a0, x1, x2, M) = some M' → zG E Y_Mo_putBack (none, S, M') 2 [(0, .ref a0), (1, .int x1), (2, .int x2)] [] S M 0 0 := by
    intro k
    induction k with
    | zero => intro a0 x1 x2 M h; cases h
    | succ k ih => intro a0 x1 x2 M h; exact K_Mo_putBack_L2 n E S _ a0 x1 x2 M M'  (fun a0 x1 x2 M h => ih a0 x1 x2 M h) h
  exact key n a0 x1 x2 M h
theorem K_Mo_putBack (n : Nat) (E : zE) (S : zS) (a0 : Nat) (x1 : Int32) (M : zH) (M' : zH)  (h : F_Mo_putBack n E S a0 x1 M = some M') : zG E Y_Mo_putBack (none, S, M') 0 [(0, .ref a0), (1, .int x1)] [] S M 0 0 := by
  unfold F_Mo_putBack at h
  refine zi_iconst 0 d_Mo_putBack_0 rfl ?_
  refine zi_istore_n [(2, .int 0), (0, .ref a0), (1, .int x1)] d_Mo_putBack_1 (by decide) rfl ?_
  refine zi_lo [(0, .ref a0), (1, .int x1), (2, .int 0)] [1, 2, 0] rfl ?_
  exact K_Mo_putBack_b2 n E S a0 x1 0 M M'  h
theorem C_Mo_putBack (n : Nat) (E : zE) (S : zS) (a0 : Nat) (x1 : Int32) (M : zH) (M' : zH) (h : F_Mo_putBack n E S a0 x1 M = some M') : zC E Y_Mo_putBack [.ref a0, .int x1] S M (none, S, M') :=
  zC.of (Or.inl (show plainName "NightColanderModel" = true by decide)) (Nat.le_of_ble_eq_true rfl) (trivial) (K_Mo_putBack n E S a0 x1 M M' h)
theorem d_Mo_tell_0 : decode (yB Y_Mo_tell) 0 = .ok (.aload_n 0, 1) := by decide +kernel
theorem d_Mo_tell_1 : decode (yB Y_Mo_tell) 1 = .ok (.iload_n 1, 1) := by decide +kernel
theorem d_Mo_tell_2 : decode (yB Y_Mo_tell) 2 = .ok (.ifCond .ge 7, 3) := by decide +kernel
theorem d_Mo_tell_5 : decode (yB Y_Mo_tell) 5 = .ok (.iload_n 1, 1) := by decide +kernel
theorem d_Mo_tell_6 : decode (yB Y_Mo_tell) 6 = .ok (.goto 4, 3) := by decide +kernel
theorem d_Mo_tell_9 : decode (yB Y_Mo_tell) 9 = .ok (.iconst 0, 1) := by decide +kernel
theorem d_Mo_tell_10 : decode (yB Y_Mo_tell) 10 = .ok (.putfield 159, 3) := by decide +kernel
theorem d_Mo_tell_13 : decode (yB Y_Mo_tell) 13 = .ok (.iload_n 1, 1) := by decide +kernel
theorem d_Mo_tell_14 : decode (yB Y_Mo_tell) 14 = .ok (.ifCond .ge 14, 3) := by decide +kernel
theorem d_Mo_tell_17 : decode (yB Y_Mo_tell) 17 = .ok (.aload_n 0, 1) := by decide +kernel
theorem d_Mo_tell_18 : decode (yB Y_Mo_tell) 18 = .ok (.getfield 7, 3) := by decide +kernel
theorem d_Mo_tell_21 : decode (yB Y_Mo_tell) 21 = .ok (.iload_n 1, 1) := by decide +kernel
theorem d_Mo_tell_22 : decode (yB Y_Mo_tell) 22 = .ok (.ineg, 1) := by decide +kernel
theorem d_Mo_tell_23 : decode (yB Y_Mo_tell) 23 = .ok (.dup2, 1) := by decide +kernel
theorem d_Mo_tell_24 : decode (yB Y_Mo_tell) 24 = .ok (.iaload, 1) := by decide +kernel
theorem d_Mo_tell_25 : decode (yB Y_Mo_tell) 25 = .ok (.iconst 1, 1) := by decide +kernel
theorem d_Mo_tell_26 : decode (yB Y_Mo_tell) 26 = .ok (.iadd, 1) := by decide +kernel
theorem d_Mo_tell_27 : decode (yB Y_Mo_tell) 27 = .ok (.iastore, 1) := by decide +kernel
theorem d_Mo_tell_28 : decode (yB Y_Mo_tell) 28 = .ok (.iload_n 1, 1) := by decide +kernel
theorem d_Mo_tell_29 : decode (yB Y_Mo_tell) 29 = .ok (.ireturn, 1) := by decide +kernel
def F_Mo_tell_b10 (n : Nat) (E : zE) (S : zS) (a0 : Nat) (x1 : Int32) (s0 : Int32) (u1 : Nat) (M : zH) : Option (Int32 × zH) :=
  (zpI S M u1 11 1 s0).bind fun m_1 =>
  if 0 ≤ x1 then
    some (x1, m_1)
  else
    (zgR S a0 11 2).bind fun b_3 =>
    (zldI S m_1 b_3 (-x1)).bind fun v_4 =>
    (zstI S m_1 b_3 (-x1) (v_4 + 1)).bind fun m_5 =>
    some (x1, m_5)
def F_Mo_tell (n : Nat) (E : zE) (S : zS) (a0 : Nat) (x1 : Int32) (M : zH) : Option (Int32 × zH) :=
  if 0 ≤ x1 then
    F_Mo_tell_b10 n E S a0 x1 0 a0 M
  else
    F_Mo_tell_b10 n E S a0 x1 x1 a0 M
theorem K_Mo_tell_b10 (n : Nat) (E : zE) (S : zS) (a0 : Nat) (x1 : Int32) (s0 : Int32) (u1 : Nat) (M : zH) (r : Int32) (M' : zH)  (h : F_Mo_tell_b10 n E S a0 x1 s0 u1 M = some (r, M')) : zG E Y_Mo_tell (some (.int r), S, M') 10 [(0, .ref a0), (1, .int x1)] [.int s0, .ref u1] S M 0 0 := by
  unfold F_Mo_tell_b10 at h
  obtain ⟨m_1, em_1, h⟩ := zbind h
  refine zo_putI 13 zkd_11 1 d_Mo_tell_10 em_1 rfl rfl rfl tw_1230 rfl ?_
  refine zi_iload_n 1 d_Mo_tell_13 rfl ?_
  refine zi_if_ge (tgt := 28) d_Mo_tell_14 rfl (fun c_2 => ?_) (fun c_2 => ?_)
  · rw [if_pos c_2] at h
    refine zi_iload_n 1 d_Mo_tell_28 rfl ?_
    cases h
    exact zo_ret d_Mo_tell_29 (Nat.le_of_ble_eq_true rfl) (Nat.le_of_ble_eq_true rfl) rfl
  · rw [if_neg c_2] at h
    refine zi_aload_n 0 d_Mo_tell_17 rfl ?_
    obtain ⟨b_3, eb_3, h⟩ := zbind h
    refine zo_getR 21 zkd_11 2 d_Mo_tell_18 eb_3 rfl tw_1231 rfl ?_
    refine zi_iload_n 1 d_Mo_tell_21 rfl ?_
    refine zi_ineg d_Mo_tell_22 ?_
    refine zi_dup2 d_Mo_tell_23 rfl rfl ?_
    obtain ⟨v_4, ev_4, h⟩ := zbind h
    refine zo_iald 25 d_Mo_tell_24 ev_4 rfl ?_
    refine zi_iconst 1 d_Mo_tell_25 rfl ?_
    refine zi_iadd d_Mo_tell_26 ?_
    obtain ⟨m_5, em_5, h⟩ := zbind h
    refine zo_iast 28 d_Mo_tell_27 em_5 rfl ?_
    refine zi_iload_n 1 d_Mo_tell_28 rfl ?_
    cases h
    exact zo_ret d_Mo_tell_29 (Nat.le_of_ble_eq_true rfl) (Nat.le_of_ble_eq_true rfl) rfl
theorem K_Mo_tell (n : Nat) (E : zE) (S : zS) (a0 : Nat) (x1 : Int32) (M : zH) (r : Int32) (M' : zH)  (h : F_Mo_tell n E S a0 x1 M = some (r, M')) : zG E Y_Mo_tell (some (.int r), S, M') 0 [(0, .ref a0), (1, .int x1)] [] S M 0 0 := by
  unfold F_Mo_tell at h
  refine zi_aload_n 0 d_Mo_tell_0 rfl ?_
  refine zi_iload_n 1 d_Mo_tell_1 rfl ?_
  refine zi_if_ge (tgt := 9) d_Mo_tell_2 rfl (fun c_6 => ?_) (fun c_6 => ?_)
  · rw [if_pos c_6] at h
    refine zi_iconst 0 d_Mo_tell_9 rfl ?_
    refine zi_lo [(0, .ref a0), (1, .int x1)] [0, 1] rfl ?_
    exact K_Mo_tell_b10 n E S a0 x1 0 a0 M r M'  h
  · rw [if_neg c_6] at h
    refine zi_iload_n 1 d_Mo_tell_5 rfl ?_
    refine zi_goto (tgt := 10) d_Mo_tell_6 rfl ?_
    refine zi_lo [(0, .ref a0), (1, .int x1)] [0, 1] rfl ?_
    exact K_Mo_tell_b10 n E S a0 x1 x1 a0 M r M'  h
theorem C_Mo_tell (n : Nat) (E : zE) (S : zS) (a0 : Nat) (x1 : Int32) (M : zH) (r : Int32) (M' : zH) (h : F_Mo_tell n E S a0 x1 M = some (r, M')) : zC E Y_Mo_tell [.ref a0, .int x1] S M (some (.int r), S, M') :=
  zC.of (Or.inl (show plainName "NightColanderModel" = true by decide)) (Nat.le_of_ble_eq_true rfl) (trivial) (K_Mo_tell n E S a0 x1 M r M' h)
theorem d_Mo_undo_0 : decode (yB Y_Mo_undo) 0 = .ok (.aload_n 0, 1) := by decide +kernel
theorem d_Mo_undo_1 : decode (yB Y_Mo_undo) 1 = .ok (.iconst 0, 1) := by decide +kernel
theorem d_Mo_undo_2 : decode (yB Y_Mo_undo) 2 = .ok (.putfield 156, 3) := by decide +kernel
theorem d_Mo_undo_5 : decode (yB Y_Mo_undo) 5 = .ok (.aload_n 0, 1) := by decide +kernel
theorem d_Mo_undo_6 : decode (yB Y_Mo_undo) 6 = .ok (.getfield 162, 3) := by decide +kernel
theorem d_Mo_undo_9 : decode (yB Y_Mo_undo) 9 = .ok (.ifCond .ne 10, 3) := by decide +kernel
theorem d_Mo_undo_12 : decode (yB Y_Mo_undo) 12 = .ok (.aload_n 0, 1) := by decide +kernel
theorem d_Mo_undo_13 : decode (yB Y_Mo_undo) 13 = .ok (.bipush (-3), 2) := by decide +kernel
theorem d_Mo_undo_15 : decode (yB Y_Mo_undo) 15 = .ok (.invokevirtual 165, 3) := by decide +kernel
theorem d_Mo_undo_18 : decode (yB Y_Mo_undo) 18 = .ok (.ireturn, 1) := by decide +kernel
theorem d_Mo_undo_19 : decode (yB Y_Mo_undo) 19 = .ok (.aload_n 0, 1) := by decide +kernel
theorem d_Mo_undo_20 : decode (yB Y_Mo_undo) 20 = .ok (.dup, 1) := by decide +kernel
theorem d_Mo_undo_21 : decode (yB Y_Mo_undo) 21 = .ok (.getfield 162, 3) := by decide +kernel
theorem d_Mo_undo_24 : decode (yB Y_Mo_undo) 24 = .ok (.iconst 1, 1) := by decide +kernel
theorem d_Mo_undo_25 : decode (yB Y_Mo_undo) 25 = .ok (.isub, 1) := by decide +kernel
theorem d_Mo_undo_26 : decode (yB Y_Mo_undo) 26 = .ok (.putfield 162, 3) := by decide +kernel
theorem d_Mo_undo_29 : decode (yB Y_Mo_undo) 29 = .ok (.aload_n 0, 1) := by decide +kernel
theorem d_Mo_undo_30 : decode (yB Y_Mo_undo) 30 = .ok (.aload_n 0, 1) := by decide +kernel
theorem d_Mo_undo_31 : decode (yB Y_Mo_undo) 31 = .ok (.getfield 162, 3) := by decide +kernel
theorem d_Mo_undo_34 : decode (yB Y_Mo_undo) 34 = .ok (.invokevirtual 173, 3) := by decide +kernel
theorem d_Mo_undo_37 : decode (yB Y_Mo_undo) 37 = .ok (.aload_n 0, 1) := by decide +kernel
theorem d_Mo_undo_38 : decode (yB Y_Mo_undo) 38 = .ok (.aload_n 0, 1) := by decide +kernel
theorem d_Mo_undo_39 : decode (yB Y_Mo_undo) 39 = .ok (.getfield 26, 3) := by decide +kernel
theorem d_Mo_undo_42 : decode (yB Y_Mo_undo) 42 = .ok (.aload_n 0, 1) := by decide +kernel
theorem d_Mo_undo_43 : decode (yB Y_Mo_undo) 43 = .ok (.getfield 162, 3) := by decide +kernel
theorem d_Mo_undo_46 : decode (yB Y_Mo_undo) 46 = .ok (.iaload, 1) := by decide +kernel
theorem d_Mo_undo_47 : decode (yB Y_Mo_undo) 47 = .ok (.invokevirtual 165, 3) := by decide +kernel
theorem d_Mo_undo_50 : decode (yB Y_Mo_undo) 50 = .ok (.ireturn, 1) := by decide +kernel
def F_Mo_undo (n : Nat) (E : zE) (S : zS) (a0 : Nat) (M : zH) : Option (Int32 × zH) :=
  (zpI S M a0 11 0 0).bind fun m_1 =>
  (zgI S m_1 a0 11 8).bind fun v_2 =>
  if v_2 = 0 then
    (F_Mo_tell n E S a0 (-3) m_1).bind fun q_4 =>
    some (q_4.1, q_4.2)
  else
    (zgI S m_1 a0 11 8).bind fun v_5 =>
    (zpI S m_1 a0 11 8 (v_5 - 1)).bind fun m_6 =>
    (zgI S m_6 a0 11 8).bind fun v_7 =>
    (F_Mo_putBack n E S a0 v_7 m_6).bind fun q_8 =>
    (zgR S a0 11 7).bind fun b_9 =>
    (zgI S q_8 a0 11 8).bind fun v_10 =>
    (zldI S q_8 b_9 v_10).bind fun v_11 =>
    (F_Mo_tell n E S a0 v_11 q_8).bind fun q_12 =>
    some (q_12.1, q_12.2)
theorem K_Mo_undo (n : Nat) (E : zE) (S : zS) (a0 : Nat) (M : zH) (r : Int32) (M' : zH)  (h : F_Mo_undo n E S a0 M = some (r, M')) : zG E Y_Mo_undo (some (.int r), S, M') 0 [(0, .ref a0)] [] S M 0 0 := by
  unfold F_Mo_undo at h
  refine zi_aload_n 0 d_Mo_undo_0 rfl ?_
  refine zi_iconst 0 d_Mo_undo_1 rfl ?_
  obtain ⟨m_1, em_1, h⟩ := zbind h
  refine zo_putI 5 zkd_11 0 d_Mo_undo_2 em_1 rfl rfl rfl tw_1229 rfl ?_
  refine zi_aload_n 0 d_Mo_undo_5 rfl ?_
  obtain ⟨v_2, ev_2, h⟩ := zbind h
  refine zo_getI 9 zkd_11 8 d_Mo_undo_6 ev_2 rfl tw_1237 rfl ?_
  refine zi_if_ne (tgt := 19) d_Mo_undo_9 rfl (fun c_3 => ?_) (fun c_3 => ?_)
  · rw [if_neg c_3] at h
    refine zi_aload_n 0 d_Mo_undo_19 rfl ?_
    refine zi_dup d_Mo_undo_20 rfl ?_
    obtain ⟨v_5, ev_5, h⟩ := zbind h
    refine zo_getI 24 zkd_11 8 d_Mo_undo_21 ev_5 rfl tw_1237 rfl ?_
    refine zi_iconst 1 d_Mo_undo_24 rfl ?_
    refine zi_isub d_Mo_undo_25 ?_
    obtain ⟨m_6, em_6, h⟩ := zbind h
    refine zo_putI 29 zkd_11 8 d_Mo_undo_26 em_6 rfl rfl rfl tw_1237 rfl ?_
    refine zi_aload_n 0 d_Mo_undo_29 rfl ?_
    refine zi_aload_n 0 d_Mo_undo_30 rfl ?_
    obtain ⟨v_7, ev_7, h⟩ := zbind h
    refine zo_getI 34 zkd_11 8 d_Mo_undo_31 ev_7 rfl tw_1237 rfl ?_
    obtain ⟨q_8, eq_8, h⟩ := zbind h
    refine zo_virt (k' := 0) (n' := 0) 37 [.int v_7] [] [] zkd_11 (zgI_s ev_2).1 (C_Mo_putBack n E S a0 v_7 m_6 q_8 eq_8) d_Mo_undo_34 tw_1412 tw_1409 tw_1411 ts_37 tw_13 dd_Mo_putBack ⟨Nat.le_of_ble_eq_true rfl, Nat.le_of_ble_eq_true rfl, Nat.le_of_ble_eq_true rfl, Nat.le_of_ble_eq_true rfl⟩ (Nat.le_of_ble_eq_true rfl) rfl rfl rfl rfl ?_
    refine zi_aload_n 0 d_Mo_undo_37 rfl ?_
    refine zi_aload_n 0 d_Mo_undo_38 rfl ?_
    obtain ⟨b_9, eb_9, h⟩ := zbind h
    refine zo_getR 42 zkd_11 7 d_Mo_undo_39 eb_9 rfl tw_1236 rfl ?_
    refine zi_aload_n 0 d_Mo_undo_42 rfl ?_
    obtain ⟨v_10, ev_10, h⟩ := zbind h
    refine zo_getI 46 zkd_11 8 d_Mo_undo_43 ev_10 rfl tw_1237 rfl ?_
    obtain ⟨v_11, ev_11, h⟩ := zbind h
    refine zo_iald 47 d_Mo_undo_46 ev_11 rfl ?_
    obtain ⟨q_12, eq_12, h⟩ := zbind h
    refine zo_virt (k' := 0) (n' := 0) 50 [.int v_11] [] [.int q_12.1] zkd_11 (zgI_s ev_2).1 (C_Mo_tell n E S a0 v_11 q_8 q_12.1 q_12.2 eq_12) d_Mo_undo_47 tw_1408 tw_1405 tw_1407 ts_36 tw_13 dd_Mo_tell ⟨Nat.le_of_ble_eq_true rfl, Nat.le_of_ble_eq_true rfl, Nat.le_of_ble_eq_true rfl, Nat.le_of_ble_eq_true rfl⟩ (Nat.le_of_ble_eq_true rfl) rfl rfl rfl rfl ?_
    cases h
    exact zo_ret d_Mo_undo_50 (Nat.le_of_ble_eq_true rfl) (Nat.le_of_ble_eq_true rfl) rfl
  · rw [if_pos c_3] at h
    refine zi_aload_n 0 d_Mo_undo_12 rfl ?_
    refine zi_bipush (-3) d_Mo_undo_13 rfl ?_
    obtain ⟨q_4, eq_4, h⟩ := zbind h
    refine zo_virt (k' := 0) (n' := 0) 18 [.int (-3)] [] [.int q_4.1] zkd_11 (zgI_s ev_2).1 (C_Mo_tell n E S a0 (-3) m_1 q_4.1 q_4.2 eq_4) d_Mo_undo_15 tw_1408 tw_1405 tw_1407 ts_36 tw_13 dd_Mo_tell ⟨Nat.le_of_ble_eq_true rfl, Nat.le_of_ble_eq_true rfl, Nat.le_of_ble_eq_true rfl, Nat.le_of_ble_eq_true rfl⟩ (Nat.le_of_ble_eq_true rfl) rfl rfl rfl rfl ?_
    cases h
    exact zo_ret d_Mo_undo_18 (Nat.le_of_ble_eq_true rfl) (Nat.le_of_ble_eq_true rfl) rfl
theorem C_Mo_undo (n : Nat) (E : zE) (S : zS) (a0 : Nat) (M : zH) (r : Int32) (M' : zH) (h : F_Mo_undo n E S a0 M = some (r, M')) : zC E Y_Mo_undo [.ref a0] S M (some (.int r), S, M') :=
  zC.of (Or.inl (show plainName "NightColanderModel" = true by decide)) (Nat.le_of_ble_eq_true rfl) (trivial) (K_Mo_undo n E S a0 M r M' h)
theorem d_Mo_in_0 : decode (yB Y_Mo_in) 0 = .ok (.lload_n 0, 1) := by decide +kernel
theorem d_Mo_in_1 : decode (yB Y_Mo_in) 1 = .ok (.lload_n 2, 1) := by decide +kernel
theorem d_Mo_in_2 : decode (yB Y_Mo_in) 2 = .ok (.lcmp, 1) := by decide +kernel
theorem d_Mo_in_3 : decode (yB Y_Mo_in) 3 = .ok (.ifCond .lt 14, 3) := by decide +kernel
theorem d_Mo_in_6 : decode (yB Y_Mo_in) 6 = .ok (.lload_n 0, 1) := by decide +kernel
theorem d_Mo_in_7 : decode (yB Y_Mo_in) 7 = .ok (.lload 4, 2) := by decide +kernel
theorem d_Mo_in_9 : decode (yB Y_Mo_in) 9 = .ok (.lcmp, 1) := by decide +kernel
theorem d_Mo_in_10 : decode (yB Y_Mo_in) 10 = .ok (.ifCond .gt 7, 3) := by decide +kernel
theorem d_Mo_in_13 : decode (yB Y_Mo_in) 13 = .ok (.iconst 1, 1) := by decide +kernel
theorem d_Mo_in_14 : decode (yB Y_Mo_in) 14 = .ok (.goto 4, 3) := by decide +kernel
theorem d_Mo_in_17 : decode (yB Y_Mo_in) 17 = .ok (.iconst 0, 1) := by decide +kernel
theorem d_Mo_in_18 : decode (yB Y_Mo_in) 18 = .ok (.ireturn, 1) := by decide +kernel
def F_Mo_in (n : Nat) (E : zE) (S : zS) (y0 : Int64) (y2 : Int64) (y4 : Int64) (M : zH) : Option (Bool × zH) :=
  if y0 < y2 then
    some (false, M)
  else
    if y4 < y0 then
      some (false, M)
    else
      some (true, M)
theorem K_Mo_in (n : Nat) (E : zE) (S : zS) (y0 : Int64) (y2 : Int64) (y4 : Int64) (M : zH) (r : Bool) (M' : zH)  (h : F_Mo_in n E S y0 y2 y4 M = some (r, M')) : zG E Y_Mo_in (some (.int (bI r)), S, M') 0 [(0, .long y0), (2, .long y2), (4, .long y4)] [] S M 0 0 := by
  unfold F_Mo_in at h
  refine zi_lload_n 0 d_Mo_in_0 rfl ?_
  refine zi_lload_n 1 d_Mo_in_1 rfl ?_
  refine zo_lc_lt d_Mo_in_2 d_Mo_in_3 rfl 6 rfl (fun c_1 => ?_) (fun c_1 => ?_)
  · rw [if_pos c_1] at h
    refine zi_iconst 0 d_Mo_in_17 rfl ?_
    cases h
    exact zo_retB d_Mo_in_18 (Nat.le_of_ble_eq_true rfl) (Nat.le_of_ble_eq_true rfl) rfl
  · rw [if_neg c_1] at h
    refine zi_lload_n 0 d_Mo_in_6 rfl ?_
    refine zi_lload 2 d_Mo_in_7 rfl ?_
    refine zo_lc_gt d_Mo_in_9 d_Mo_in_10 rfl 13 rfl (fun c_2 => ?_) (fun c_2 => ?_)
    · rw [if_pos c_2] at h
      refine zi_iconst 0 d_Mo_in_17 rfl ?_
      cases h
      exact zo_retB d_Mo_in_18 (Nat.le_of_ble_eq_true rfl) (Nat.le_of_ble_eq_true rfl) rfl
    · rw [if_neg c_2] at h
      refine zi_iconst 1 d_Mo_in_13 rfl ?_
      refine zi_goto (tgt := 18) d_Mo_in_14 rfl ?_
      cases h
      exact zo_retB d_Mo_in_18 (Nat.le_of_ble_eq_true rfl) (Nat.le_of_ble_eq_true rfl) rfl
theorem C_Mo_in (n : Nat) (E : zE) (S : zS) (y0 : Int64) (y2 : Int64) (y4 : Int64) (M : zH) (r : Bool) (M' : zH) (h : F_Mo_in n E S y0 y2 y4 M = some (r, M')) : zC E Y_Mo_in [.long y0, .long y2, .long y4] S M (some (.int (bI r)), S, M') :=
  zC.of (Or.inl (show plainName "NightColanderModel" = true by decide)) (Nat.le_of_ble_eq_true rfl) (bI_nar r) (K_Mo_in n E S y0 y2 y4 M r M' h)
theorem d_Mo_image_0 : decode (yB Y_Mo_image) 0 = .ok (.aload_n 0, 1) := by decide +kernel
theorem d_Mo_image_1 : decode (yB Y_Mo_image) 1 = .ok (.iconst 0, 1) := by decide +kernel
theorem d_Mo_image_2 : decode (yB Y_Mo_image) 2 = .ok (.putfield 156, 3) := by decide +kernel
theorem d_Mo_image_5 : decode (yB Y_Mo_image) 5 = .ok (.iload_n 1, 1) := by decide +kernel
theorem d_Mo_image_6 : decode (yB Y_Mo_image) 6 = .ok (.i2l, 1) := by decide +kernel
theorem d_Mo_image_7 : decode (yB Y_Mo_image) 7 = .ok (.lconst 0, 1) := by decide +kernel
theorem d_Mo_image_8 : decode (yB Y_Mo_image) 8 = .ok (.lconst 1, 1) := by decide +kernel
theorem d_Mo_image_9 : decode (yB Y_Mo_image) 9 = .ok (.invokestatic 176, 3) := by decide +kernel
theorem d_Mo_image_12 : decode (yB Y_Mo_image) 12 = .ok (.ifCond .ne 9, 3) := by decide +kernel
theorem d_Mo_image_15 : decode (yB Y_Mo_image) 15 = .ok (.aload_n 0, 1) := by decide +kernel
theorem d_Mo_image_16 : decode (yB Y_Mo_image) 16 = .ok (.iconst (-1), 1) := by decide +kernel
theorem d_Mo_image_17 : decode (yB Y_Mo_image) 17 = .ok (.invokevirtual 165, 3) := by decide +kernel
theorem d_Mo_image_20 : decode (yB Y_Mo_image) 20 = .ok (.ireturn, 1) := by decide +kernel
theorem d_Mo_image_21 : decode (yB Y_Mo_image) 21 = .ok (.iconst 0, 1) := by decide +kernel
theorem d_Mo_image_22 : decode (yB Y_Mo_image) 22 = .ok (.istore_n 2, 1) := by decide +kernel
theorem d_Mo_image_23 : decode (yB Y_Mo_image) 23 = .ok (.iload_n 2, 1) := by decide +kernel
theorem d_Mo_image_24 : decode (yB Y_Mo_image) 24 = .ok (.sipush 5480, 3) := by decide +kernel
theorem d_Mo_image_27 : decode (yB Y_Mo_image) 27 = .ok (.if_icmp .ge 27, 3) := by decide +kernel
theorem d_Mo_image_30 : decode (yB Y_Mo_image) 30 = .ok (.aload_n 0, 1) := by decide +kernel
theorem d_Mo_image_31 : decode (yB Y_Mo_image) 31 = .ok (.getfield 16, 3) := by decide +kernel
theorem d_Mo_image_34 : decode (yB Y_Mo_image) 34 = .ok (.sipush 5480, 3) := by decide +kernel
theorem d_Mo_image_37 : decode (yB Y_Mo_image) 37 = .ok (.iload_n 1, 1) := by decide +kernel
theorem d_Mo_image_38 : decode (yB Y_Mo_image) 38 = .ok (.imul, 1) := by decide +kernel
theorem d_Mo_image_39 : decode (yB Y_Mo_image) 39 = .ok (.iload_n 2, 1) := by decide +kernel
theorem d_Mo_image_40 : decode (yB Y_Mo_image) 40 = .ok (.iadd, 1) := by decide +kernel
theorem d_Mo_image_41 : decode (yB Y_Mo_image) 41 = .ok (.aload_n 0, 1) := by decide +kernel
theorem d_Mo_image_42 : decode (yB Y_Mo_image) 42 = .ok (.getfield 13, 3) := by decide +kernel
theorem d_Mo_image_45 : decode (yB Y_Mo_image) 45 = .ok (.iload_n 2, 1) := by decide +kernel
theorem d_Mo_image_46 : decode (yB Y_Mo_image) 46 = .ok (.iaload, 1) := by decide +kernel
theorem d_Mo_image_47 : decode (yB Y_Mo_image) 47 = .ok (.iastore, 1) := by decide +kernel
theorem d_Mo_image_48 : decode (yB Y_Mo_image) 48 = .ok (.iinc 2 1, 3) := by decide +kernel
theorem d_Mo_image_51 : decode (yB Y_Mo_image) 51 = .ok (.goto (-28), 3) := by decide +kernel
theorem d_Mo_image_54 : decode (yB Y_Mo_image) 54 = .ok (.aload_n 0, 1) := by decide +kernel
theorem d_Mo_image_55 : decode (yB Y_Mo_image) 55 = .ok (.getfield 19, 3) := by decide +kernel
theorem d_Mo_image_58 : decode (yB Y_Mo_image) 58 = .ok (.iload_n 1, 1) := by decide +kernel
theorem d_Mo_image_59 : decode (yB Y_Mo_image) 59 = .ok (.iconst 1, 1) := by decide +kernel
theorem d_Mo_image_60 : decode (yB Y_Mo_image) 60 = .ok (.bastore, 1) := by decide +kernel
theorem d_Mo_image_61 : decode (yB Y_Mo_image) 61 = .ok (.aload_n 0, 1) := by decide +kernel
theorem d_Mo_image_62 : decode (yB Y_Mo_image) 62 = .ok (.iconst 0, 1) := by decide +kernel
theorem d_Mo_image_63 : decode (yB Y_Mo_image) 63 = .ok (.invokevirtual 165, 3) := by decide +kernel
theorem d_Mo_image_66 : decode (yB Y_Mo_image) 66 = .ok (.ireturn, 1) := by decide +kernel
def F_Mo_image_L23 (n : Nat) (E : zE) (S : zS) (r23 : Nat × Int32 × Int32 × zH → Option (Int32 × zH)) (a0 : Nat) (x1 : Int32) (x2 : Int32) (M : zH) : Option (Int32 × zH) :=
  if 5480 ≤ x2 then
    (zgR S a0 11 5).bind fun b_2 =>
    (zstZ S M b_2 x1 1).bind fun m_3 =>
    (F_Mo_tell n E S a0 0 m_3).bind fun q_4 =>
    some (q_4.1, q_4.2)
  else
    (zgR S a0 11 4).bind fun b_5 =>
    (zgR S a0 11 3).bind fun b_6 =>
    (zldI S M b_6 x2).bind fun v_7 =>
    (zstI S M b_5 ((5480 * x1) + x2) v_7).bind fun m_8 =>
    r23 (a0, x1, x2 + 1, m_8)
def F_Mo_image_b23 (n : Nat) (E : zE) (S : zS) : Nat × Int32 × Int32 × zH → Option (Int32 × zH) := zfix (fun r23 s => F_Mo_image_L23 n E S r23 s.1 s.2.1 s.2.2.1 s.2.2.2) n
def F_Mo_image (n : Nat) (E : zE) (S : zS) (a0 : Nat) (x1 : Int32) (M : zH) : Option (Int32 × zH) :=
  (zpI S M a0 11 0 0).bind fun m_9 =>
  (F_Mo_in n E S x1.toInt64 0 1 m_9).bind fun q_10 =>
  if q_10.1 = true then
    F_Mo_image_b23 n E S (a0, x1, 0, q_10.2)
  else
    (zck S a0 11).bind fun u_12 =>
    (F_Mo_tell n E S a0 (-1) q_10.2).bind fun q_13 =>
    some (q_13.1, q_13.2)
theorem K_Mo_image_L23 (n : Nat) (E : zE) (S : zS) (r23 : Nat × Int32 × Int32 × zH → Option (Int32 × zH)) (a0 : Nat) (x1 : Int32) (x2 : Int32) (M : zH) (r : Int32) (M' : zH) (hr23 : ∀ (a0 : Nat) (x1 : Int32) (x2 : Int32) (M : zH), r23 (a0, x1, x2, M) = some (r, M') → zG E Y_Mo_image (some (.int r), S, M') 23 [(0, .ref a0), (1, .int x1), (2, .int x2)] [] S M 0 0) (h : F_Mo_image_L23 n E S r23 a0 x1 x2 M = some (r, M')) : zG E Y_Mo_image (some (.int r), S, M') 23 [(0, .ref a0), (1, .int x1), (2, .int x2)] [] S M 0 0 := by
  unfold F_Mo_image_L23 at h
  refine zi_iload_n 2 d_Mo_image_23 rfl ?_
  refine zi_sipush 5480 d_Mo_image_24 rfl ?_
  refine zi_icmp_ge (tgt := 54) d_Mo_image_27 rfl (fun c_1 => ?_) (fun c_1 => ?_)
  · rw [if_pos c_1] at h
    refine zi_aload_n 0 d_Mo_image_54 rfl ?_
    obtain ⟨b_2, eb_2, h⟩ := zbind h
    refine zo_getR 58 zkd_11 5 d_Mo_image_55 eb_2 rfl tw_1234 rfl ?_
    refine zi_iload_n 1 d_Mo_image_58 rfl ?_
    refine zi_iconst 1 d_Mo_image_59 rfl ?_
    obtain ⟨m_3, em_3, h⟩ := zbind h
    refine zo_zast 61 d_Mo_image_60 em_3 rfl ?_
    refine zi_aload_n 0 d_Mo_image_61 rfl ?_
    refine zi_iconst 0 d_Mo_image_62 rfl ?_
    obtain ⟨q_4, eq_4, h⟩ := zbind h
    refine zo_virt (k' := 0) (n' := 0) 66 [.int 0] [] [.int q_4.1] zkd_11 (zgR_s eb_2).1 (C_Mo_tell n E S a0 0 m_3 q_4.1 q_4.2 eq_4) d_Mo_image_63 tw_1408 tw_1405 tw_1407 ts_36 tw_13 dd_Mo_tell ⟨Nat.le_of_ble_eq_true rfl, Nat.le_of_ble_eq_true rfl, Nat.le_of_ble_eq_true rfl, Nat.le_of_ble_eq_true rfl⟩ (Nat.le_of_ble_eq_true rfl) rfl rfl rfl rfl ?_
    cases h
    exact zo_ret d_Mo_image_66 (Nat.le_of_ble_eq_true rfl) (Nat.le_of_ble_eq_true rfl) rfl
  · rw [if_neg c_1] at h
    refine zi_aload_n 0 d_Mo_image_30 rfl ?_
    obtain ⟨b_5, eb_5, h⟩ := zbind h
    refine zo_getR 34 zkd_11 4 d_Mo_image_31 eb_5 rfl tw_1233 rfl ?_
    refine zi_sipush 5480 d_Mo_image_34 rfl ?_
    refine zi_iload_n 1 d_Mo_image_37 rfl ?_
    refine zi_imul d_Mo_image_38 ?_
    refine zi_iload_n 2 d_Mo_image_39 rfl ?_
    refine zi_iadd d_Mo_image_40 ?_
    refine zi_aload_n 0 d_Mo_image_41 rfl ?_
    obtain ⟨b_6, eb_6, h⟩ := zbind h
    refine zo_getR 45 zkd_11 3 d_Mo_image_42 eb_6 rfl tw_1232 rfl ?_
    refine zi_iload_n 2 d_Mo_image_45 rfl ?_
    obtain ⟨v_7, ev_7, h⟩ := zbind h
    refine zo_iald 47 d_Mo_image_46 ev_7 rfl ?_
    obtain ⟨m_8, em_8, h⟩ := zbind h
    refine zo_iast 48 d_Mo_image_47 em_8 rfl ?_
    refine zi_iinc 2 (x2 + 1) [(2, .int (x2 + 1)), (0, .ref a0), (1, .int x1)] d_Mo_image_48 rfl rfl (by decide) rfl ?_
    refine zi_goto (tgt := 23) d_Mo_image_51 rfl ?_
    refine zi_lo [(0, .ref a0), (1, .int x1), (2, .int (x2 + 1))] [1, 2, 0] rfl ?_
    exact hr23 a0 x1 (x2 + 1) m_8 h
theorem K_Mo_image_b23 (n : Nat) (E : zE) (S : zS) (a0 : Nat) (x1 : Int32) (x2 : Int32) (M : zH) (r : Int32) (M' : zH)  (h : F_Mo_image_b23 n E S (a0, x1, x2, M) = some (r, M')) : zG E Y_Mo_image (some (.int r), S, M') 23 [(0, .ref a0), (1, .int x1), (2, .int x2)] [] S M 0 0 := by
  have key : ∀ (k : Nat) (a0 : Nat) (x1 : Int32) (x2 : Int32) (M : zH), zfix (fun r23 s => F_Mo_image_L23 n E S r23 s.1 s.2.1 s.2.2.1 s.2.2.2) k (a0, x1, x2, M) = some (r, M') → zG E Y_Mo_image (some (.int r), S, M') 23 [(0, .ref a0), (1, .int x1), (2, .int x2)] [] S M 0 0 := by
    intro k
    induction k with
    | zero => intro a0 x1 x2 M h; cases h
    | succ k ih => intro a0 x1 x2 M h; exact K_Mo_image_L23 n E S _ a0 x1 x2 M r M'  (fun a0 x1 x2 M h => ih a0 x1 x2 M h) h
  exact key n a0 x1 x2 M h
theorem K_Mo_image (n : Nat) (E : zE) (S : zS) (a0 : Nat) (x1 : Int32) (M : zH) (r : Int32) (M' : zH)  (h : F_Mo_image n E S a0 x1 M = some (r, M')) : zG E Y_Mo_image (some (.int r), S, M') 0 [(0, .ref a0), (1, .int x1)] [] S M 0 0 := by
  unfold F_Mo_image at h
  refine zi_aload_n 0 d_Mo_image_0 rfl ?_
  refine zi_iconst 0 d_Mo_image_1 rfl ?_
  obtain ⟨m_9, em_9, h⟩ := zbind h
  refine zo_putI 5 zkd_11 0 d_Mo_image_2 em_9 rfl rfl rfl tw_1229 rfl ?_
  refine zi_iload_n 1 d_Mo_image_5 rfl ?_
  refine zi_i2l d_Mo_image_6 ?_
  refine zi_lconst 0 d_Mo_image_7 rfl ?_
  refine zi_lconst 1 d_Mo_image_8 rfl ?_
  obtain ⟨q_10, eq_10, h⟩ := zbind h
  refine zo_stat (k' := 0) (n' := 0) 12 [.long x1.toInt64, .long 0, .long 1] [] [.int (bI q_10.1)] (C_Mo_in n E S x1.toInt64 0 1 m_9 q_10.1 q_10.2 eq_10) d_Mo_image_9 tw_1419 tw_1417 tw_1418 tw_13 dd_Mo_in ⟨Nat.le_of_ble_eq_true rfl, Nat.le_of_ble_eq_true rfl, Nat.le_of_ble_eq_true rfl, Nat.le_of_ble_eq_true rfl⟩ (Nat.le_of_ble_eq_true rfl) rfl rfl rfl rfl ?_
  refine zo_ifneB d_Mo_image_12 rfl 15 rfl (fun c_11 => ?_) (fun c_11 => ?_)
  · rw [if_pos c_11] at h
    refine zi_iconst 0 d_Mo_image_21 rfl ?_
    refine zi_istore_n [(2, .int 0), (0, .ref a0), (1, .int x1)] d_Mo_image_22 (by decide) rfl ?_
    refine zi_lo [(0, .ref a0), (1, .int x1), (2, .int 0)] [1, 2, 0] rfl ?_
    exact K_Mo_image_b23 n E S a0 x1 0 q_10.2 r M'  h
  · rw [if_neg c_11] at h
    refine zi_aload_n 0 d_Mo_image_15 rfl ?_
    refine zi_iconst (-1) d_Mo_image_16 rfl ?_
    obtain ⟨u_12, eu_12, h⟩ := zbind h
    obtain ⟨q_13, eq_13, h⟩ := zbind h
    refine zo_virt (k' := 0) (n' := 0) 20 [.int (-1)] [] [.int q_13.1] zkd_11 (zck_s eu_12) (C_Mo_tell n E S a0 (-1) q_10.2 q_13.1 q_13.2 eq_13) d_Mo_image_17 tw_1408 tw_1405 tw_1407 ts_36 tw_13 dd_Mo_tell ⟨Nat.le_of_ble_eq_true rfl, Nat.le_of_ble_eq_true rfl, Nat.le_of_ble_eq_true rfl, Nat.le_of_ble_eq_true rfl⟩ (Nat.le_of_ble_eq_true rfl) rfl rfl rfl rfl ?_
    cases h
    exact zo_ret d_Mo_image_20 (Nat.le_of_ble_eq_true rfl) (Nat.le_of_ble_eq_true rfl) rfl
theorem C_Mo_image (n : Nat) (E : zE) (S : zS) (a0 : Nat) (x1 : Int32) (M : zH) (r : Int32) (M' : zH) (h : F_Mo_image n E S a0 x1 M = some (r, M')) : zC E Y_Mo_image [.ref a0, .int x1] S M (some (.int r), S, M') :=
  zC.of (Or.inl (show plainName "NightColanderModel" = true by decide)) (Nat.le_of_ble_eq_true rfl) (trivial) (K_Mo_image n E S a0 x1 M r M' h)
theorem d_Mo_lasting_0 : decode (yB Y_Mo_lasting) 0 = .ok (.aload_n 0, 1) := by decide +kernel
theorem d_Mo_lasting_1 : decode (yB Y_Mo_lasting) 1 = .ok (.iload_n 1, 1) := by decide +kernel
theorem d_Mo_lasting_2 : decode (yB Y_Mo_lasting) 2 = .ok (.ifCond .ge 10, 3) := by decide +kernel
theorem d_Mo_lasting_5 : decode (yB Y_Mo_lasting) 5 = .ok (.aload_n 0, 1) := by decide +kernel
theorem d_Mo_lasting_6 : decode (yB Y_Mo_lasting) 6 = .ok (.getfield 162, 3) := by decide +kernel
theorem d_Mo_lasting_9 : decode (yB Y_Mo_lasting) 9 = .ok (.goto 4, 3) := by decide +kernel
theorem d_Mo_lasting_12 : decode (yB Y_Mo_lasting) 12 = .ok (.iconst 0, 1) := by decide +kernel
theorem d_Mo_lasting_13 : decode (yB Y_Mo_lasting) 13 = .ok (.putfield 162, 3) := by decide +kernel
theorem d_Mo_lasting_16 : decode (yB Y_Mo_lasting) 16 = .ok (.aload_n 0, 1) := by decide +kernel
theorem d_Mo_lasting_17 : decode (yB Y_Mo_lasting) 17 = .ok (.iload_n 1, 1) := by decide +kernel
theorem d_Mo_lasting_18 : decode (yB Y_Mo_lasting) 18 = .ok (.invokevirtual 165, 3) := by decide +kernel
theorem d_Mo_lasting_21 : decode (yB Y_Mo_lasting) 21 = .ok (.ireturn, 1) := by decide +kernel
def F_Mo_lasting_b13 (n : Nat) (E : zE) (S : zS) (a0 : Nat) (x1 : Int32) (s0 : Int32) (u1 : Nat) (M : zH) : Option (Int32 × zH) :=
  (zpI S M u1 11 8 s0).bind fun m_1 =>
  (zck S a0 11).bind fun u_2 =>
  (F_Mo_tell n E S a0 x1 m_1).bind fun q_3 =>
  some (q_3.1, q_3.2)
def F_Mo_lasting (n : Nat) (E : zE) (S : zS) (a0 : Nat) (x1 : Int32) (M : zH) : Option (Int32 × zH) :=
  if 0 ≤ x1 then
    F_Mo_lasting_b13 n E S a0 x1 0 a0 M
  else
    (zgI S M a0 11 8).bind fun v_5 =>
    F_Mo_lasting_b13 n E S a0 x1 v_5 a0 M
theorem K_Mo_lasting_b13 (n : Nat) (E : zE) (S : zS) (a0 : Nat) (x1 : Int32) (s0 : Int32) (u1 : Nat) (M : zH) (r : Int32) (M' : zH)  (h : F_Mo_lasting_b13 n E S a0 x1 s0 u1 M = some (r, M')) : zG E Y_Mo_lasting (some (.int r), S, M') 13 [(0, .ref a0), (1, .int x1)] [.int s0, .ref u1] S M 0 0 := by
  unfold F_Mo_lasting_b13 at h
  obtain ⟨m_1, em_1, h⟩ := zbind h
  refine zo_putI 16 zkd_11 8 d_Mo_lasting_13 em_1 rfl rfl rfl tw_1237 rfl ?_
  refine zi_aload_n 0 d_Mo_lasting_16 rfl ?_
  refine zi_iload_n 1 d_Mo_lasting_17 rfl ?_
  obtain ⟨u_2, eu_2, h⟩ := zbind h
  obtain ⟨q_3, eq_3, h⟩ := zbind h
  refine zo_virt (k' := 0) (n' := 0) 21 [.int x1] [] [.int q_3.1] zkd_11 (zck_s eu_2) (C_Mo_tell n E S a0 x1 m_1 q_3.1 q_3.2 eq_3) d_Mo_lasting_18 tw_1408 tw_1405 tw_1407 ts_36 tw_13 dd_Mo_tell ⟨Nat.le_of_ble_eq_true rfl, Nat.le_of_ble_eq_true rfl, Nat.le_of_ble_eq_true rfl, Nat.le_of_ble_eq_true rfl⟩ (Nat.le_of_ble_eq_true rfl) rfl rfl rfl rfl ?_
  cases h
  exact zo_ret d_Mo_lasting_21 (Nat.le_of_ble_eq_true rfl) (Nat.le_of_ble_eq_true rfl) rfl
theorem K_Mo_lasting (n : Nat) (E : zE) (S : zS) (a0 : Nat) (x1 : Int32) (M : zH) (r : Int32) (M' : zH)  (h : F_Mo_lasting n E S a0 x1 M = some (r, M')) : zG E Y_Mo_lasting (some (.int r), S, M') 0 [(0, .ref a0), (1, .int x1)] [] S M 0 0 := by
  unfold F_Mo_lasting at h
  refine zi_aload_n 0 d_Mo_lasting_0 rfl ?_
  refine zi_iload_n 1 d_Mo_lasting_1 rfl ?_
  refine zi_if_ge (tgt := 12) d_Mo_lasting_2 rfl (fun c_4 => ?_) (fun c_4 => ?_)
  · rw [if_pos c_4] at h
    refine zi_iconst 0 d_Mo_lasting_12 rfl ?_
    refine zi_lo [(0, .ref a0), (1, .int x1)] [0, 1] rfl ?_
    exact K_Mo_lasting_b13 n E S a0 x1 0 a0 M r M'  h
  · rw [if_neg c_4] at h
    refine zi_aload_n 0 d_Mo_lasting_5 rfl ?_
    obtain ⟨v_5, ev_5, h⟩ := zbind h
    refine zo_getI 9 zkd_11 8 d_Mo_lasting_6 ev_5 rfl tw_1237 rfl ?_
    refine zi_goto (tgt := 13) d_Mo_lasting_9 rfl ?_
    refine zi_lo [(0, .ref a0), (1, .int x1)] [0, 1] rfl ?_
    exact K_Mo_lasting_b13 n E S a0 x1 v_5 a0 M r M'  h
theorem C_Mo_lasting (n : Nat) (E : zE) (S : zS) (a0 : Nat) (x1 : Int32) (M : zH) (r : Int32) (M' : zH) (h : F_Mo_lasting n E S a0 x1 M = some (r, M')) : zC E Y_Mo_lasting [.ref a0, .int x1] S M (some (.int r), S, M') :=
  zC.of (Or.inl (show plainName "NightColanderModel" = true by decide)) (Nat.le_of_ble_eq_true rfl) (trivial) (K_Mo_lasting n E S a0 x1 M r M' h)
theorem d_Mo_back_0 : decode (yB Y_Mo_back) 0 = .ok (.aload_n 0, 1) := by decide +kernel
theorem d_Mo_back_1 : decode (yB Y_Mo_back) 1 = .ok (.iconst 0, 1) := by decide +kernel
theorem d_Mo_back_2 : decode (yB Y_Mo_back) 2 = .ok (.putfield 156, 3) := by decide +kernel
theorem d_Mo_back_5 : decode (yB Y_Mo_back) 5 = .ok (.iload_n 1, 1) := by decide +kernel
theorem d_Mo_back_6 : decode (yB Y_Mo_back) 6 = .ok (.i2l, 1) := by decide +kernel
theorem d_Mo_back_7 : decode (yB Y_Mo_back) 7 = .ok (.lconst 0, 1) := by decide +kernel
theorem d_Mo_back_8 : decode (yB Y_Mo_back) 8 = .ok (.lconst 1, 1) := by decide +kernel
theorem d_Mo_back_9 : decode (yB Y_Mo_back) 9 = .ok (.invokestatic 176, 3) := by decide +kernel
theorem d_Mo_back_12 : decode (yB Y_Mo_back) 12 = .ok (.ifCond .ne 9, 3) := by decide +kernel
theorem d_Mo_back_15 : decode (yB Y_Mo_back) 15 = .ok (.aload_n 0, 1) := by decide +kernel
theorem d_Mo_back_16 : decode (yB Y_Mo_back) 16 = .ok (.iconst (-1), 1) := by decide +kernel
theorem d_Mo_back_17 : decode (yB Y_Mo_back) 17 = .ok (.invokevirtual 165, 3) := by decide +kernel
theorem d_Mo_back_20 : decode (yB Y_Mo_back) 20 = .ok (.ireturn, 1) := by decide +kernel
theorem d_Mo_back_21 : decode (yB Y_Mo_back) 21 = .ok (.aload_n 0, 1) := by decide +kernel
theorem d_Mo_back_22 : decode (yB Y_Mo_back) 22 = .ok (.getfield 19, 3) := by decide +kernel
theorem d_Mo_back_25 : decode (yB Y_Mo_back) 25 = .ok (.iload_n 1, 1) := by decide +kernel
theorem d_Mo_back_26 : decode (yB Y_Mo_back) 26 = .ok (.baload, 1) := by decide +kernel
theorem d_Mo_back_27 : decode (yB Y_Mo_back) 27 = .ok (.ifCond .ne 10, 3) := by decide +kernel
theorem d_Mo_back_30 : decode (yB Y_Mo_back) 30 = .ok (.aload_n 0, 1) := by decide +kernel
theorem d_Mo_back_31 : decode (yB Y_Mo_back) 31 = .ok (.bipush (-2), 2) := by decide +kernel
theorem d_Mo_back_33 : decode (yB Y_Mo_back) 33 = .ok (.invokevirtual 165, 3) := by decide +kernel
theorem d_Mo_back_36 : decode (yB Y_Mo_back) 36 = .ok (.ireturn, 1) := by decide +kernel
theorem d_Mo_back_37 : decode (yB Y_Mo_back) 37 = .ok (.iconst 0, 1) := by decide +kernel
theorem d_Mo_back_38 : decode (yB Y_Mo_back) 38 = .ok (.istore_n 2, 1) := by decide +kernel
theorem d_Mo_back_39 : decode (yB Y_Mo_back) 39 = .ok (.iload_n 2, 1) := by decide +kernel
theorem d_Mo_back_40 : decode (yB Y_Mo_back) 40 = .ok (.sipush 5480, 3) := by decide +kernel
theorem d_Mo_back_43 : decode (yB Y_Mo_back) 43 = .ok (.if_icmp .ge 27, 3) := by decide +kernel
theorem d_Mo_back_46 : decode (yB Y_Mo_back) 46 = .ok (.aload_n 0, 1) := by decide +kernel
theorem d_Mo_back_47 : decode (yB Y_Mo_back) 47 = .ok (.getfield 13, 3) := by decide +kernel
theorem d_Mo_back_50 : decode (yB Y_Mo_back) 50 = .ok (.iload_n 2, 1) := by decide +kernel
theorem d_Mo_back_51 : decode (yB Y_Mo_back) 51 = .ok (.aload_n 0, 1) := by decide +kernel
theorem d_Mo_back_52 : decode (yB Y_Mo_back) 52 = .ok (.getfield 16, 3) := by decide +kernel
theorem d_Mo_back_55 : decode (yB Y_Mo_back) 55 = .ok (.sipush 5480, 3) := by decide +kernel
theorem d_Mo_back_58 : decode (yB Y_Mo_back) 58 = .ok (.iload_n 1, 1) := by decide +kernel
theorem d_Mo_back_59 : decode (yB Y_Mo_back) 59 = .ok (.imul, 1) := by decide +kernel
theorem d_Mo_back_60 : decode (yB Y_Mo_back) 60 = .ok (.iload_n 2, 1) := by decide +kernel
theorem d_Mo_back_61 : decode (yB Y_Mo_back) 61 = .ok (.iadd, 1) := by decide +kernel
theorem d_Mo_back_62 : decode (yB Y_Mo_back) 62 = .ok (.iaload, 1) := by decide +kernel
theorem d_Mo_back_63 : decode (yB Y_Mo_back) 63 = .ok (.iastore, 1) := by decide +kernel
theorem d_Mo_back_64 : decode (yB Y_Mo_back) 64 = .ok (.iinc 2 1, 3) := by decide +kernel
theorem d_Mo_back_67 : decode (yB Y_Mo_back) 67 = .ok (.goto (-28), 3) := by decide +kernel
theorem d_Mo_back_70 : decode (yB Y_Mo_back) 70 = .ok (.aload_n 0, 1) := by decide +kernel
theorem d_Mo_back_71 : decode (yB Y_Mo_back) 71 = .ok (.iconst 0, 1) := by decide +kernel
theorem d_Mo_back_72 : decode (yB Y_Mo_back) 72 = .ok (.invokevirtual 180, 3) := by decide +kernel
theorem d_Mo_back_75 : decode (yB Y_Mo_back) 75 = .ok (.ireturn, 1) := by decide +kernel
def F_Mo_back_L39 (n : Nat) (E : zE) (S : zS) (r39 : Nat × Int32 × Int32 × zH → Option (Int32 × zH)) (a0 : Nat) (x1 : Int32) (x2 : Int32) (M : zH) : Option (Int32 × zH) :=
  if 5480 ≤ x2 then
    (zck S a0 11).bind fun u_2 =>
    (F_Mo_lasting n E S a0 0 M).bind fun q_3 =>
    some (q_3.1, q_3.2)
  else
    (zgR S a0 11 3).bind fun b_4 =>
    (zgR S a0 11 4).bind fun b_5 =>
    (zldI S M b_5 ((5480 * x1) + x2)).bind fun v_6 =>
    (zstI S M b_4 x2 v_6).bind fun m_7 =>
    r39 (a0, x1, x2 + 1, m_7)
def F_Mo_back_b39 (n : Nat) (E : zE) (S : zS) : Nat × Int32 × Int32 × zH → Option (Int32 × zH) := zfix (fun r39 s => F_Mo_back_L39 n E S r39 s.1 s.2.1 s.2.2.1 s.2.2.2) n
def F_Mo_back (n : Nat) (E : zE) (S : zS) (a0 : Nat) (x1 : Int32) (M : zH) : Option (Int32 × zH) :=
  (zpI S M a0 11 0 0).bind fun m_8 =>
  (F_Mo_in n E S x1.toInt64 0 1 m_8).bind fun q_9 =>
  if q_9.1 = true then
    (zgR S a0 11 5).bind fun b_11 =>
    (zldZ S q_9.2 b_11 x1).bind fun v_12 =>
    if v_12 = 0 then
      (F_Mo_tell n E S a0 (-2) q_9.2).bind fun q_14 =>
      some (q_14.1, q_14.2)
    else
      F_Mo_back_b39 n E S (a0, x1, 0, q_9.2)
  else
    (zck S a0 11).bind fun u_15 =>
    (F_Mo_tell n E S a0 (-1) q_9.2).bind fun q_16 =>
    some (q_16.1, q_16.2)
theorem K_Mo_back_L39 (n : Nat) (E : zE) (S : zS) (r39 : Nat × Int32 × Int32 × zH → Option (Int32 × zH)) (a0 : Nat) (x1 : Int32) (x2 : Int32) (M : zH) (r : Int32) (M' : zH) (hr39 : ∀ (a0 : Nat) (x1 : Int32) (x2 : Int32) (M : zH), r39 (a0, x1, x2, M) = some (r, M') → zG E Y_Mo_back (some (.int r), S, M') 39 [(0, .ref a0), (1, .int x1), (2, .int x2)] [] S M 0 0) (h : F_Mo_back_L39 n E S r39 a0 x1 x2 M = some (r, M')) : zG E Y_Mo_back (some (.int r), S, M') 39 [(0, .ref a0), (1, .int x1), (2, .int x2)] [] S M 0 0 := by
  unfold F_Mo_back_L39 at h
  refine zi_iload_n 2 d_Mo_back_39 rfl ?_
  refine zi_sipush 5480 d_Mo_back_40 rfl ?_
  refine zi_icmp_ge (tgt := 70) d_Mo_back_43 rfl (fun c_1 => ?_) (fun c_1 => ?_)
  · rw [if_pos c_1] at h
    refine zi_aload_n 0 d_Mo_back_70 rfl ?_
    refine zi_iconst 0 d_Mo_back_71 rfl ?_
    obtain ⟨u_2, eu_2, h⟩ := zbind h
    obtain ⟨q_3, eq_3, h⟩ := zbind h
    refine zo_virt (k' := 0) (n' := 0) 75 [.int 0] [] [.int q_3.1] zkd_11 (zck_s eu_2) (C_Mo_lasting n E S a0 0 M q_3.1 q_3.2 eq_3) d_Mo_back_72 tw_1427 tw_1424 tw_1426 ts_38 tw_13 dd_Mo_lasting ⟨Nat.le_of_ble_eq_true rfl, Nat.le_of_ble_eq_true rfl, Nat.le_of_ble_eq_true rfl, Nat.le_of_ble_eq_true rfl⟩ (Nat.le_of_ble_eq_true rfl) rfl rfl rfl rfl ?_
    cases h
    exact zo_ret d_Mo_back_75 (Nat.le_of_ble_eq_true rfl) (Nat.le_of_ble_eq_true rfl) rfl
  · rw [if_neg c_1] at h
    refine zi_aload_n 0 d_Mo_back_46 rfl ?_
    obtain ⟨b_4, eb_4, h⟩ := zbind h
    refine zo_getR 50 zkd_11 3 d_Mo_back_47 eb_4 rfl tw_1232 rfl ?_
    refine zi_iload_n 2 d_Mo_back_50 rfl ?_
    refine zi_aload_n 0 d_Mo_back_51 rfl ?_
    obtain ⟨b_5, eb_5, h⟩ := zbind h
    refine zo_getR 55 zkd_11 4 d_Mo_back_52 eb_5 rfl tw_1233 rfl ?_
    refine zi_sipush 5480 d_Mo_back_55 rfl ?_
    refine zi_iload_n 1 d_Mo_back_58 rfl ?_
    refine zi_imul d_Mo_back_59 ?_
    refine zi_iload_n 2 d_Mo_back_60 rfl ?_
    refine zi_iadd d_Mo_back_61 ?_
    obtain ⟨v_6, ev_6, h⟩ := zbind h
    refine zo_iald 63 d_Mo_back_62 ev_6 rfl ?_
    obtain ⟨m_7, em_7, h⟩ := zbind h
    refine zo_iast 64 d_Mo_back_63 em_7 rfl ?_
    refine zi_iinc 2 (x2 + 1) [(2, .int (x2 + 1)), (0, .ref a0), (1, .int x1)] d_Mo_back_64 rfl rfl (by decide) rfl ?_
    refine zi_goto (tgt := 39) d_Mo_back_67 rfl ?_
    refine zi_lo [(0, .ref a0), (1, .int x1), (2, .int (x2 + 1))] [1, 2, 0] rfl ?_
    exact hr39 a0 x1 (x2 + 1) m_7 h
theorem K_Mo_back_b39 (n : Nat) (E : zE) (S : zS) (a0 : Nat) (x1 : Int32) (x2 : Int32) (M : zH) (r : Int32) (M' : zH)  (h : F_Mo_back_b39 n E S (a0, x1, x2, M) = some (r, M')) : zG E Y_Mo_back (some (.int r), S, M') 39 [(0, .ref a0), (1, .int x1), (2, .int x2)] [] S M 0 0 := by
  have key : ∀ (k : Nat) (a0 : Nat) (x1 : Int32) (x2 : Int32) (M : zH), zfix (fun r39 s => F_Mo_back_L39 n E S r39 s.1 s.2.1 s.2.2.1 s.2.2.2) k (a0, x1, x2, M) = some (r, M') → zG E Y_Mo_back (some (.int r), S, M') 39 [(0, .ref a0), (1, .int x1), (2, .int x2)] [] S M 0 0 := by
    intro k
    induction k with
    | zero => intro a0 x1 x2 M h; cases h
    | succ k ih => intro a0 x1 x2 M h; exact K_Mo_back_L39 n E S _ a0 x1 x2 M r M'  (fun a0 x1 x2 M h => ih a0 x1 x2 M h) h
  exact key n a0 x1 x2 M h
theorem K_Mo_back (n : Nat) (E : zE) (S : zS) (a0 : Nat) (x1 : Int32) (M : zH) (r : Int32) (M' : zH)  (h : F_Mo_back n E S a0 x1 M = some (r, M')) : zG E Y_Mo_back (some (.int r), S, M') 0 [(0, .ref a0), (1, .int x1)] [] S M 0 0 := by
  unfold F_Mo_back at h
  refine zi_aload_n 0 d_Mo_back_0 rfl ?_
  refine zi_iconst 0 d_Mo_back_1 rfl ?_
  obtain ⟨m_8, em_8, h⟩ := zbind h
  refine zo_putI 5 zkd_11 0 d_Mo_back_2 em_8 rfl rfl rfl tw_1229 rfl ?_
  refine zi_iload_n 1 d_Mo_back_5 rfl ?_
  refine zi_i2l d_Mo_back_6 ?_
  refine zi_lconst 0 d_Mo_back_7 rfl ?_
  refine zi_lconst 1 d_Mo_back_8 rfl ?_
  obtain ⟨q_9, eq_9, h⟩ := zbind h
  refine zo_stat (k' := 0) (n' := 0) 12 [.long x1.toInt64, .long 0, .long 1] [] [.int (bI q_9.1)] (C_Mo_in n E S x1.toInt64 0 1 m_8 q_9.1 q_9.2 eq_9) d_Mo_back_9 tw_1419 tw_1417 tw_1418 tw_13 dd_Mo_in ⟨Nat.le_of_ble_eq_true rfl, Nat.le_of_ble_eq_true rfl, Nat.le_of_ble_eq_true rfl, Nat.le_of_ble_eq_true rfl⟩ (Nat.le_of_ble_eq_true rfl) rfl rfl rfl rfl ?_
  refine zo_ifneB d_Mo_back_12 rfl 15 rfl (fun c_10 => ?_) (fun c_10 => ?_)
  · rw [if_pos c_10] at h
    refine zi_aload_n 0 d_Mo_back_21 rfl ?_
    obtain ⟨b_11, eb_11, h⟩ := zbind h
    refine zo_getR 25 zkd_11 5 d_Mo_back_22 eb_11 rfl tw_1234 rfl ?_
    refine zi_iload_n 1 d_Mo_back_25 rfl ?_
    obtain ⟨v_12, ev_12, h⟩ := zbind h
    refine zo_zald 27 d_Mo_back_26 ev_12 rfl ?_
    refine zi_if_ne (tgt := 37) d_Mo_back_27 rfl (fun c_13 => ?_) (fun c_13 => ?_)
    · rw [if_neg c_13] at h
      refine zi_iconst 0 d_Mo_back_37 rfl ?_
      refine zi_istore_n [(2, .int 0), (0, .ref a0), (1, .int x1)] d_Mo_back_38 (by decide) rfl ?_
      refine zi_lo [(0, .ref a0), (1, .int x1), (2, .int 0)] [1, 2, 0] rfl ?_
      exact K_Mo_back_b39 n E S a0 x1 0 q_9.2 r M'  h
    · rw [if_pos c_13] at h
      refine zi_aload_n 0 d_Mo_back_30 rfl ?_
      refine zi_bipush (-2) d_Mo_back_31 rfl ?_
      obtain ⟨q_14, eq_14, h⟩ := zbind h
      refine zo_virt (k' := 0) (n' := 0) 36 [.int (-2)] [] [.int q_14.1] zkd_11 (zgR_s eb_11).1 (C_Mo_tell n E S a0 (-2) q_9.2 q_14.1 q_14.2 eq_14) d_Mo_back_33 tw_1408 tw_1405 tw_1407 ts_36 tw_13 dd_Mo_tell ⟨Nat.le_of_ble_eq_true rfl, Nat.le_of_ble_eq_true rfl, Nat.le_of_ble_eq_true rfl, Nat.le_of_ble_eq_true rfl⟩ (Nat.le_of_ble_eq_true rfl) rfl rfl rfl rfl ?_
      cases h
      exact zo_ret d_Mo_back_36 (Nat.le_of_ble_eq_true rfl) (Nat.le_of_ble_eq_true rfl) rfl
  · rw [if_neg c_10] at h
    refine zi_aload_n 0 d_Mo_back_15 rfl ?_
    refine zi_iconst (-1) d_Mo_back_16 rfl ?_
    obtain ⟨u_15, eu_15, h⟩ := zbind h
    obtain ⟨q_16, eq_16, h⟩ := zbind h
    refine zo_virt (k' := 0) (n' := 0) 20 [.int (-1)] [] [.int q_16.1] zkd_11 (zck_s eu_15) (C_Mo_tell n E S a0 (-1) q_9.2 q_16.1 q_16.2 eq_16) d_Mo_back_17 tw_1408 tw_1405 tw_1407 ts_36 tw_13 dd_Mo_tell ⟨Nat.le_of_ble_eq_true rfl, Nat.le_of_ble_eq_true rfl, Nat.le_of_ble_eq_true rfl, Nat.le_of_ble_eq_true rfl⟩ (Nat.le_of_ble_eq_true rfl) rfl rfl rfl rfl ?_
    cases h
    exact zo_ret d_Mo_back_20 (Nat.le_of_ble_eq_true rfl) (Nat.le_of_ble_eq_true rfl) rfl
theorem C_Mo_back (n : Nat) (E : zE) (S : zS) (a0 : Nat) (x1 : Int32) (M : zH) (r : Int32) (M' : zH) (h : F_Mo_back n E S a0 x1 M = some (r, M')) : zC E Y_Mo_back [.ref a0, .int x1] S M (some (.int r), S, M') :=
  zC.of (Or.inl (show plainName "NightColanderModel" = true by decide)) (Nat.le_of_ble_eq_true rfl) (trivial) (K_Mo_back n E S a0 x1 M r M' h)
theorem d_Mo_is_0 : decode (yB Y_Mo_is) 0 = .ok (.iload_n 0, 1) := by decide +kernel
theorem d_Mo_is_1 : decode (yB Y_Mo_is) 1 = .ok (.iload_n 1, 1) := by decide +kernel
theorem d_Mo_is_2 : decode (yB Y_Mo_is) 2 = .ok (.ishr, 1) := by decide +kernel
theorem d_Mo_is_3 : decode (yB Y_Mo_is) 3 = .ok (.iconst 1, 1) := by decide +kernel
theorem d_Mo_is_4 : decode (yB Y_Mo_is) 4 = .ok (.iand, 1) := by decide +kernel
theorem d_Mo_is_5 : decode (yB Y_Mo_is) 5 = .ok (.iconst 1, 1) := by decide +kernel
theorem d_Mo_is_6 : decode (yB Y_Mo_is) 6 = .ok (.if_icmp .ne 7, 3) := by decide +kernel
theorem d_Mo_is_9 : decode (yB Y_Mo_is) 9 = .ok (.iconst 1, 1) := by decide +kernel
theorem d_Mo_is_10 : decode (yB Y_Mo_is) 10 = .ok (.goto 4, 3) := by decide +kernel
theorem d_Mo_is_13 : decode (yB Y_Mo_is) 13 = .ok (.iconst 0, 1) := by decide +kernel
theorem d_Mo_is_14 : decode (yB Y_Mo_is) 14 = .ok (.ireturn, 1) := by decide +kernel
def F_Mo_is (n : Nat) (E : zE) (S : zS) (x0 : Int32) (x1 : Int32) (M : zH) : Option (Bool × zH) :=
  if ((x0 >>> (x1 &&& (31 : Int32))) &&& (1 : Int32)) = 1 then
    some (true, M)
  else
    some (false, M)
theorem K_Mo_is (n : Nat) (E : zE) (S : zS) (x0 : Int32) (x1 : Int32) (M : zH) (r : Bool) (M' : zH)  (h : F_Mo_is n E S x0 x1 M = some (r, M')) : zG E Y_Mo_is (some (.int (bI r)), S, M') 0 [(0, .int x0), (1, .int x1)] [] S M 0 0 := by
  unfold F_Mo_is at h
  refine zi_iload_n 0 d_Mo_is_0 rfl ?_
  refine zi_iload_n 1 d_Mo_is_1 rfl ?_
  refine zi_ishr d_Mo_is_2 ?_
  refine zi_iconst 1 d_Mo_is_3 rfl ?_
  refine zi_iand d_Mo_is_4 ?_
  refine zi_iconst 1 d_Mo_is_5 rfl ?_
  refine zi_icmp_ne (tgt := 13) d_Mo_is_6 rfl (fun c_1 => ?_) (fun c_1 => ?_)
  · rw [if_neg c_1] at h
    refine zi_iconst 0 d_Mo_is_13 rfl ?_
    cases h
    exact zo_retB d_Mo_is_14 (Nat.le_of_ble_eq_true rfl) (Nat.le_of_ble_eq_true rfl) rfl
  · rw [if_pos c_1] at h
    refine zi_iconst 1 d_Mo_is_9 rfl ?_
    refine zi_goto (tgt := 14) d_Mo_is_10 rfl ?_
    cases h
    exact zo_retB d_Mo_is_14 (Nat.le_of_ble_eq_true rfl) (Nat.le_of_ble_eq_true rfl) rfl
theorem C_Mo_is (n : Nat) (E : zE) (S : zS) (x0 : Int32) (x1 : Int32) (M : zH) (r : Bool) (M' : zH) (h : F_Mo_is n E S x0 x1 M = some (r, M')) : zC E Y_Mo_is [.int x0, .int x1] S M (some (.int (bI r)), S, M') :=
  zC.of (Or.inl (show plainName "NightColanderModel" = true by decide)) (Nat.le_of_ble_eq_true rfl) (bI_nar r) (K_Mo_is n E S x0 x1 M r M' h)
theorem d_Mo_isField_0 : decode (yB Y_Mo_isField) 0 = .ok (.iload_n 0, 1) := by decide +kernel
theorem d_Mo_isField_1 : decode (yB Y_Mo_isField) 1 = .ok (.i2l, 1) := by decide +kernel
theorem d_Mo_isField_2 : decode (yB Y_Mo_isField) 2 = .ok (.lconst 0, 1) := by decide +kernel
theorem d_Mo_isField_3 : decode (yB Y_Mo_isField) 3 = .ok (.ldc2_w 185, 3) := by decide +kernel
theorem d_Mo_isField_6 : decode (yB Y_Mo_isField) 6 = .ok (.invokestatic 176, 3) := by decide +kernel
theorem d_Mo_isField_9 : decode (yB Y_Mo_isField) 9 = .ok (.ireturn, 1) := by decide +kernel
def F_Mo_isField (n : Nat) (E : zE) (S : zS) (x0 : Int32) (M : zH) : Option (Bool × zH) :=
  (F_Mo_in n E S x0.toInt64 0 7 M).bind fun q_1 =>
  some (q_1.1, q_1.2)
theorem K_Mo_isField (n : Nat) (E : zE) (S : zS) (x0 : Int32) (M : zH) (r : Bool) (M' : zH)  (h : F_Mo_isField n E S x0 M = some (r, M')) : zG E Y_Mo_isField (some (.int (bI r)), S, M') 0 [(0, .int x0)] [] S M 0 0 := by
  unfold F_Mo_isField at h
  refine zi_iload_n 0 d_Mo_isField_0 rfl ?_
  refine zi_i2l d_Mo_isField_1 ?_
  refine zi_lconst 0 d_Mo_isField_2 rfl ?_
  refine zi_ldc2 d_Mo_isField_3 tw_1439 ?_
  obtain ⟨q_1, eq_1, h⟩ := zbind h
  refine zo_stat (k' := 0) (n' := 0) 9 [.long x0.toInt64, .long 0, .long 7] [] [.int (bI q_1.1)] (C_Mo_in n E S x0.toInt64 0 7 M q_1.1 q_1.2 eq_1) d_Mo_isField_6 tw_1419 tw_1417 tw_1418 tw_13 dd_Mo_in ⟨Nat.le_of_ble_eq_true rfl, Nat.le_of_ble_eq_true rfl, Nat.le_of_ble_eq_true rfl, Nat.le_of_ble_eq_true rfl⟩ (Nat.le_of_ble_eq_true rfl) rfl rfl rfl rfl ?_
  cases h
  exact zo_retB d_Mo_isField_9 (Nat.le_of_ble_eq_true rfl) (Nat.le_of_ble_eq_true rfl) rfl
theorem C_Mo_isField (n : Nat) (E : zE) (S : zS) (x0 : Int32) (M : zH) (r : Bool) (M' : zH) (h : F_Mo_isField n E S x0 M = some (r, M')) : zC E Y_Mo_isField [.int x0] S M (some (.int (bI r)), S, M') :=
  zC.of (Or.inl (show plainName "NightColanderModel" = true by decide)) (Nat.le_of_ble_eq_true rfl) (bI_nar r) (K_Mo_isField n E S x0 M r M' h)
theorem d_Mo_isRing_0 : decode (yB Y_Mo_isRing) 0 = .ok (.iload_n 0, 1) := by decide +kernel
theorem d_Mo_isRing_1 : decode (yB Y_Mo_isRing) 1 = .ok (.i2l, 1) := by decide +kernel
theorem d_Mo_isRing_2 : decode (yB Y_Mo_isRing) 2 = .ok (.lconst 0, 1) := by decide +kernel
theorem d_Mo_isRing_3 : decode (yB Y_Mo_isRing) 3 = .ok (.ldc2_w 183, 3) := by decide +kernel
theorem d_Mo_isRing_6 : decode (yB Y_Mo_isRing) 6 = .ok (.invokestatic 176, 3) := by decide +kernel
theorem d_Mo_isRing_9 : decode (yB Y_Mo_isRing) 9 = .ok (.ireturn, 1) := by decide +kernel
def F_Mo_isRing (n : Nat) (E : zE) (S : zS) (x0 : Int32) (M : zH) : Option (Bool × zH) :=
  (F_Mo_in n E S x0.toInt64 0 3 M).bind fun q_1 =>
  some (q_1.1, q_1.2)
theorem K_Mo_isRing (n : Nat) (E : zE) (S : zS) (x0 : Int32) (M : zH) (r : Bool) (M' : zH)  (h : F_Mo_isRing n E S x0 M = some (r, M')) : zG E Y_Mo_isRing (some (.int (bI r)), S, M') 0 [(0, .int x0)] [] S M 0 0 := by
  unfold F_Mo_isRing at h
  refine zi_iload_n 0 d_Mo_isRing_0 rfl ?_
  refine zi_i2l d_Mo_isRing_1 ?_
  refine zi_lconst 0 d_Mo_isRing_2 rfl ?_
  refine zi_ldc2 d_Mo_isRing_3 tw_1435 ?_
  obtain ⟨q_1, eq_1, h⟩ := zbind h
  refine zo_stat (k' := 0) (n' := 0) 9 [.long x0.toInt64, .long 0, .long 3] [] [.int (bI q_1.1)] (C_Mo_in n E S x0.toInt64 0 3 M q_1.1 q_1.2 eq_1) d_Mo_isRing_6 tw_1419 tw_1417 tw_1418 tw_13 dd_Mo_in ⟨Nat.le_of_ble_eq_true rfl, Nat.le_of_ble_eq_true rfl, Nat.le_of_ble_eq_true rfl, Nat.le_of_ble_eq_true rfl⟩ (Nat.le_of_ble_eq_true rfl) rfl rfl rfl rfl ?_
  cases h
  exact zo_retB d_Mo_isRing_9 (Nat.le_of_ble_eq_true rfl) (Nat.le_of_ble_eq_true rfl) rfl
theorem C_Mo_isRing (n : Nat) (E : zE) (S : zS) (x0 : Int32) (M : zH) (r : Bool) (M' : zH) (h : F_Mo_isRing n E S x0 M = some (r, M')) : zC E Y_Mo_isRing [.int x0] S M (some (.int (bI r)), S, M') :=
  zC.of (Or.inl (show plainName "NightColanderModel" = true by decide)) (Nat.le_of_ble_eq_true rfl) (bI_nar r) (K_Mo_isRing n E S x0 M r M' h)
theorem d_Mo_isBucket_0 : decode (yB Y_Mo_isBucket) 0 = .ok (.iload_n 1, 1) := by decide +kernel
theorem d_Mo_isBucket_1 : decode (yB Y_Mo_isBucket) 1 = .ok (.i2l, 1) := by decide +kernel
theorem d_Mo_isBucket_2 : decode (yB Y_Mo_isBucket) 2 = .ok (.lconst 0, 1) := by decide +kernel
theorem d_Mo_isBucket_3 : decode (yB Y_Mo_isBucket) 3 = .ok (.aload_n 0, 1) := by decide +kernel
theorem d_Mo_isBucket_4 : decode (yB Y_Mo_isBucket) 4 = .ok (.getfield 13, 3) := by decide +kernel
theorem d_Mo_isBucket_7 : decode (yB Y_Mo_isBucket) 7 = .ok (.iconst 0, 1) := by decide +kernel
theorem d_Mo_isBucket_8 : decode (yB Y_Mo_isBucket) 8 = .ok (.iaload, 1) := by decide +kernel
theorem d_Mo_isBucket_9 : decode (yB Y_Mo_isBucket) 9 = .ok (.i2l, 1) := by decide +kernel
theorem d_Mo_isBucket_10 : decode (yB Y_Mo_isBucket) 10 = .ok (.lconst 1, 1) := by decide +kernel
theorem d_Mo_isBucket_11 : decode (yB Y_Mo_isBucket) 11 = .ok (.lsub, 1) := by decide +kernel
theorem d_Mo_isBucket_12 : decode (yB Y_Mo_isBucket) 12 = .ok (.invokestatic 176, 3) := by decide +kernel
theorem d_Mo_isBucket_15 : decode (yB Y_Mo_isBucket) 15 = .ok (.ireturn, 1) := by decide +kernel
def F_Mo_isBucket (n : Nat) (E : zE) (S : zS) (a0 : Nat) (x1 : Int32) (M : zH) : Option (Bool × zH) :=
  (zgR S a0 11 3).bind fun b_1 =>
  (zldI S M b_1 0).bind fun v_2 =>
  (F_Mo_in n E S x1.toInt64 0 (v_2.toInt64 - 1) M).bind fun q_3 =>
  some (q_3.1, q_3.2)
theorem K_Mo_isBucket (n : Nat) (E : zE) (S : zS) (a0 : Nat) (x1 : Int32) (M : zH) (r : Bool) (M' : zH)  (h : F_Mo_isBucket n E S a0 x1 M = some (r, M')) : zG E Y_Mo_isBucket (some (.int (bI r)), S, M') 0 [(0, .ref a0), (1, .int x1)] [] S M 0 0 := by
  unfold F_Mo_isBucket at h
  refine zi_iload_n 1 d_Mo_isBucket_0 rfl ?_
  refine zi_i2l d_Mo_isBucket_1 ?_
  refine zi_lconst 0 d_Mo_isBucket_2 rfl ?_
  refine zi_aload_n 0 d_Mo_isBucket_3 rfl ?_
  obtain ⟨b_1, eb_1, h⟩ := zbind h
  refine zo_getR 7 zkd_11 3 d_Mo_isBucket_4 eb_1 rfl tw_1232 rfl ?_
  refine zi_iconst 0 d_Mo_isBucket_7 rfl ?_
  obtain ⟨v_2, ev_2, h⟩ := zbind h
  refine zo_iald 9 d_Mo_isBucket_8 ev_2 rfl ?_
  refine zi_i2l d_Mo_isBucket_9 ?_
  refine zi_lconst 1 d_Mo_isBucket_10 rfl ?_
  refine zi_lsub d_Mo_isBucket_11 ?_
  obtain ⟨q_3, eq_3, h⟩ := zbind h
  refine zo_stat (k' := 0) (n' := 0) 15 [.long x1.toInt64, .long 0, .long (v_2.toInt64 - 1)] [] [.int (bI q_3.1)] (C_Mo_in n E S x1.toInt64 0 (v_2.toInt64 - 1) M q_3.1 q_3.2 eq_3) d_Mo_isBucket_12 tw_1419 tw_1417 tw_1418 tw_13 dd_Mo_in ⟨Nat.le_of_ble_eq_true rfl, Nat.le_of_ble_eq_true rfl, Nat.le_of_ble_eq_true rfl, Nat.le_of_ble_eq_true rfl⟩ (Nat.le_of_ble_eq_true rfl) rfl rfl rfl rfl ?_
  cases h
  exact zo_retB d_Mo_isBucket_15 (Nat.le_of_ble_eq_true rfl) (Nat.le_of_ble_eq_true rfl) rfl
theorem C_Mo_isBucket (n : Nat) (E : zE) (S : zS) (a0 : Nat) (x1 : Int32) (M : zH) (r : Bool) (M' : zH) (h : F_Mo_isBucket n E S a0 x1 M = some (r, M')) : zC E Y_Mo_isBucket [.ref a0, .int x1] S M (some (.int (bI r)), S, M') :=
  zC.of (Or.inl (show plainName "NightColanderModel" = true by decide)) (Nat.le_of_ble_eq_true rfl) (bI_nar r) (K_Mo_isBucket n E S a0 x1 M r M' h)
theorem d_Mo_reckon_0 : decode (yB Y_Mo_reckon) 0 = .ok (.iload_n 1, 1) := by decide +kernel
theorem d_Mo_reckon_1 : decode (yB Y_Mo_reckon) 1 = .ok (.tableswitch 148 20 26 #[43, 48, 53, 58, 90, 122, 135], 43) := by decide +kernel
theorem d_Mo_reckon_44 : decode (yB Y_Mo_reckon) 44 = .ok (.lload_n 2, 1) := by decide +kernel
theorem d_Mo_reckon_45 : decode (yB Y_Mo_reckon) 45 = .ok (.lload 4, 2) := by decide +kernel
theorem d_Mo_reckon_47 : decode (yB Y_Mo_reckon) 47 = .ok (.ladd, 1) := by decide +kernel
theorem d_Mo_reckon_48 : decode (yB Y_Mo_reckon) 48 = .ok (.lreturn, 1) := by decide +kernel
theorem d_Mo_reckon_49 : decode (yB Y_Mo_reckon) 49 = .ok (.lload_n 2, 1) := by decide +kernel
theorem d_Mo_reckon_50 : decode (yB Y_Mo_reckon) 50 = .ok (.lload 4, 2) := by decide +kernel
theorem d_Mo_reckon_52 : decode (yB Y_Mo_reckon) 52 = .ok (.lsub, 1) := by decide +kernel
theorem d_Mo_reckon_53 : decode (yB Y_Mo_reckon) 53 = .ok (.lreturn, 1) := by decide +kernel
theorem d_Mo_reckon_54 : decode (yB Y_Mo_reckon) 54 = .ok (.lload_n 2, 1) := by decide +kernel
theorem d_Mo_reckon_55 : decode (yB Y_Mo_reckon) 55 = .ok (.lload 4, 2) := by decide +kernel
theorem d_Mo_reckon_57 : decode (yB Y_Mo_reckon) 57 = .ok (.lmul, 1) := by decide +kernel
theorem d_Mo_reckon_58 : decode (yB Y_Mo_reckon) 58 = .ok (.lreturn, 1) := by decide +kernel
theorem d_Mo_reckon_59 : decode (yB Y_Mo_reckon) 59 = .ok (.aload_n 0, 1) := by decide +kernel
theorem d_Mo_reckon_60 : decode (yB Y_Mo_reckon) 60 = .ok (.lload 4, 2) := by decide +kernel
theorem d_Mo_reckon_62 : decode (yB Y_Mo_reckon) 62 = .ok (.lconst 0, 1) := by decide +kernel
theorem d_Mo_reckon_63 : decode (yB Y_Mo_reckon) 63 = .ok (.lcmp, 1) := by decide +kernel
theorem d_Mo_reckon_64 : decode (yB Y_Mo_reckon) 64 = .ok (.ifCond .ne 7, 3) := by decide +kernel
theorem d_Mo_reckon_67 : decode (yB Y_Mo_reckon) 67 = .ok (.iconst 1, 1) := by decide +kernel
theorem d_Mo_reckon_68 : decode (yB Y_Mo_reckon) 68 = .ok (.goto 4, 3) := by decide +kernel
theorem d_Mo_reckon_71 : decode (yB Y_Mo_reckon) 71 = .ok (.iconst 0, 1) := by decide +kernel
theorem d_Mo_reckon_72 : decode (yB Y_Mo_reckon) 72 = .ok (.putfield 405, 3) := by decide +kernel
theorem d_Mo_reckon_75 : decode (yB Y_Mo_reckon) 75 = .ok (.aload_n 0, 1) := by decide +kernel
theorem d_Mo_reckon_76 : decode (yB Y_Mo_reckon) 76 = .ok (.getfield 405, 3) := by decide +kernel
theorem d_Mo_reckon_79 : decode (yB Y_Mo_reckon) 79 = .ok (.ifCond .eq 7, 3) := by decide +kernel
theorem d_Mo_reckon_82 : decode (yB Y_Mo_reckon) 82 = .ok (.lconst 0, 1) := by decide +kernel
theorem d_Mo_reckon_83 : decode (yB Y_Mo_reckon) 83 = .ok (.goto 7, 3) := by decide +kernel
theorem d_Mo_reckon_86 : decode (yB Y_Mo_reckon) 86 = .ok (.lload_n 2, 1) := by decide +kernel
theorem d_Mo_reckon_87 : decode (yB Y_Mo_reckon) 87 = .ok (.lload 4, 2) := by decide +kernel
theorem d_Mo_reckon_89 : decode (yB Y_Mo_reckon) 89 = .ok (.ldiv, 1) := by decide +kernel
theorem d_Mo_reckon_90 : decode (yB Y_Mo_reckon) 90 = .ok (.lreturn, 1) := by decide +kernel
theorem d_Mo_reckon_91 : decode (yB Y_Mo_reckon) 91 = .ok (.aload_n 0, 1) := by decide +kernel
theorem d_Mo_reckon_92 : decode (yB Y_Mo_reckon) 92 = .ok (.lload 4, 2) := by decide +kernel
theorem d_Mo_reckon_94 : decode (yB Y_Mo_reckon) 94 = .ok (.lconst 0, 1) := by decide +kernel
theorem d_Mo_reckon_95 : decode (yB Y_Mo_reckon) 95 = .ok (.lcmp, 1) := by decide +kernel
theorem d_Mo_reckon_96 : decode (yB Y_Mo_reckon) 96 = .ok (.ifCond .ne 7, 3) := by decide +kernel
theorem d_Mo_reckon_99 : decode (yB Y_Mo_reckon) 99 = .ok (.iconst 1, 1) := by decide +kernel
theorem d_Mo_reckon_100 : decode (yB Y_Mo_reckon) 100 = .ok (.goto 4, 3) := by decide +kernel
theorem d_Mo_reckon_103 : decode (yB Y_Mo_reckon) 103 = .ok (.iconst 0, 1) := by decide +kernel
theorem d_Mo_reckon_104 : decode (yB Y_Mo_reckon) 104 = .ok (.putfield 405, 3) := by decide +kernel
theorem d_Mo_reckon_107 : decode (yB Y_Mo_reckon) 107 = .ok (.aload_n 0, 1) := by decide +kernel
theorem d_Mo_reckon_108 : decode (yB Y_Mo_reckon) 108 = .ok (.getfield 405, 3) := by decide +kernel
theorem d_Mo_reckon_111 : decode (yB Y_Mo_reckon) 111 = .ok (.ifCond .eq 7, 3) := by decide +kernel
theorem d_Mo_reckon_114 : decode (yB Y_Mo_reckon) 114 = .ok (.lconst 0, 1) := by decide +kernel
theorem d_Mo_reckon_115 : decode (yB Y_Mo_reckon) 115 = .ok (.goto 7, 3) := by decide +kernel
theorem d_Mo_reckon_118 : decode (yB Y_Mo_reckon) 118 = .ok (.lload_n 2, 1) := by decide +kernel
theorem d_Mo_reckon_119 : decode (yB Y_Mo_reckon) 119 = .ok (.lload 4, 2) := by decide +kernel
theorem d_Mo_reckon_121 : decode (yB Y_Mo_reckon) 121 = .ok (.lrem, 1) := by decide +kernel
theorem d_Mo_reckon_122 : decode (yB Y_Mo_reckon) 122 = .ok (.lreturn, 1) := by decide +kernel
theorem d_Mo_reckon_123 : decode (yB Y_Mo_reckon) 123 = .ok (.lload_n 2, 1) := by decide +kernel
theorem d_Mo_reckon_124 : decode (yB Y_Mo_reckon) 124 = .ok (.lload 4, 2) := by decide +kernel
theorem d_Mo_reckon_126 : decode (yB Y_Mo_reckon) 126 = .ok (.lcmp, 1) := by decide +kernel
theorem d_Mo_reckon_127 : decode (yB Y_Mo_reckon) 127 = .ok (.ifCond .ge 7, 3) := by decide +kernel
theorem d_Mo_reckon_130 : decode (yB Y_Mo_reckon) 130 = .ok (.lconst 1, 1) := by decide +kernel
theorem d_Mo_reckon_131 : decode (yB Y_Mo_reckon) 131 = .ok (.goto 4, 3) := by decide +kernel
theorem d_Mo_reckon_134 : decode (yB Y_Mo_reckon) 134 = .ok (.lconst 0, 1) := by decide +kernel
theorem d_Mo_reckon_135 : decode (yB Y_Mo_reckon) 135 = .ok (.lreturn, 1) := by decide +kernel
theorem d_Mo_reckon_136 : decode (yB Y_Mo_reckon) 136 = .ok (.lload_n 2, 1) := by decide +kernel
theorem d_Mo_reckon_137 : decode (yB Y_Mo_reckon) 137 = .ok (.lload 4, 2) := by decide +kernel
theorem d_Mo_reckon_139 : decode (yB Y_Mo_reckon) 139 = .ok (.lcmp, 1) := by decide +kernel
theorem d_Mo_reckon_140 : decode (yB Y_Mo_reckon) 140 = .ok (.ifCond .le 7, 3) := by decide +kernel
theorem d_Mo_reckon_143 : decode (yB Y_Mo_reckon) 143 = .ok (.lconst 1, 1) := by decide +kernel
theorem d_Mo_reckon_144 : decode (yB Y_Mo_reckon) 144 = .ok (.goto 4, 3) := by decide +kernel
theorem d_Mo_reckon_147 : decode (yB Y_Mo_reckon) 147 = .ok (.lconst 0, 1) := by decide +kernel
theorem d_Mo_reckon_148 : decode (yB Y_Mo_reckon) 148 = .ok (.lreturn, 1) := by decide +kernel
theorem d_Mo_reckon_149 : decode (yB Y_Mo_reckon) 149 = .ok (.lload_n 2, 1) := by decide +kernel
theorem d_Mo_reckon_150 : decode (yB Y_Mo_reckon) 150 = .ok (.lload 4, 2) := by decide +kernel
theorem d_Mo_reckon_152 : decode (yB Y_Mo_reckon) 152 = .ok (.lcmp, 1) := by decide +kernel
theorem d_Mo_reckon_153 : decode (yB Y_Mo_reckon) 153 = .ok (.ifCond .ne 7, 3) := by decide +kernel
theorem d_Mo_reckon_156 : decode (yB Y_Mo_reckon) 156 = .ok (.lconst 1, 1) := by decide +kernel
theorem d_Mo_reckon_157 : decode (yB Y_Mo_reckon) 157 = .ok (.goto 4, 3) := by decide +kernel
theorem d_Mo_reckon_160 : decode (yB Y_Mo_reckon) 160 = .ok (.lconst 0, 1) := by decide +kernel
theorem d_Mo_reckon_161 : decode (yB Y_Mo_reckon) 161 = .ok (.lreturn, 1) := by decide +kernel
def F_Mo_reckon_b72 (n : Nat) (E : zE) (S : zS) (a0 : Nat) (y2 : Int64) (y4 : Int64) (s0 : Int32) (u1 : Nat) (M : zH) : Option (Int64 × zH) :=
  (zpZ S M u1 11 38 s0).bind fun m_1 =>
  (zgI S m_1 a0 11 38).bind fun v_2 =>
  if v_2 = 0 then
    (zdivJ y2 y4).bind fun v_4 =>
    some (v_4, m_1)
  else
    some (0, m_1)
def F_Mo_reckon_b104 (n : Nat) (E : zE) (S : zS) (a0 : Nat) (y2 : Int64) (y4 : Int64) (s0 : Int32) (u1 : Nat) (M : zH) : Option (Int64 × zH) :=
  (zpZ S M u1 11 38 s0).bind fun m_5 =>
  (zgI S m_5 a0 11 38).bind fun v_6 =>
  if v_6 = 0 then
    (zremJ y2 y4).bind fun v_8 =>
    some (v_8, m_5)
  else
    some (0, m_5)
def F_Mo_reckon (n : Nat) (E : zE) (S : zS) (a0 : Nat) (x1 : Int32) (y2 : Int64) (y4 : Int64) (M : zH) : Option (Int64 × zH) :=
  if x1 = 20 then
    some (y2 + y4, M)
  else
  if x1 = 21 then
    some (y2 - y4, M)
  else
  if x1 = 22 then
    some (y2 * y4, M)
  else
  if x1 = 23 then
    if y4 = 0 then
      F_Mo_reckon_b72 n E S a0 y2 y4 1 a0 M
    else
      F_Mo_reckon_b72 n E S a0 y2 y4 0 a0 M
  else
  if x1 = 24 then
    if y4 = 0 then
      F_Mo_reckon_b104 n E S a0 y2 y4 1 a0 M
    else
      F_Mo_reckon_b104 n E S a0 y2 y4 0 a0 M
  else
  if x1 = 25 then
    if y4 ≤ y2 then
      some (0, M)
    else
      some (1, M)
  else
  if x1 = 26 then
    if y2 ≤ y4 then
      some (0, M)
    else
      some (1, M)
  else
    if y2 = y4 then
      some (1, M)
    else
      some (0, M)
theorem K_Mo_reckon_b72 (n : Nat) (E : zE) (S : zS) (a0 : Nat) (y2 : Int64) (y4 : Int64) (s0 : Int32) (u1 : Nat) (M : zH) (r : Int64) (M' : zH)  (h : F_Mo_reckon_b72 n E S a0 y2 y4 s0 u1 M = some (r, M')) : zG E Y_Mo_reckon (some (.long r), S, M') 72 [(0, .ref a0), (2, .long y2), (4, .long y4)] [.int s0, .ref u1] S M 0 0 := by
  unfold F_Mo_reckon_b72 at h
  obtain ⟨m_1, em_1, h⟩ := zbind h
  refine zo_putZ 75 zkd_11 38 d_Mo_reckon_72 em_1 rfl rfl rfl tw_1267 rfl ?_
  refine zi_aload_n 0 d_Mo_reckon_75 rfl ?_
  obtain ⟨v_2, ev_2, h⟩ := zbind h
  refine zo_getI 79 zkd_11 38 d_Mo_reckon_76 ev_2 rfl tw_1267 rfl ?_
  refine zi_if_eq (tgt := 86) d_Mo_reckon_79 rfl (fun c_3 => ?_) (fun c_3 => ?_)
  · rw [if_pos c_3] at h
    refine zi_lload_n 1 d_Mo_reckon_86 rfl ?_
    refine zi_lload 2 d_Mo_reckon_87 rfl ?_
    obtain ⟨v_4, ev_4, h⟩ := zbind h
    refine zo_ldiv 90 d_Mo_reckon_89 ev_4 rfl ?_
    cases h
    exact zo_ret d_Mo_reckon_90 (Nat.le_of_ble_eq_true rfl) (Nat.le_of_ble_eq_true rfl) rfl
  · rw [if_neg c_3] at h
    refine zi_lconst 0 d_Mo_reckon_82 rfl ?_
    refine zi_goto (tgt := 90) d_Mo_reckon_83 rfl ?_
    cases h
    exact zo_ret d_Mo_reckon_90 (Nat.le_of_ble_eq_true rfl) (Nat.le_of_ble_eq_true rfl) rfl
theorem K_Mo_reckon_b104 (n : Nat) (E : zE) (S : zS) (a0 : Nat) (y2 : Int64) (y4 : Int64) (s0 : Int32) (u1 : Nat) (M : zH) (r : Int64) (M' : zH)  (h : F_Mo_reckon_b104 n E S a0 y2 y4 s0 u1 M = some (r, M')) : zG E Y_Mo_reckon (some (.long r), S, M') 104 [(0, .ref a0), (2, .long y2), (4, .long y4)] [.int s0, .ref u1] S M 0 0 := by
  unfold F_Mo_reckon_b104 at h
  obtain ⟨m_5, em_5, h⟩ := zbind h
  refine zo_putZ 107 zkd_11 38 d_Mo_reckon_104 em_5 rfl rfl rfl tw_1267 rfl ?_
  refine zi_aload_n 0 d_Mo_reckon_107 rfl ?_
  obtain ⟨v_6, ev_6, h⟩ := zbind h
  refine zo_getI 111 zkd_11 38 d_Mo_reckon_108 ev_6 rfl tw_1267 rfl ?_
  refine zi_if_eq (tgt := 118) d_Mo_reckon_111 rfl (fun c_7 => ?_) (fun c_7 => ?_)
  · rw [if_pos c_7] at h
    refine zi_lload_n 1 d_Mo_reckon_118 rfl ?_
    refine zi_lload 2 d_Mo_reckon_119 rfl ?_
    obtain ⟨v_8, ev_8, h⟩ := zbind h
    refine zo_lrem 122 d_Mo_reckon_121 ev_8 rfl ?_
    cases h
    exact zo_ret d_Mo_reckon_122 (Nat.le_of_ble_eq_true rfl) (Nat.le_of_ble_eq_true rfl) rfl
  · rw [if_neg c_7] at h
    refine zi_lconst 0 d_Mo_reckon_114 rfl ?_
    refine zi_goto (tgt := 122) d_Mo_reckon_115 rfl ?_
    cases h
    exact zo_ret d_Mo_reckon_122 (Nat.le_of_ble_eq_true rfl) (Nat.le_of_ble_eq_true rfl) rfl
theorem K_Mo_reckon (n : Nat) (E : zE) (S : zS) (a0 : Nat) (x1 : Int32) (y2 : Int64) (y4 : Int64) (M : zH) (r : Int64) (M' : zH)  (h : F_Mo_reckon n E S a0 x1 y2 y4 M = some (r, M')) : zG E Y_Mo_reckon (some (.long r), S, M') 0 [(0, .ref a0), (1, .int x1), (2, .long y2), (4, .long y4)] [] S M 0 0 := by
  unfold F_Mo_reckon at h
  refine zi_iload_n 1 d_Mo_reckon_0 rfl ?_
  by_cases c_9 : x1 = 20
  · rw [if_pos c_9] at h
    refine zo_tab (tgt := 44) 20 d_Mo_reckon_1 c_9 (by decide) (by decide) rfl rfl ?_
    refine zi_lload_n 2 d_Mo_reckon_44 rfl ?_
    refine zi_lload 3 d_Mo_reckon_45 rfl ?_
    refine zi_ladd d_Mo_reckon_47 ?_
    cases h
    exact zo_ret d_Mo_reckon_48 (Nat.le_of_ble_eq_true rfl) (Nat.le_of_ble_eq_true rfl) rfl
  rw [if_neg c_9] at h
  by_cases c_10 : x1 = 21
  · rw [if_pos c_10] at h
    refine zo_tab (tgt := 49) 21 d_Mo_reckon_1 c_10 (by decide) (by decide) rfl rfl ?_
    refine zi_lload_n 2 d_Mo_reckon_49 rfl ?_
    refine zi_lload 3 d_Mo_reckon_50 rfl ?_
    refine zi_lsub d_Mo_reckon_52 ?_
    cases h
    exact zo_ret d_Mo_reckon_53 (Nat.le_of_ble_eq_true rfl) (Nat.le_of_ble_eq_true rfl) rfl
  rw [if_neg c_10] at h
  by_cases c_11 : x1 = 22
  · rw [if_pos c_11] at h
    refine zo_tab (tgt := 54) 22 d_Mo_reckon_1 c_11 (by decide) (by decide) rfl rfl ?_
    refine zi_lload_n 2 d_Mo_reckon_54 rfl ?_
    refine zi_lload 3 d_Mo_reckon_55 rfl ?_
    refine zi_lmul d_Mo_reckon_57 ?_
    cases h
    exact zo_ret d_Mo_reckon_58 (Nat.le_of_ble_eq_true rfl) (Nat.le_of_ble_eq_true rfl) rfl
  rw [if_neg c_11] at h
  by_cases c_12 : x1 = 23
  · rw [if_pos c_12] at h
    refine zo_tab (tgt := 59) 23 d_Mo_reckon_1 c_12 (by decide) (by decide) rfl rfl ?_
    refine zi_aload_n 0 d_Mo_reckon_59 rfl ?_
    refine zi_lload 3 d_Mo_reckon_60 rfl ?_
    refine zi_lconst 0 d_Mo_reckon_62 rfl ?_
    refine zo_lc_ne d_Mo_reckon_63 d_Mo_reckon_64 rfl 67 rfl (fun c_13 => ?_) (fun c_13 => ?_)
    · rw [if_neg c_13] at h
      refine zi_iconst 0 d_Mo_reckon_71 rfl ?_
      refine zi_lo [(0, .ref a0), (2, .long y2), (4, .long y4)] [0, 2, 3] rfl ?_
      exact K_Mo_reckon_b72 n E S a0 y2 y4 0 a0 M r M'  h
    · rw [if_pos c_13] at h
      refine zi_iconst 1 d_Mo_reckon_67 rfl ?_
      refine zi_goto (tgt := 72) d_Mo_reckon_68 rfl ?_
      refine zi_lo [(0, .ref a0), (2, .long y2), (4, .long y4)] [0, 2, 3] rfl ?_
      exact K_Mo_reckon_b72 n E S a0 y2 y4 1 a0 M r M'  h
  rw [if_neg c_12] at h
  by_cases c_14 : x1 = 24
  · rw [if_pos c_14] at h
    refine zo_tab (tgt := 91) 24 d_Mo_reckon_1 c_14 (by decide) (by decide) rfl rfl ?_
    refine zi_aload_n 0 d_Mo_reckon_91 rfl ?_
    refine zi_lload 3 d_Mo_reckon_92 rfl ?_
    refine zi_lconst 0 d_Mo_reckon_94 rfl ?_
    refine zo_lc_ne d_Mo_reckon_95 d_Mo_reckon_96 rfl 99 rfl (fun c_15 => ?_) (fun c_15 => ?_)
    · rw [if_neg c_15] at h
      refine zi_iconst 0 d_Mo_reckon_103 rfl ?_
      refine zi_lo [(0, .ref a0), (2, .long y2), (4, .long y4)] [0, 2, 3] rfl ?_
      exact K_Mo_reckon_b104 n E S a0 y2 y4 0 a0 M r M'  h
    · rw [if_pos c_15] at h
      refine zi_iconst 1 d_Mo_reckon_99 rfl ?_
      refine zi_goto (tgt := 104) d_Mo_reckon_100 rfl ?_
      refine zi_lo [(0, .ref a0), (2, .long y2), (4, .long y4)] [0, 2, 3] rfl ?_
      exact K_Mo_reckon_b104 n E S a0 y2 y4 1 a0 M r M'  h
  rw [if_neg c_14] at h
  by_cases c_16 : x1 = 25
  · rw [if_pos c_16] at h
    refine zo_tab (tgt := 123) 25 d_Mo_reckon_1 c_16 (by decide) (by decide) rfl rfl ?_
    refine zi_lload_n 2 d_Mo_reckon_123 rfl ?_
    refine zi_lload 3 d_Mo_reckon_124 rfl ?_
    refine zo_lc_ge d_Mo_reckon_126 d_Mo_reckon_127 rfl 130 rfl (fun c_17 => ?_) (fun c_17 => ?_)
    · rw [if_pos c_17] at h
      refine zi_lconst 0 d_Mo_reckon_134 rfl ?_
      cases h
      exact zo_ret d_Mo_reckon_135 (Nat.le_of_ble_eq_true rfl) (Nat.le_of_ble_eq_true rfl) rfl
    · rw [if_neg c_17] at h
      refine zi_lconst 1 d_Mo_reckon_130 rfl ?_
      refine zi_goto (tgt := 135) d_Mo_reckon_131 rfl ?_
      cases h
      exact zo_ret d_Mo_reckon_135 (Nat.le_of_ble_eq_true rfl) (Nat.le_of_ble_eq_true rfl) rfl
  rw [if_neg c_16] at h
  by_cases c_18 : x1 = 26
  · rw [if_pos c_18] at h
    refine zo_tab (tgt := 136) 26 d_Mo_reckon_1 c_18 (by decide) (by decide) rfl rfl ?_
    refine zi_lload_n 2 d_Mo_reckon_136 rfl ?_
    refine zi_lload 3 d_Mo_reckon_137 rfl ?_
    refine zo_lc_le d_Mo_reckon_139 d_Mo_reckon_140 rfl 143 rfl (fun c_19 => ?_) (fun c_19 => ?_)
    · rw [if_pos c_19] at h
      refine zi_lconst 0 d_Mo_reckon_147 rfl ?_
      cases h
      exact zo_ret d_Mo_reckon_148 (Nat.le_of_ble_eq_true rfl) (Nat.le_of_ble_eq_true rfl) rfl
    · rw [if_neg c_19] at h
      refine zi_lconst 1 d_Mo_reckon_143 rfl ?_
      refine zi_goto (tgt := 148) d_Mo_reckon_144 rfl ?_
      cases h
      exact zo_ret d_Mo_reckon_148 (Nat.le_of_ble_eq_true rfl) (Nat.le_of_ble_eq_true rfl) rfl
  rw [if_neg c_18] at h
  refine zo_tabP (tgt := 149) 20 7 d_Mo_reckon_1 rfl rfl (fun j hj => by match j, hj with | 0, _ => exact c_9  | 1, _ => exact c_10  | 2, _ => exact c_11  | 3, _ => exact c_12  | 4, _ => exact c_14  | 5, _ => exact c_16  | 6, _ => exact c_18 | j + 7, hj => exact absurd hj (by omega)) rfl ?_
  refine zi_lload_n 2 d_Mo_reckon_149 rfl ?_
  refine zi_lload 3 d_Mo_reckon_150 rfl ?_
  refine zo_lc_ne d_Mo_reckon_152 d_Mo_reckon_153 rfl 156 rfl (fun c_20 => ?_) (fun c_20 => ?_)
  · rw [if_neg c_20] at h
    refine zi_lconst 0 d_Mo_reckon_160 rfl ?_
    cases h
    exact zo_ret d_Mo_reckon_161 (Nat.le_of_ble_eq_true rfl) (Nat.le_of_ble_eq_true rfl) rfl
  · rw [if_pos c_20] at h
    refine zi_lconst 1 d_Mo_reckon_156 rfl ?_
    refine zi_goto (tgt := 161) d_Mo_reckon_157 rfl ?_
    cases h
    exact zo_ret d_Mo_reckon_161 (Nat.le_of_ble_eq_true rfl) (Nat.le_of_ble_eq_true rfl) rfl
theorem C_Mo_reckon (n : Nat) (E : zE) (S : zS) (a0 : Nat) (x1 : Int32) (y2 : Int64) (y4 : Int64) (M : zH) (r : Int64) (M' : zH) (h : F_Mo_reckon n E S a0 x1 y2 y4 M = some (r, M')) : zC E Y_Mo_reckon [.ref a0, .int x1, .long y2, .long y4] S M (some (.long r), S, M') :=
  zC.of (Or.inl (show plainName "NightColanderModel" = true by decide)) (Nat.le_of_ble_eq_true rfl) (trivial) (K_Mo_reckon n E S a0 x1 y2 y4 M r M' h)
