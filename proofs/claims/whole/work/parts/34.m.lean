/-! METHODS (printed by gen/build.py): Mo_reckonAll Mo_isSo Mo_tells Mo_within Mo_runsOf Mo_hole -/
theorem d_Mo_reckonAll_0 : decode (yB Y_Mo_reckonAll) 0 = .ok (.aload_n 0, 1) := by decide +kernel
theorem d_Mo_reckonAll_1 : decode (yB Y_Mo_reckonAll) 1 = .ok (.iconst 0, 1) := by decide +kernel
theorem d_Mo_reckonAll_2 : decode (yB Y_Mo_reckonAll) 2 = .ok (.putfield 405, 3) := by decide +kernel
theorem d_Mo_reckonAll_5 : decode (yB Y_Mo_reckonAll) 5 = .ok (.iconst 0, 1) := by decide +kernel
theorem d_Mo_reckonAll_6 : decode (yB Y_Mo_reckonAll) 6 = .ok (.istore_n 3, 1) := by decide +kernel
theorem d_Mo_reckonAll_7 : decode (yB Y_Mo_reckonAll) 7 = .ok (.iload_n 1, 1) := by decide +kernel
theorem d_Mo_reckonAll_8 : decode (yB Y_Mo_reckonAll) 8 = .ok (.istore 4, 2) := by decide +kernel
theorem d_Mo_reckonAll_10 : decode (yB Y_Mo_reckonAll) 10 = .ok (.iload 4, 2) := by decide +kernel
theorem d_Mo_reckonAll_12 : decode (yB Y_Mo_reckonAll) 12 = .ok (.iload_n 2, 1) := by decide +kernel
theorem d_Mo_reckonAll_13 : decode (yB Y_Mo_reckonAll) 13 = .ok (.if_icmp .ge 356, 3) := by decide +kernel
theorem d_Mo_reckonAll_16 : decode (yB Y_Mo_reckonAll) 16 = .ok (.aload_n 0, 1) := by decide +kernel
theorem d_Mo_reckonAll_17 : decode (yB Y_Mo_reckonAll) 17 = .ok (.getfield 405, 3) := by decide +kernel
theorem d_Mo_reckonAll_20 : decode (yB Y_Mo_reckonAll) 20 = .ok (.ifCond .ne 349, 3) := by decide +kernel
theorem d_Mo_reckonAll_23 : decode (yB Y_Mo_reckonAll) 23 = .ok (.aload_n 0, 1) := by decide +kernel
theorem d_Mo_reckonAll_24 : decode (yB Y_Mo_reckonAll) 24 = .ok (.getfield 331, 3) := by decide +kernel
theorem d_Mo_reckonAll_27 : decode (yB Y_Mo_reckonAll) 27 = .ok (.ifCond .eq 13, 3) := by decide +kernel
theorem d_Mo_reckonAll_30 : decode (yB Y_Mo_reckonAll) 30 = .ok (.aload_n 0, 1) := by decide +kernel
theorem d_Mo_reckonAll_31 : decode (yB Y_Mo_reckonAll) 31 = .ok (.getfield 45, 3) := by decide +kernel
theorem d_Mo_reckonAll_34 : decode (yB Y_Mo_reckonAll) 34 = .ok (.iload 4, 2) := by decide +kernel
theorem d_Mo_reckonAll_36 : decode (yB Y_Mo_reckonAll) 36 = .ok (.iaload, 1) := by decide +kernel
theorem d_Mo_reckonAll_37 : decode (yB Y_Mo_reckonAll) 37 = .ok (.goto 20, 3) := by decide +kernel
theorem d_Mo_reckonAll_40 : decode (yB Y_Mo_reckonAll) 40 = .ok (.aload_n 0, 1) := by decide +kernel
theorem d_Mo_reckonAll_41 : decode (yB Y_Mo_reckonAll) 41 = .ok (.getfield 13, 3) := by decide +kernel
theorem d_Mo_reckonAll_44 : decode (yB Y_Mo_reckonAll) 44 = .ok (.aload_n 0, 1) := by decide +kernel
theorem d_Mo_reckonAll_45 : decode (yB Y_Mo_reckonAll) 45 = .ok (.getfield 408, 3) := by decide +kernel
theorem d_Mo_reckonAll_48 : decode (yB Y_Mo_reckonAll) 48 = .ok (.bipush 98, 2) := by decide +kernel
theorem d_Mo_reckonAll_50 : decode (yB Y_Mo_reckonAll) 50 = .ok (.iadd, 1) := by decide +kernel
theorem d_Mo_reckonAll_51 : decode (yB Y_Mo_reckonAll) 51 = .ok (.iconst 2, 1) := by decide +kernel
theorem d_Mo_reckonAll_52 : decode (yB Y_Mo_reckonAll) 52 = .ok (.iload 4, 2) := by decide +kernel
theorem d_Mo_reckonAll_54 : decode (yB Y_Mo_reckonAll) 54 = .ok (.imul, 1) := by decide +kernel
theorem d_Mo_reckonAll_55 : decode (yB Y_Mo_reckonAll) 55 = .ok (.iadd, 1) := by decide +kernel
theorem d_Mo_reckonAll_56 : decode (yB Y_Mo_reckonAll) 56 = .ok (.iaload, 1) := by decide +kernel
theorem d_Mo_reckonAll_57 : decode (yB Y_Mo_reckonAll) 57 = .ok (.istore 5, 2) := by decide +kernel
theorem d_Mo_reckonAll_59 : decode (yB Y_Mo_reckonAll) 59 = .ok (.aload_n 0, 1) := by decide +kernel
theorem d_Mo_reckonAll_60 : decode (yB Y_Mo_reckonAll) 60 = .ok (.getfield 331, 3) := by decide +kernel
theorem d_Mo_reckonAll_63 : decode (yB Y_Mo_reckonAll) 63 = .ok (.ifCond .eq 13, 3) := by decide +kernel
theorem d_Mo_reckonAll_66 : decode (yB Y_Mo_reckonAll) 66 = .ok (.aload_n 0, 1) := by decide +kernel
theorem d_Mo_reckonAll_67 : decode (yB Y_Mo_reckonAll) 67 = .ok (.getfield 48, 3) := by decide +kernel
theorem d_Mo_reckonAll_70 : decode (yB Y_Mo_reckonAll) 70 = .ok (.iload 4, 2) := by decide +kernel
theorem d_Mo_reckonAll_72 : decode (yB Y_Mo_reckonAll) 72 = .ok (.iaload, 1) := by decide +kernel
theorem d_Mo_reckonAll_73 : decode (yB Y_Mo_reckonAll) 73 = .ok (.goto 22, 3) := by decide +kernel
theorem d_Mo_reckonAll_76 : decode (yB Y_Mo_reckonAll) 76 = .ok (.aload_n 0, 1) := by decide +kernel
theorem d_Mo_reckonAll_77 : decode (yB Y_Mo_reckonAll) 77 = .ok (.getfield 13, 3) := by decide +kernel
theorem d_Mo_reckonAll_80 : decode (yB Y_Mo_reckonAll) 80 = .ok (.aload_n 0, 1) := by decide +kernel
theorem d_Mo_reckonAll_81 : decode (yB Y_Mo_reckonAll) 81 = .ok (.getfield 408, 3) := by decide +kernel
theorem d_Mo_reckonAll_84 : decode (yB Y_Mo_reckonAll) 84 = .ok (.bipush 98, 2) := by decide +kernel
theorem d_Mo_reckonAll_86 : decode (yB Y_Mo_reckonAll) 86 = .ok (.iadd, 1) := by decide +kernel
theorem d_Mo_reckonAll_87 : decode (yB Y_Mo_reckonAll) 87 = .ok (.iconst 2, 1) := by decide +kernel
theorem d_Mo_reckonAll_88 : decode (yB Y_Mo_reckonAll) 88 = .ok (.iload 4, 2) := by decide +kernel
theorem d_Mo_reckonAll_90 : decode (yB Y_Mo_reckonAll) 90 = .ok (.imul, 1) := by decide +kernel
theorem d_Mo_reckonAll_91 : decode (yB Y_Mo_reckonAll) 91 = .ok (.iadd, 1) := by decide +kernel
theorem d_Mo_reckonAll_92 : decode (yB Y_Mo_reckonAll) 92 = .ok (.iconst 1, 1) := by decide +kernel
theorem d_Mo_reckonAll_93 : decode (yB Y_Mo_reckonAll) 93 = .ok (.iadd, 1) := by decide +kernel
theorem d_Mo_reckonAll_94 : decode (yB Y_Mo_reckonAll) 94 = .ok (.iaload, 1) := by decide +kernel
theorem d_Mo_reckonAll_95 : decode (yB Y_Mo_reckonAll) 95 = .ok (.istore 6, 2) := by decide +kernel
theorem d_Mo_reckonAll_97 : decode (yB Y_Mo_reckonAll) 97 = .ok (.iinc 4 1, 3) := by decide +kernel
theorem d_Mo_reckonAll_100 : decode (yB Y_Mo_reckonAll) 100 = .ok (.iload 5, 2) := by decide +kernel
theorem d_Mo_reckonAll_102 : decode (yB Y_Mo_reckonAll) 102 = .ok (.bipush 20, 2) := by decide +kernel
theorem d_Mo_reckonAll_104 : decode (yB Y_Mo_reckonAll) 104 = .ok (.if_icmp .ge 123, 3) := by decide +kernel
theorem d_Mo_reckonAll_107 : decode (yB Y_Mo_reckonAll) 107 = .ok (.aload_n 0, 1) := by decide +kernel
theorem d_Mo_reckonAll_108 : decode (yB Y_Mo_reckonAll) 108 = .ok (.getfield 109, 3) := by decide +kernel
theorem d_Mo_reckonAll_111 : decode (yB Y_Mo_reckonAll) 111 = .ok (.iload_n 3, 1) := by decide +kernel
theorem d_Mo_reckonAll_112 : decode (yB Y_Mo_reckonAll) 112 = .ok (.iload 5, 2) := by decide +kernel
theorem d_Mo_reckonAll_114 : decode (yB Y_Mo_reckonAll) 114 = .ok (.ifCond .ne 9, 3) := by decide +kernel
theorem d_Mo_reckonAll_117 : decode (yB Y_Mo_reckonAll) 117 = .ok (.iload 6, 2) := by decide +kernel
theorem d_Mo_reckonAll_119 : decode (yB Y_Mo_reckonAll) 119 = .ok (.i2l, 1) := by decide +kernel
theorem d_Mo_reckonAll_120 : decode (yB Y_Mo_reckonAll) 120 = .ok (.goto 100, 3) := by decide +kernel
theorem d_Mo_reckonAll_123 : decode (yB Y_Mo_reckonAll) 123 = .ok (.aload_n 0, 1) := by decide +kernel
theorem d_Mo_reckonAll_124 : decode (yB Y_Mo_reckonAll) 124 = .ok (.getfield 331, 3) := by decide +kernel
theorem d_Mo_reckonAll_127 : decode (yB Y_Mo_reckonAll) 127 = .ok (.ifCond .ne 13, 3) := by decide +kernel
theorem d_Mo_reckonAll_130 : decode (yB Y_Mo_reckonAll) 130 = .ok (.aload_n 0, 1) := by decide +kernel
theorem d_Mo_reckonAll_131 : decode (yB Y_Mo_reckonAll) 131 = .ok (.getfield 103, 3) := by decide +kernel
theorem d_Mo_reckonAll_134 : decode (yB Y_Mo_reckonAll) 134 = .ok (.iload 5, 2) := by decide +kernel
theorem d_Mo_reckonAll_136 : decode (yB Y_Mo_reckonAll) 136 = .ok (.laload, 1) := by decide +kernel
theorem d_Mo_reckonAll_137 : decode (yB Y_Mo_reckonAll) 137 = .ok (.goto 83, 3) := by decide +kernel
theorem d_Mo_reckonAll_140 : decode (yB Y_Mo_reckonAll) 140 = .ok (.iload 5, 2) := by decide +kernel
theorem d_Mo_reckonAll_142 : decode (yB Y_Mo_reckonAll) 142 = .ok (.iconst 5, 1) := by decide +kernel
theorem d_Mo_reckonAll_143 : decode (yB Y_Mo_reckonAll) 143 = .ok (.if_icmp .ge 13, 3) := by decide +kernel
theorem d_Mo_reckonAll_146 : decode (yB Y_Mo_reckonAll) 146 = .ok (.aload_n 0, 1) := by decide +kernel
theorem d_Mo_reckonAll_147 : decode (yB Y_Mo_reckonAll) 147 = .ok (.getfield 106, 3) := by decide +kernel
theorem d_Mo_reckonAll_150 : decode (yB Y_Mo_reckonAll) 150 = .ok (.iload 5, 2) := by decide +kernel
theorem d_Mo_reckonAll_152 : decode (yB Y_Mo_reckonAll) 152 = .ok (.laload, 1) := by decide +kernel
theorem d_Mo_reckonAll_153 : decode (yB Y_Mo_reckonAll) 153 = .ok (.goto 67, 3) := by decide +kernel
theorem d_Mo_reckonAll_156 : decode (yB Y_Mo_reckonAll) 156 = .ok (.iload 5, 2) := by decide +kernel
theorem d_Mo_reckonAll_158 : decode (yB Y_Mo_reckonAll) 158 = .ok (.iconst 5, 1) := by decide +kernel
theorem d_Mo_reckonAll_159 : decode (yB Y_Mo_reckonAll) 159 = .ok (.if_icmp .ne 17, 3) := by decide +kernel
theorem d_Mo_reckonAll_162 : decode (yB Y_Mo_reckonAll) 162 = .ok (.aload_n 0, 1) := by decide +kernel
theorem d_Mo_reckonAll_163 : decode (yB Y_Mo_reckonAll) 163 = .ok (.getfield 13, 3) := by decide +kernel
theorem d_Mo_reckonAll_166 : decode (yB Y_Mo_reckonAll) 166 = .ok (.bipush 8, 2) := by decide +kernel
theorem d_Mo_reckonAll_168 : decode (yB Y_Mo_reckonAll) 168 = .ok (.iload 6, 2) := by decide +kernel
theorem d_Mo_reckonAll_170 : decode (yB Y_Mo_reckonAll) 170 = .ok (.iadd, 1) := by decide +kernel
theorem d_Mo_reckonAll_171 : decode (yB Y_Mo_reckonAll) 171 = .ok (.iaload, 1) := by decide +kernel
theorem d_Mo_reckonAll_172 : decode (yB Y_Mo_reckonAll) 172 = .ok (.i2l, 1) := by decide +kernel
theorem d_Mo_reckonAll_173 : decode (yB Y_Mo_reckonAll) 173 = .ok (.goto 47, 3) := by decide +kernel
theorem d_Mo_reckonAll_176 : decode (yB Y_Mo_reckonAll) 176 = .ok (.iload 5, 2) := by decide +kernel
theorem d_Mo_reckonAll_178 : decode (yB Y_Mo_reckonAll) 178 = .ok (.bipush 6, 2) := by decide +kernel
theorem d_Mo_reckonAll_180 : decode (yB Y_Mo_reckonAll) 180 = .ok (.if_icmp .le 14, 3) := by decide +kernel
theorem d_Mo_reckonAll_183 : decode (yB Y_Mo_reckonAll) 183 = .ok (.aload_n 0, 1) := by decide +kernel
theorem d_Mo_reckonAll_184 : decode (yB Y_Mo_reckonAll) 184 = .ok (.getfield 112, 3) := by decide +kernel
theorem d_Mo_reckonAll_187 : decode (yB Y_Mo_reckonAll) 187 = .ok (.iload 6, 2) := by decide +kernel
theorem d_Mo_reckonAll_189 : decode (yB Y_Mo_reckonAll) 189 = .ok (.iaload, 1) := by decide +kernel
theorem d_Mo_reckonAll_190 : decode (yB Y_Mo_reckonAll) 190 = .ok (.i2l, 1) := by decide +kernel
theorem d_Mo_reckonAll_191 : decode (yB Y_Mo_reckonAll) 191 = .ok (.goto 29, 3) := by decide +kernel
theorem d_Mo_reckonAll_194 : decode (yB Y_Mo_reckonAll) 194 = .ok (.aload_n 0, 1) := by decide +kernel
theorem d_Mo_reckonAll_195 : decode (yB Y_Mo_reckonAll) 195 = .ok (.iload 6, 2) := by decide +kernel
theorem d_Mo_reckonAll_197 : decode (yB Y_Mo_reckonAll) 197 = .ok (.invokevirtual 214, 3) := by decide +kernel
theorem d_Mo_reckonAll_200 : decode (yB Y_Mo_reckonAll) 200 = .ok (.ifCond .eq 17, 3) := by decide +kernel
theorem d_Mo_reckonAll_203 : decode (yB Y_Mo_reckonAll) 203 = .ok (.aload_n 0, 1) := by decide +kernel
theorem d_Mo_reckonAll_204 : decode (yB Y_Mo_reckonAll) 204 = .ok (.getfield 13, 3) := by decide +kernel
theorem d_Mo_reckonAll_207 : decode (yB Y_Mo_reckonAll) 207 = .ok (.bipush 48, 2) := by decide +kernel
theorem d_Mo_reckonAll_209 : decode (yB Y_Mo_reckonAll) 209 = .ok (.iload 6, 2) := by decide +kernel
theorem d_Mo_reckonAll_211 : decode (yB Y_Mo_reckonAll) 211 = .ok (.iadd, 1) := by decide +kernel
theorem d_Mo_reckonAll_212 : decode (yB Y_Mo_reckonAll) 212 = .ok (.iaload, 1) := by decide +kernel
theorem d_Mo_reckonAll_213 : decode (yB Y_Mo_reckonAll) 213 = .ok (.i2l, 1) := by decide +kernel
theorem d_Mo_reckonAll_214 : decode (yB Y_Mo_reckonAll) 214 = .ok (.goto 6, 3) := by decide +kernel
theorem d_Mo_reckonAll_217 : decode (yB Y_Mo_reckonAll) 217 = .ok (.ldc2_w 228, 3) := by decide +kernel
theorem d_Mo_reckonAll_220 : decode (yB Y_Mo_reckonAll) 220 = .ok (.lastore, 1) := by decide +kernel
theorem d_Mo_reckonAll_221 : decode (yB Y_Mo_reckonAll) 221 = .ok (.iinc 3 1, 3) := by decide +kernel
theorem d_Mo_reckonAll_224 : decode (yB Y_Mo_reckonAll) 224 = .ok (.goto 142, 3) := by decide +kernel
theorem d_Mo_reckonAll_227 : decode (yB Y_Mo_reckonAll) 227 = .ok (.iload 5, 2) := by decide +kernel
theorem d_Mo_reckonAll_229 : decode (yB Y_Mo_reckonAll) 229 = .ok (.bipush 28, 2) := by decide +kernel
theorem d_Mo_reckonAll_231 : decode (yB Y_Mo_reckonAll) 231 = .ok (.if_icmp .ge 73, 3) := by decide +kernel
theorem d_Mo_reckonAll_234 : decode (yB Y_Mo_reckonAll) 234 = .ok (.iinc 3 (-1), 3) := by decide +kernel
theorem d_Mo_reckonAll_237 : decode (yB Y_Mo_reckonAll) 237 = .ok (.aload_n 0, 1) := by decide +kernel
theorem d_Mo_reckonAll_238 : decode (yB Y_Mo_reckonAll) 238 = .ok (.getfield 109, 3) := by decide +kernel
theorem d_Mo_reckonAll_241 : decode (yB Y_Mo_reckonAll) 241 = .ok (.iload_n 3, 1) := by decide +kernel
theorem d_Mo_reckonAll_242 : decode (yB Y_Mo_reckonAll) 242 = .ok (.iconst 1, 1) := by decide +kernel
theorem d_Mo_reckonAll_243 : decode (yB Y_Mo_reckonAll) 243 = .ok (.isub, 1) := by decide +kernel
theorem d_Mo_reckonAll_244 : decode (yB Y_Mo_reckonAll) 244 = .ok (.aload_n 0, 1) := by decide +kernel
theorem d_Mo_reckonAll_245 : decode (yB Y_Mo_reckonAll) 245 = .ok (.iload 5, 2) := by decide +kernel
theorem d_Mo_reckonAll_247 : decode (yB Y_Mo_reckonAll) 247 = .ok (.aload_n 0, 1) := by decide +kernel
theorem d_Mo_reckonAll_248 : decode (yB Y_Mo_reckonAll) 248 = .ok (.getfield 109, 3) := by decide +kernel
theorem d_Mo_reckonAll_251 : decode (yB Y_Mo_reckonAll) 251 = .ok (.iload_n 3, 1) := by decide +kernel
theorem d_Mo_reckonAll_252 : decode (yB Y_Mo_reckonAll) 252 = .ok (.iconst 1, 1) := by decide +kernel
theorem d_Mo_reckonAll_253 : decode (yB Y_Mo_reckonAll) 253 = .ok (.isub, 1) := by decide +kernel
theorem d_Mo_reckonAll_254 : decode (yB Y_Mo_reckonAll) 254 = .ok (.laload, 1) := by decide +kernel
theorem d_Mo_reckonAll_255 : decode (yB Y_Mo_reckonAll) 255 = .ok (.aload_n 0, 1) := by decide +kernel
theorem d_Mo_reckonAll_256 : decode (yB Y_Mo_reckonAll) 256 = .ok (.getfield 109, 3) := by decide +kernel
theorem d_Mo_reckonAll_259 : decode (yB Y_Mo_reckonAll) 259 = .ok (.iload_n 3, 1) := by decide +kernel
theorem d_Mo_reckonAll_260 : decode (yB Y_Mo_reckonAll) 260 = .ok (.laload, 1) := by decide +kernel
theorem d_Mo_reckonAll_261 : decode (yB Y_Mo_reckonAll) 261 = .ok (.invokevirtual 411, 3) := by decide +kernel
theorem d_Mo_reckonAll_264 : decode (yB Y_Mo_reckonAll) 264 = .ok (.lastore, 1) := by decide +kernel
theorem d_Mo_reckonAll_265 : decode (yB Y_Mo_reckonAll) 265 = .ok (.aload_n 0, 1) := by decide +kernel
theorem d_Mo_reckonAll_266 : decode (yB Y_Mo_reckonAll) 266 = .ok (.aload_n 0, 1) := by decide +kernel
theorem d_Mo_reckonAll_267 : decode (yB Y_Mo_reckonAll) 267 = .ok (.getfield 405, 3) := by decide +kernel
theorem d_Mo_reckonAll_270 : decode (yB Y_Mo_reckonAll) 270 = .ok (.ifCond .ne 23, 3) := by decide +kernel
theorem d_Mo_reckonAll_273 : decode (yB Y_Mo_reckonAll) 273 = .ok (.aload_n 0, 1) := by decide +kernel
theorem d_Mo_reckonAll_274 : decode (yB Y_Mo_reckonAll) 274 = .ok (.getfield 109, 3) := by decide +kernel
theorem d_Mo_reckonAll_277 : decode (yB Y_Mo_reckonAll) 277 = .ok (.iload_n 3, 1) := by decide +kernel
theorem d_Mo_reckonAll_278 : decode (yB Y_Mo_reckonAll) 278 = .ok (.iconst 1, 1) := by decide +kernel
theorem d_Mo_reckonAll_279 : decode (yB Y_Mo_reckonAll) 279 = .ok (.isub, 1) := by decide +kernel
theorem d_Mo_reckonAll_280 : decode (yB Y_Mo_reckonAll) 280 = .ok (.laload, 1) := by decide +kernel
theorem d_Mo_reckonAll_281 : decode (yB Y_Mo_reckonAll) 281 = .ok (.ldc2_w 415, 3) := by decide +kernel
theorem d_Mo_reckonAll_284 : decode (yB Y_Mo_reckonAll) 284 = .ok (.ldc2_w 417, 3) := by decide +kernel
theorem d_Mo_reckonAll_287 : decode (yB Y_Mo_reckonAll) 287 = .ok (.invokestatic 176, 3) := by decide +kernel
theorem d_Mo_reckonAll_290 : decode (yB Y_Mo_reckonAll) 290 = .ok (.ifCond .ne 7, 3) := by decide +kernel
theorem d_Mo_reckonAll_293 : decode (yB Y_Mo_reckonAll) 293 = .ok (.iconst 1, 1) := by decide +kernel
theorem d_Mo_reckonAll_294 : decode (yB Y_Mo_reckonAll) 294 = .ok (.goto 4, 3) := by decide +kernel
theorem d_Mo_reckonAll_297 : decode (yB Y_Mo_reckonAll) 297 = .ok (.iconst 0, 1) := by decide +kernel
theorem d_Mo_reckonAll_298 : decode (yB Y_Mo_reckonAll) 298 = .ok (.putfield 405, 3) := by decide +kernel
theorem d_Mo_reckonAll_301 : decode (yB Y_Mo_reckonAll) 301 = .ok (.goto 65, 3) := by decide +kernel
theorem d_Mo_reckonAll_304 : decode (yB Y_Mo_reckonAll) 304 = .ok (.iload 5, 2) := by decide +kernel
theorem d_Mo_reckonAll_306 : decode (yB Y_Mo_reckonAll) 306 = .ok (.bipush 28, 2) := by decide +kernel
theorem d_Mo_reckonAll_308 : decode (yB Y_Mo_reckonAll) 308 = .ok (.if_icmp .ne 24, 3) := by decide +kernel
theorem d_Mo_reckonAll_311 : decode (yB Y_Mo_reckonAll) 311 = .ok (.aload_n 0, 1) := by decide +kernel
theorem d_Mo_reckonAll_312 : decode (yB Y_Mo_reckonAll) 312 = .ok (.getfield 109, 3) := by decide +kernel
theorem d_Mo_reckonAll_315 : decode (yB Y_Mo_reckonAll) 315 = .ok (.iload_n 3, 1) := by decide +kernel
theorem d_Mo_reckonAll_316 : decode (yB Y_Mo_reckonAll) 316 = .ok (.iconst 1, 1) := by decide +kernel
theorem d_Mo_reckonAll_317 : decode (yB Y_Mo_reckonAll) 317 = .ok (.isub, 1) := by decide +kernel
theorem d_Mo_reckonAll_318 : decode (yB Y_Mo_reckonAll) 318 = .ok (.lconst 1, 1) := by decide +kernel
theorem d_Mo_reckonAll_319 : decode (yB Y_Mo_reckonAll) 319 = .ok (.aload_n 0, 1) := by decide +kernel
theorem d_Mo_reckonAll_320 : decode (yB Y_Mo_reckonAll) 320 = .ok (.getfield 109, 3) := by decide +kernel
theorem d_Mo_reckonAll_323 : decode (yB Y_Mo_reckonAll) 323 = .ok (.iload_n 3, 1) := by decide +kernel
theorem d_Mo_reckonAll_324 : decode (yB Y_Mo_reckonAll) 324 = .ok (.iconst 1, 1) := by decide +kernel
theorem d_Mo_reckonAll_325 : decode (yB Y_Mo_reckonAll) 325 = .ok (.isub, 1) := by decide +kernel
theorem d_Mo_reckonAll_326 : decode (yB Y_Mo_reckonAll) 326 = .ok (.laload, 1) := by decide +kernel
theorem d_Mo_reckonAll_327 : decode (yB Y_Mo_reckonAll) 327 = .ok (.lsub, 1) := by decide +kernel
theorem d_Mo_reckonAll_328 : decode (yB Y_Mo_reckonAll) 328 = .ok (.lastore, 1) := by decide +kernel
theorem d_Mo_reckonAll_329 : decode (yB Y_Mo_reckonAll) 329 = .ok (.goto 37, 3) := by decide +kernel
theorem d_Mo_reckonAll_332 : decode (yB Y_Mo_reckonAll) 332 = .ok (.aload_n 0, 1) := by decide +kernel
theorem d_Mo_reckonAll_333 : decode (yB Y_Mo_reckonAll) 333 = .ok (.getfield 109, 3) := by decide +kernel
theorem d_Mo_reckonAll_336 : decode (yB Y_Mo_reckonAll) 336 = .ok (.iload_n 3, 1) := by decide +kernel
theorem d_Mo_reckonAll_337 : decode (yB Y_Mo_reckonAll) 337 = .ok (.iconst 1, 1) := by decide +kernel
theorem d_Mo_reckonAll_338 : decode (yB Y_Mo_reckonAll) 338 = .ok (.isub, 1) := by decide +kernel
theorem d_Mo_reckonAll_339 : decode (yB Y_Mo_reckonAll) 339 = .ok (.laload, 1) := by decide +kernel
theorem d_Mo_reckonAll_340 : decode (yB Y_Mo_reckonAll) 340 = .ok (.iload 5, 2) := by decide +kernel
theorem d_Mo_reckonAll_342 : decode (yB Y_Mo_reckonAll) 342 = .ok (.bipush 29, 2) := by decide +kernel
theorem d_Mo_reckonAll_344 : decode (yB Y_Mo_reckonAll) 344 = .ok (.if_icmp .ne 7, 3) := by decide +kernel
theorem d_Mo_reckonAll_347 : decode (yB Y_Mo_reckonAll) 347 = .ok (.lconst 0, 1) := by decide +kernel
theorem d_Mo_reckonAll_348 : decode (yB Y_Mo_reckonAll) 348 = .ok (.goto 4, 3) := by decide +kernel
theorem d_Mo_reckonAll_351 : decode (yB Y_Mo_reckonAll) 351 = .ok (.lconst 1, 1) := by decide +kernel
theorem d_Mo_reckonAll_352 : decode (yB Y_Mo_reckonAll) 352 = .ok (.lcmp, 1) := by decide +kernel
theorem d_Mo_reckonAll_353 : decode (yB Y_Mo_reckonAll) 353 = .ok (.ifCond .ne 10, 3) := by decide +kernel
theorem d_Mo_reckonAll_356 : decode (yB Y_Mo_reckonAll) 356 = .ok (.iload 6, 2) := by decide +kernel
theorem d_Mo_reckonAll_358 : decode (yB Y_Mo_reckonAll) 358 = .ok (.istore 4, 2) := by decide +kernel
theorem d_Mo_reckonAll_360 : decode (yB Y_Mo_reckonAll) 360 = .ok (.goto 6, 3) := by decide +kernel
theorem d_Mo_reckonAll_363 : decode (yB Y_Mo_reckonAll) 363 = .ok (.iinc 3 (-1), 3) := by decide +kernel
theorem d_Mo_reckonAll_366 : decode (yB Y_Mo_reckonAll) 366 = .ok (.goto (-356), 3) := by decide +kernel
theorem d_Mo_reckonAll_369 : decode (yB Y_Mo_reckonAll) 369 = .ok (.aload_n 0, 1) := by decide +kernel
theorem d_Mo_reckonAll_370 : decode (yB Y_Mo_reckonAll) 370 = .ok (.iload_n 3, 1) := by decide +kernel
theorem d_Mo_reckonAll_371 : decode (yB Y_Mo_reckonAll) 371 = .ok (.ifCond .le 12, 3) := by decide +kernel
theorem d_Mo_reckonAll_374 : decode (yB Y_Mo_reckonAll) 374 = .ok (.aload_n 0, 1) := by decide +kernel
theorem d_Mo_reckonAll_375 : decode (yB Y_Mo_reckonAll) 375 = .ok (.getfield 109, 3) := by decide +kernel
theorem d_Mo_reckonAll_378 : decode (yB Y_Mo_reckonAll) 378 = .ok (.iconst 0, 1) := by decide +kernel
theorem d_Mo_reckonAll_379 : decode (yB Y_Mo_reckonAll) 379 = .ok (.laload, 1) := by decide +kernel
theorem d_Mo_reckonAll_380 : decode (yB Y_Mo_reckonAll) 380 = .ok (.goto 4, 3) := by decide +kernel
theorem d_Mo_reckonAll_383 : decode (yB Y_Mo_reckonAll) 383 = .ok (.lconst 0, 1) := by decide +kernel
theorem d_Mo_reckonAll_384 : decode (yB Y_Mo_reckonAll) 384 = .ok (.putfield 419, 3) := by decide +kernel
theorem d_Mo_reckonAll_387 : decode (yB Y_Mo_reckonAll) 387 = .ok (.return_, 1) := by decide +kernel
def F_Mo_reckonAll_b366 (n : Nat) (E : zE) (S : zS) (r10 : Nat × Int32 × Int32 × Int32 × zH → Option (zH)) (a0 : Nat) (x2 : Int32) (x3 : Int32) (x4 : Int32) (M : zH) : Option (zH) :=
  r10 (a0, x2, x3, x4, M)
def F_Mo_reckonAll_b220 (n : Nat) (E : zE) (S : zS) (r10 : Nat × Int32 × Int32 × Int32 × zH → Option (zH)) (a0 : Nat) (x2 : Int32) (x3 : Int32) (x4 : Int32) (t0 : Int64) (s1 : Int32) (u2 : Nat) (M : zH) : Option (zH) :=
  (zstJ S M u2 s1 t0).bind fun m_1 =>
  F_Mo_reckonAll_b366 n E S r10 a0 x2 (x3 + 1) x4 m_1
def F_Mo_reckonAll_b298 (n : Nat) (E : zE) (S : zS) (r10 : Nat × Int32 × Int32 × Int32 × zH → Option (zH)) (a0 : Nat) (x2 : Int32) (x3 : Int32) (x4 : Int32) (s0 : Int32) (u1 : Nat) (M : zH) : Option (zH) :=
  (zpZ S M u1 11 38 s0).bind fun m_2 =>
  F_Mo_reckonAll_b366 n E S r10 a0 x2 x3 x4 m_2
def F_Mo_reckonAll_b293 (n : Nat) (E : zE) (S : zS) (r10 : Nat × Int32 × Int32 × Int32 × zH → Option (zH)) (a0 : Nat) (x2 : Int32) (x3 : Int32) (x4 : Int32) (u0 : Nat) (M : zH) : Option (zH) :=
  F_Mo_reckonAll_b298 n E S r10 a0 x2 x3 x4 1 u0 M
def F_Mo_reckonAll_b352 (n : Nat) (E : zE) (S : zS) (r10 : Nat × Int32 × Int32 × Int32 × zH → Option (zH)) (a0 : Nat) (x2 : Int32) (x3 : Int32) (x4 : Int32) (x6 : Int32) (t0 : Int64) (t1 : Int64) (M : zH) : Option (zH) :=
  if t1 = t0 then
    F_Mo_reckonAll_b366 n E S r10 a0 x2 x3 x6 M
  else
    F_Mo_reckonAll_b366 n E S r10 a0 x2 (x3 + (-1)) x4 M
def F_Mo_reckonAll_b95 (n : Nat) (E : zE) (S : zS) (r10 : Nat × Int32 × Int32 × Int32 × zH → Option (zH)) (a0 : Nat) (x2 : Int32) (x3 : Int32) (x4 : Int32) (x5 : Int32) (s0 : Int32) (M : zH) : Option (zH) :=
  if 20 ≤ x5 then
    if 28 ≤ x5 then
      if x5 = 28 then
        (zgR S a0 11 37).bind fun b_7 =>
        (zldJ S M b_7 (x3 - 1)).bind fun v_8 =>
        (zstJ S M b_7 (x3 - 1) (1 - v_8)).bind fun m_9 =>
        F_Mo_reckonAll_b366 n E S r10 a0 x2 x3 (x4 + 1) m_9
      else
        (zgR S a0 11 37).bind fun b_10 =>
        (zldJ S M b_10 (x3 - 1)).bind fun v_11 =>
        if x5 = 29 then
          F_Mo_reckonAll_b352 n E S r10 a0 x2 x3 (x4 + 1) s0 0 v_11 M
        else
          F_Mo_reckonAll_b352 n E S r10 a0 x2 x3 (x4 + 1) s0 1 v_11 M
    else
      (zgR S a0 11 37).bind fun b_13 =>
      (zldJ S M b_13 ((x3 + (-1)) - 1)).bind fun v_14 =>
      (zldJ S M b_13 (x3 + (-1))).bind fun v_15 =>
      (F_Mo_reckon n E S a0 x5 v_14 v_15 M).bind fun q_16 =>
      (zstJ S q_16.2 b_13 ((x3 + (-1)) - 1) q_16.1).bind fun m_17 =>
      (zgI S m_17 a0 11 38).bind fun v_18 =>
      if v_18 = 0 then
        (zldJ S m_17 b_13 ((x3 + (-1)) - 1)).bind fun v_20 =>
        (F_Mo_in n E S v_20 (-1000000000) 1000000000 m_17).bind fun q_21 =>
        if q_21.1 = true then
          F_Mo_reckonAll_b298 n E S r10 a0 x2 (x3 + (-1)) (x4 + 1) 0 a0 q_21.2
        else
          F_Mo_reckonAll_b293 n E S r10 a0 x2 (x3 + (-1)) (x4 + 1) a0 q_21.2
      else
        F_Mo_reckonAll_b293 n E S r10 a0 x2 (x3 + (-1)) (x4 + 1) a0 m_17
  else
    (zgR S a0 11 37).bind fun b_23 =>
    if x5 = 0 then
      F_Mo_reckonAll_b220 n E S r10 a0 x2 x3 (x4 + 1) s0.toInt64 x3 b_23 M
    else
      (zgI S M a0 11 20).bind fun v_25 =>
      if v_25 = 0 then
        (zgR S a0 11 35).bind fun b_27 =>
        (zldJ S M b_27 x5).bind fun v_28 =>
        F_Mo_reckonAll_b220 n E S r10 a0 x2 x3 (x4 + 1) v_28 x3 b_23 M
      else
        if 5 ≤ x5 then
          if x5 = 5 then
            (zgR S a0 11 3).bind fun b_31 =>
            (zldI S M b_31 (8 + s0)).bind fun v_32 =>
            F_Mo_reckonAll_b220 n E S r10 a0 x2 x3 (x4 + 1) v_32.toInt64 x3 b_23 M
          else
            if x5 ≤ 6 then
              (F_Mo_isBucket n E S a0 s0 M).bind fun q_34 =>
              if q_34.1 = true then
                (zgR S a0 11 3).bind fun b_36 =>
                (zldI S q_34.2 b_36 (48 + s0)).bind fun v_37 =>
                F_Mo_reckonAll_b220 n E S r10 a0 x2 x3 (x4 + 1) v_37.toInt64 x3 b_23 q_34.2
              else
                F_Mo_reckonAll_b220 n E S r10 a0 x2 x3 (x4 + 1) (-1) x3 b_23 q_34.2
            else
              (zgR S a0 11 41).bind fun b_38 =>
              (zldI S M b_38 s0).bind fun v_39 =>
              F_Mo_reckonAll_b220 n E S r10 a0 x2 x3 (x4 + 1) v_39.toInt64 x3 b_23 M
        else
          (zgR S a0 11 36).bind fun b_40 =>
          (zldJ S M b_40 x5).bind fun v_41 =>
          F_Mo_reckonAll_b220 n E S r10 a0 x2 x3 (x4 + 1) v_41 x3 b_23 M
def F_Mo_reckonAll_b57 (n : Nat) (E : zE) (S : zS) (r10 : Nat × Int32 × Int32 × Int32 × zH → Option (zH)) (a0 : Nat) (x2 : Int32) (x3 : Int32) (x4 : Int32) (s0 : Int32) (M : zH) : Option (zH) :=
  (zgI S M a0 11 20).bind fun v_42 =>
  if v_42 = 0 then
    (zgR S a0 11 3).bind fun b_44 =>
    (zgI S M a0 11 34).bind fun v_45 =>
    (zldI S M b_44 (((v_45 + 98) + (2 * x4)) + 1)).bind fun v_46 =>
    F_Mo_reckonAll_b95 n E S r10 a0 x2 x3 x4 s0 v_46 M
  else
    (zgR S a0 11 25).bind fun b_47 =>
    (zldI S M b_47 x4).bind fun v_48 =>
    F_Mo_reckonAll_b95 n E S r10 a0 x2 x3 x4 s0 v_48 M
def F_Mo_reckonAll_b384 (n : Nat) (E : zE) (S : zS) (t0 : Int64) (u1 : Nat) (M : zH) : Option (zH) :=
  (zpJ S M u1 11 39 t0).bind fun m_49 =>
  some (m_49)
def F_Mo_reckonAll_b369 (n : Nat) (E : zE) (S : zS) (a0 : Nat) (x3 : Int32) (M : zH) : Option (zH) :=
  if x3 ≤ 0 then
    F_Mo_reckonAll_b384 n E S 0 a0 M
  else
    (zgR S a0 11 37).bind fun b_51 =>
    (zldJ S M b_51 0).bind fun v_52 =>
    F_Mo_reckonAll_b384 n E S v_52 a0 M
def F_Mo_reckonAll_L10 (n : Nat) (E : zE) (S : zS) (r10 : Nat × Int32 × Int32 × Int32 × zH → Option (zH)) (a0 : Nat) (x2 : Int32) (x3 : Int32) (x4 : Int32) (M : zH) : Option (zH) :=
  if x2 ≤ x4 then
    F_Mo_reckonAll_b369 n E S a0 x3 M
  else
    (zgI S M a0 11 38).bind fun v_54 =>
    if v_54 = 0 then
      (zgI S M a0 11 20).bind fun v_56 =>
      if v_56 = 0 then
        (zgR S a0 11 3).bind fun b_58 =>
        (zgI S M a0 11 34).bind fun v_59 =>
        (zldI S M b_58 ((v_59 + 98) + (2 * x4))).bind fun v_60 =>
        F_Mo_reckonAll_b57 n E S r10 a0 x2 x3 x4 v_60 M
      else
        (zgR S a0 11 24).bind fun b_61 =>
        (zldI S M b_61 x4).bind fun v_62 =>
        F_Mo_reckonAll_b57 n E S r10 a0 x2 x3 x4 v_62 M
    else
      F_Mo_reckonAll_b369 n E S a0 x3 M
def F_Mo_reckonAll_b10 (n : Nat) (E : zE) (S : zS) : Nat × Int32 × Int32 × Int32 × zH → Option (zH) := zfix (fun r10 s => F_Mo_reckonAll_L10 n E S r10 s.1 s.2.1 s.2.2.1 s.2.2.2.1 s.2.2.2.2) n
def F_Mo_reckonAll (n : Nat) (E : zE) (S : zS) (a0 : Nat) (x1 : Int32) (x2 : Int32) (M : zH) : Option (zH) :=
  (zpZ S M a0 11 38 0).bind fun m_63 =>
  F_Mo_reckonAll_b10 n E S (a0, x2, 0, x1, m_63)
theorem K_Mo_reckonAll_b366 (n : Nat) (E : zE) (S : zS) (r10 : Nat × Int32 × Int32 × Int32 × zH → Option (zH)) (a0 : Nat) (x2 : Int32) (x3 : Int32) (x4 : Int32) (M : zH) (M' : zH) (hr10 : ∀ (a0 : Nat) (x2 : Int32) (x3 : Int32) (x4 : Int32) (M : zH), r10 (a0, x2, x3, x4, M) = some M' → zG E Y_Mo_reckonAll (none, S, M') 10 [(0, .ref a0), (2, .int x2), (3, .int x3), (4, .int x4)] [] S M 0 0) (h : F_Mo_reckonAll_b366 n E S r10 a0 x2 x3 x4 M = some M') : zG E Y_Mo_reckonAll (none, S, M') 366 [(0, .ref a0), (2, .int x2), (3, .int x3), (4, .int x4)] [] S M 0 0 := by
  unfold F_Mo_reckonAll_b366 at h
  refine zi_goto (tgt := 10) d_Mo_reckonAll_366 rfl ?_
  refine zi_lo [(0, .ref a0), (2, .int x2), (3, .int x3), (4, .int x4)] [0, 1, 2, 3] rfl ?_
  exact hr10 a0 x2 x3 x4 M h
theorem K_Mo_reckonAll_b220 (n : Nat) (E : zE) (S : zS) (r10 : Nat × Int32 × Int32 × Int32 × zH → Option (zH)) (a0 : Nat) (x2 : Int32) (x3 : Int32) (x4 : Int32) (t0 : Int64) (s1 : Int32) (u2 : Nat) (M : zH) (M' : zH) (hr10 : ∀ (a0 : Nat) (x2 : Int32) (x3 : Int32) (x4 : Int32) (M : zH), r10 (a0, x2, x3, x4, M) = some M' → zG E Y_Mo_reckonAll (none, S, M') 10 [(0, .ref a0), (2, .int x2), (3, .int x3), (4, .int x4)] [] S M 0 0) (h : F_Mo_reckonAll_b220 n E S r10 a0 x2 x3 x4 t0 s1 u2 M = some M') : zG E Y_Mo_reckonAll (none, S, M') 220 [(0, .ref a0), (2, .int x2), (3, .int x3), (4, .int x4)] [.long t0, .int s1, .ref u2] S M 0 0 := by
  unfold F_Mo_reckonAll_b220 at h
  obtain ⟨m_1, em_1, h⟩ := zbind h
  refine zo_last 221 d_Mo_reckonAll_220 em_1 rfl ?_
  refine zi_iinc 2 (x3 + 1) [(3, .int (x3 + 1)), (0, .ref a0), (2, .int x2), (4, .int x4)] d_Mo_reckonAll_221 rfl rfl (by decide) rfl ?_
  refine zi_goto (tgt := 366) d_Mo_reckonAll_224 rfl ?_
  refine zi_lo [(0, .ref a0), (2, .int x2), (3, .int (x3 + 1)), (4, .int x4)] [1, 2, 0, 3] rfl ?_
  exact K_Mo_reckonAll_b366 n E S r10 a0 x2 (x3 + 1) x4 m_1 M' hr10 h
theorem K_Mo_reckonAll_b298 (n : Nat) (E : zE) (S : zS) (r10 : Nat × Int32 × Int32 × Int32 × zH → Option (zH)) (a0 : Nat) (x2 : Int32) (x3 : Int32) (x4 : Int32) (s0 : Int32) (u1 : Nat) (M : zH) (M' : zH) (hr10 : ∀ (a0 : Nat) (x2 : Int32) (x3 : Int32) (x4 : Int32) (M : zH), r10 (a0, x2, x3, x4, M) = some M' → zG E Y_Mo_reckonAll (none, S, M') 10 [(0, .ref a0), (2, .int x2), (3, .int x3), (4, .int x4)] [] S M 0 0) (h : F_Mo_reckonAll_b298 n E S r10 a0 x2 x3 x4 s0 u1 M = some M') : zG E Y_Mo_reckonAll (none, S, M') 298 [(0, .ref a0), (2, .int x2), (3, .int x3), (4, .int x4)] [.int s0, .ref u1] S M 0 0 := by
  unfold F_Mo_reckonAll_b298 at h
  obtain ⟨m_2, em_2, h⟩ := zbind h
  refine zo_putZ 301 zkd_11 38 d_Mo_reckonAll_298 em_2 rfl rfl rfl tw_1267 rfl ?_
  refine zi_goto (tgt := 366) d_Mo_reckonAll_301 rfl ?_
  refine zi_lo [(0, .ref a0), (2, .int x2), (3, .int x3), (4, .int x4)] [0, 1, 2, 3] rfl ?_
  exact K_Mo_reckonAll_b366 n E S r10 a0 x2 x3 x4 m_2 M' hr10 h
theorem K_Mo_reckonAll_b293 (n : Nat) (E : zE) (S : zS) (r10 : Nat × Int32 × Int32 × Int32 × zH → Option (zH)) (a0 : Nat) (x2 : Int32) (x3 : Int32) (x4 : Int32) (u0 : Nat) (M : zH) (M' : zH) (hr10 : ∀ (a0 : Nat) (x2 : Int32) (x3 : Int32) (x4 : Int32) (M : zH), r10 (a0, x2, x3, x4, M) = some M' → zG E Y_Mo_reckonAll (none, S, M') 10 [(0, .ref a0), (2, .int x2), (3, .int x3), (4, .int x4)] [] S M 0 0) (h : F_Mo_reckonAll_b293 n E S r10 a0 x2 x3 x4 u0 M = some M') : zG E Y_Mo_reckonAll (none, S, M') 293 [(0, .ref a0), (2, .int x2), (3, .int x3), (4, .int x4)] [.ref u0] S M 0 0 := by
  unfold F_Mo_reckonAll_b293 at h
  refine zi_iconst 1 d_Mo_reckonAll_293 rfl ?_
  refine zi_goto (tgt := 298) d_Mo_reckonAll_294 rfl ?_
  refine zi_lo [(0, .ref a0), (2, .int x2), (3, .int x3), (4, .int x4)] [0, 1, 2, 3] rfl ?_
  exact K_Mo_reckonAll_b298 n E S r10 a0 x2 x3 x4 1 u0 M M' hr10 h
theorem K_Mo_reckonAll_b352 (n : Nat) (E : zE) (S : zS) (r10 : Nat × Int32 × Int32 × Int32 × zH → Option (zH)) (a0 : Nat) (x2 : Int32) (x3 : Int32) (x4 : Int32) (x6 : Int32) (t0 : Int64) (t1 : Int64) (M : zH) (M' : zH) (hr10 : ∀ (a0 : Nat) (x2 : Int32) (x3 : Int32) (x4 : Int32) (M : zH), r10 (a0, x2, x3, x4, M) = some M' → zG E Y_Mo_reckonAll (none, S, M') 10 [(0, .ref a0), (2, .int x2), (3, .int x3), (4, .int x4)] [] S M 0 0) (h : F_Mo_reckonAll_b352 n E S r10 a0 x2 x3 x4 x6 t0 t1 M = some M') : zG E Y_Mo_reckonAll (none, S, M') 352 [(0, .ref a0), (2, .int x2), (3, .int x3), (4, .int x4), (6, .int x6)] [.long t0, .long t1] S M 0 0 := by
  unfold F_Mo_reckonAll_b352 at h
  refine zo_lc_ne d_Mo_reckonAll_352 d_Mo_reckonAll_353 rfl 356 rfl (fun c_3 => ?_) (fun c_3 => ?_)
  · rw [if_neg c_3] at h
    refine zi_iinc 2 (x3 + (-1)) [(3, .int (x3 + (-1))), (0, .ref a0), (2, .int x2), (4, .int x4), (6, .int x6)] d_Mo_reckonAll_363 rfl rfl (by decide) rfl ?_
    refine zi_lo [(0, .ref a0), (2, .int x2), (3, .int (x3 + (-1))), (4, .int x4)] [1, 2, 0, 3] rfl ?_
    exact K_Mo_reckonAll_b366 n E S r10 a0 x2 (x3 + (-1)) x4 M M' hr10 h
  · rw [if_pos c_3] at h
    refine zi_iload 4 d_Mo_reckonAll_356 rfl ?_
    refine zi_istore [(4, .int x6), (0, .ref a0), (2, .int x2), (3, .int x3), (6, .int x6)] d_Mo_reckonAll_358 (by decide) rfl ?_
    refine zi_goto (tgt := 366) d_Mo_reckonAll_360 rfl ?_
    refine zi_lo [(0, .ref a0), (2, .int x2), (3, .int x3), (4, .int x6)] [1, 2, 3, 0] rfl ?_
    exact K_Mo_reckonAll_b366 n E S r10 a0 x2 x3 x6 M M' hr10 h
theorem K_Mo_reckonAll_b95 (n : Nat) (E : zE) (S : zS) (r10 : Nat × Int32 × Int32 × Int32 × zH → Option (zH)) (a0 : Nat) (x2 : Int32) (x3 : Int32) (x4 : Int32) (x5 : Int32) (s0 : Int32) (M : zH) (M' : zH) (hr10 : ∀ (a0 : Nat) (x2 : Int32) (x3 : Int32) (x4 : Int32) (M : zH), r10 (a0, x2, x3, x4, M) = some M' → zG E Y_Mo_reckonAll (none, S, M') 10 [(0, .ref a0), (2, .int x2), (3, .int x3), (4, .int x4)] [] S M 0 0) (h : F_Mo_reckonAll_b95 n E S r10 a0 x2 x3 x4 x5 s0 M = some M') : zG E Y_Mo_reckonAll (none, S, M') 95 [(0, .ref a0), (2, .int x2), (3, .int x3), (4, .int x4), (5, .int x5)] [.int s0] S M 0 0 := by
  unfold F_Mo_reckonAll_b95 at h
  refine zi_istore [(6, .int s0), (0, .ref a0), (2, .int x2), (3, .int x3), (4, .int x4), (5, .int x5)] d_Mo_reckonAll_95 (by decide) rfl ?_
  refine zi_iinc 4 (x4 + 1) [(4, .int (x4 + 1)), (6, .int s0), (0, .ref a0), (2, .int x2), (3, .int x3), (5, .int x5)] d_Mo_reckonAll_97 rfl rfl (by decide) rfl ?_
  refine zi_iload 5 d_Mo_reckonAll_100 rfl ?_
  refine zi_bipush 20 d_Mo_reckonAll_102 rfl ?_
  refine zi_icmp_ge (tgt := 227) d_Mo_reckonAll_104 rfl (fun c_4 => ?_) (fun c_4 => ?_)
  · rw [if_pos c_4] at h
    refine zi_iload 5 d_Mo_reckonAll_227 rfl ?_
    refine zi_bipush 28 d_Mo_reckonAll_229 rfl ?_
    refine zi_icmp_ge (tgt := 304) d_Mo_reckonAll_231 rfl (fun c_5 => ?_) (fun c_5 => ?_)
    · rw [if_pos c_5] at h
      refine zi_iload 5 d_Mo_reckonAll_304 rfl ?_
      refine zi_bipush 28 d_Mo_reckonAll_306 rfl ?_
      refine zi_icmp_ne (tgt := 332) d_Mo_reckonAll_308 rfl (fun c_6 => ?_) (fun c_6 => ?_)
      · rw [if_neg c_6] at h
        refine zi_aload_n 2 d_Mo_reckonAll_332 rfl ?_
        obtain ⟨b_10, eb_10, h⟩ := zbind h
        refine zo_getR 336 zkd_11 37 d_Mo_reckonAll_333 eb_10 rfl tw_1266 rfl ?_
        refine zi_iload_n 4 d_Mo_reckonAll_336 rfl ?_
        refine zi_iconst 1 d_Mo_reckonAll_337 rfl ?_
        refine zi_isub d_Mo_reckonAll_338 ?_
        obtain ⟨v_11, ev_11, h⟩ := zbind h
        refine zo_lald 340 d_Mo_reckonAll_339 ev_11 rfl ?_
        refine zi_iload 5 d_Mo_reckonAll_340 rfl ?_
        refine zi_bipush 29 d_Mo_reckonAll_342 rfl ?_
        refine zi_icmp_ne (tgt := 351) d_Mo_reckonAll_344 rfl (fun c_12 => ?_) (fun c_12 => ?_)
        · rw [if_neg c_12] at h
          refine zi_lconst 1 d_Mo_reckonAll_351 rfl ?_
          refine zi_lo [(0, .ref a0), (2, .int x2), (3, .int x3), (4, .int (x4 + 1)), (6, .int s0)] [2, 3, 4, 0, 1] rfl ?_
          exact K_Mo_reckonAll_b352 n E S r10 a0 x2 x3 (x4 + 1) s0 1 v_11 M M' hr10 h
        · rw [if_pos c_12] at h
          refine zi_lconst 0 d_Mo_reckonAll_347 rfl ?_
          refine zi_goto (tgt := 352) d_Mo_reckonAll_348 rfl ?_
          refine zi_lo [(0, .ref a0), (2, .int x2), (3, .int x3), (4, .int (x4 + 1)), (6, .int s0)] [2, 3, 4, 0, 1] rfl ?_
          exact K_Mo_reckonAll_b352 n E S r10 a0 x2 x3 (x4 + 1) s0 0 v_11 M M' hr10 h
      · rw [if_pos c_6] at h
        refine zi_aload_n 2 d_Mo_reckonAll_311 rfl ?_
        obtain ⟨b_7, eb_7, h⟩ := zbind h
        refine zo_getR 315 zkd_11 37 d_Mo_reckonAll_312 eb_7 rfl tw_1266 rfl ?_
        refine zi_iload_n 4 d_Mo_reckonAll_315 rfl ?_
        refine zi_iconst 1 d_Mo_reckonAll_316 rfl ?_
        refine zi_isub d_Mo_reckonAll_317 ?_
        refine zi_lconst 1 d_Mo_reckonAll_318 rfl ?_
        refine zi_aload_n 2 d_Mo_reckonAll_319 rfl ?_
        refine zo_getR 323 zkd_11 37 d_Mo_reckonAll_320 eb_7 rfl tw_1266 rfl ?_
        refine zi_iload_n 4 d_Mo_reckonAll_323 rfl ?_
        refine zi_iconst 1 d_Mo_reckonAll_324 rfl ?_
        refine zi_isub d_Mo_reckonAll_325 ?_
        obtain ⟨v_8, ev_8, h⟩ := zbind h
        refine zo_lald 327 d_Mo_reckonAll_326 ev_8 rfl ?_
        refine zi_lsub d_Mo_reckonAll_327 ?_
        obtain ⟨m_9, em_9, h⟩ := zbind h
        refine zo_last 329 d_Mo_reckonAll_328 em_9 rfl ?_
        refine zi_goto (tgt := 366) d_Mo_reckonAll_329 rfl ?_
        refine zi_lo [(0, .ref a0), (2, .int x2), (3, .int x3), (4, .int (x4 + 1))] [2, 3, 4, 0] rfl ?_
        exact K_Mo_reckonAll_b366 n E S r10 a0 x2 x3 (x4 + 1) m_9 M' hr10 h
    · rw [if_neg c_5] at h
      refine zi_iinc 4 (x3 + (-1)) [(3, .int (x3 + (-1))), (4, .int (x4 + 1)), (6, .int s0), (0, .ref a0), (2, .int x2), (5, .int x5)] d_Mo_reckonAll_234 rfl rfl (by decide) rfl ?_
      refine zi_aload_n 3 d_Mo_reckonAll_237 rfl ?_
      obtain ⟨b_13, eb_13, h⟩ := zbind h
      refine zo_getR 241 zkd_11 37 d_Mo_reckonAll_238 eb_13 rfl tw_1266 rfl ?_
      refine zi_iload_n 0 d_Mo_reckonAll_241 rfl ?_
      refine zi_iconst 1 d_Mo_reckonAll_242 rfl ?_
      refine zi_isub d_Mo_reckonAll_243 ?_
      refine zi_aload_n 3 d_Mo_reckonAll_244 rfl ?_
      refine zi_iload 5 d_Mo_reckonAll_245 rfl ?_
      refine zi_aload_n 3 d_Mo_reckonAll_247 rfl ?_
      refine zo_getR 251 zkd_11 37 d_Mo_reckonAll_248 eb_13 rfl tw_1266 rfl ?_
      refine zi_iload_n 0 d_Mo_reckonAll_251 rfl ?_
      refine zi_iconst 1 d_Mo_reckonAll_252 rfl ?_
      refine zi_isub d_Mo_reckonAll_253 ?_
      obtain ⟨v_14, ev_14, h⟩ := zbind h
      refine zo_lald 255 d_Mo_reckonAll_254 ev_14 rfl ?_
      refine zi_aload_n 3 d_Mo_reckonAll_255 rfl ?_
      refine zo_getR 259 zkd_11 37 d_Mo_reckonAll_256 eb_13 rfl tw_1266 rfl ?_
      refine zi_iload_n 0 d_Mo_reckonAll_259 rfl ?_
      obtain ⟨v_15, ev_15, h⟩ := zbind h
      refine zo_lald 261 d_Mo_reckonAll_260 ev_15 rfl ?_
      obtain ⟨q_16, eq_16, h⟩ := zbind h
      refine zo_virt (k' := 0) (n' := 0) 264 [.int x5, .long v_14, .long v_15] [.int ((x3 + (-1)) - 1), .ref b_13] [.long q_16.1, .int ((x3 + (-1)) - 1), .ref b_13] zkd_11 (zgR_s eb_13).1 (C_Mo_reckon n E S a0 x5 v_14 v_15 M q_16.1 q_16.2 eq_16) d_Mo_reckonAll_261 tw_1467 tw_1464 tw_1466 ts_44 tw_13 dd_Mo_reckon ⟨Nat.le_of_ble_eq_true rfl, Nat.le_of_ble_eq_true rfl, Nat.le_of_ble_eq_true rfl, Nat.le_of_ble_eq_true rfl⟩ (Nat.le_of_ble_eq_true rfl) rfl rfl rfl rfl ?_
      obtain ⟨m_17, em_17, h⟩ := zbind h
      refine zo_last 265 d_Mo_reckonAll_264 em_17 rfl ?_
      refine zi_aload_n 3 d_Mo_reckonAll_265 rfl ?_
      refine zi_aload_n 3 d_Mo_reckonAll_266 rfl ?_
      obtain ⟨v_18, ev_18, h⟩ := zbind h
      refine zo_getI 270 zkd_11 38 d_Mo_reckonAll_267 ev_18 rfl tw_1267 rfl ?_
      refine zi_if_ne (tgt := 293) d_Mo_reckonAll_270 rfl (fun c_19 => ?_) (fun c_19 => ?_)
      · rw [if_neg c_19] at h
        refine zi_lo [(0, .ref a0), (2, .int x2), (3, .int (x3 + (-1))), (4, .int (x4 + 1))] [3, 4, 0, 1] rfl ?_
        exact K_Mo_reckonAll_b293 n E S r10 a0 x2 (x3 + (-1)) (x4 + 1) a0 m_17 M' hr10 h
      · rw [if_pos c_19] at h
        refine zi_aload_n 3 d_Mo_reckonAll_273 rfl ?_
        refine zo_getR 277 zkd_11 37 d_Mo_reckonAll_274 eb_13 rfl tw_1266 rfl ?_
        refine zi_iload_n 0 d_Mo_reckonAll_277 rfl ?_
        refine zi_iconst 1 d_Mo_reckonAll_278 rfl ?_
        refine zi_isub d_Mo_reckonAll_279 ?_
        obtain ⟨v_20, ev_20, h⟩ := zbind h
        refine zo_lald 281 d_Mo_reckonAll_280 ev_20 rfl ?_
        refine zi_ldc2 d_Mo_reckonAll_281 tw_1468 ?_
        refine zi_ldc2 d_Mo_reckonAll_284 tw_1469 ?_
        obtain ⟨q_21, eq_21, h⟩ := zbind h
        refine zo_stat (k' := 0) (n' := 0) 290 [.long v_20, .long (-1000000000), .long 1000000000] [.ref a0] [.int (bI q_21.1), .ref a0] (C_Mo_in n E S v_20 (-1000000000) 1000000000 m_17 q_21.1 q_21.2 eq_21) d_Mo_reckonAll_287 tw_1419 tw_1417 tw_1418 tw_13 dd_Mo_in ⟨Nat.le_of_ble_eq_true rfl, Nat.le_of_ble_eq_true rfl, Nat.le_of_ble_eq_true rfl, Nat.le_of_ble_eq_true rfl⟩ (Nat.le_of_ble_eq_true rfl) rfl rfl rfl rfl ?_
        refine zo_ifneB d_Mo_reckonAll_290 rfl 293 rfl (fun c_22 => ?_) (fun c_22 => ?_)
        · rw [if_pos c_22] at h
          refine zi_iconst 0 d_Mo_reckonAll_297 rfl ?_
          refine zi_lo [(0, .ref a0), (2, .int x2), (3, .int (x3 + (-1))), (4, .int (x4 + 1))] [3, 4, 0, 1] rfl ?_
          exact K_Mo_reckonAll_b298 n E S r10 a0 x2 (x3 + (-1)) (x4 + 1) 0 a0 q_21.2 M' hr10 h
        · rw [if_neg c_22] at h
          refine zi_lo [(0, .ref a0), (2, .int x2), (3, .int (x3 + (-1))), (4, .int (x4 + 1))] [3, 4, 0, 1] rfl ?_
          exact K_Mo_reckonAll_b293 n E S r10 a0 x2 (x3 + (-1)) (x4 + 1) a0 q_21.2 M' hr10 h
  · rw [if_neg c_4] at h
    refine zi_aload_n 2 d_Mo_reckonAll_107 rfl ?_
    obtain ⟨b_23, eb_23, h⟩ := zbind h
    refine zo_getR 111 zkd_11 37 d_Mo_reckonAll_108 eb_23 rfl tw_1266 rfl ?_
    refine zi_iload_n 4 d_Mo_reckonAll_111 rfl ?_
    refine zi_iload 5 d_Mo_reckonAll_112 rfl ?_
    refine zi_if_ne (tgt := 123) d_Mo_reckonAll_114 rfl (fun c_24 => ?_) (fun c_24 => ?_)
    · rw [if_neg c_24] at h
      refine zi_aload_n 2 d_Mo_reckonAll_123 rfl ?_
      obtain ⟨v_25, ev_25, h⟩ := zbind h
      refine zo_getI 127 zkd_11 20 d_Mo_reckonAll_124 ev_25 rfl tw_1249 rfl ?_
      refine zi_if_ne (tgt := 140) d_Mo_reckonAll_127 rfl (fun c_26 => ?_) (fun c_26 => ?_)
      · rw [if_neg c_26] at h
        refine zi_iload 5 d_Mo_reckonAll_140 rfl ?_
        refine zi_iconst 5 d_Mo_reckonAll_142 rfl ?_
        refine zi_icmp_ge (tgt := 156) d_Mo_reckonAll_143 rfl (fun c_29 => ?_) (fun c_29 => ?_)
        · rw [if_pos c_29] at h
          refine zi_iload 5 d_Mo_reckonAll_156 rfl ?_
          refine zi_iconst 5 d_Mo_reckonAll_158 rfl ?_
          refine zi_icmp_ne (tgt := 176) d_Mo_reckonAll_159 rfl (fun c_30 => ?_) (fun c_30 => ?_)
          · rw [if_neg c_30] at h
            refine zi_iload 5 d_Mo_reckonAll_176 rfl ?_
            refine zi_bipush 6 d_Mo_reckonAll_178 rfl ?_
            refine zi_icmp_le (tgt := 194) d_Mo_reckonAll_180 rfl (fun c_33 => ?_) (fun c_33 => ?_)
            · rw [if_pos c_33] at h
              refine zi_aload_n 2 d_Mo_reckonAll_194 rfl ?_
              refine zi_iload 1 d_Mo_reckonAll_195 rfl ?_
              obtain ⟨q_34, eq_34, h⟩ := zbind h
              refine zo_virt (k' := 0) (n' := 0) 200 [.int s0] [.int x3, .ref b_23] [.int (bI q_34.1), .int x3, .ref b_23] zkd_11 (zgR_s eb_23).1 (C_Mo_isBucket n E S a0 s0 M q_34.1 q_34.2 eq_34) d_Mo_reckonAll_197 tw_1463 tw_1460 tw_1462 ts_43 tw_13 dd_Mo_isBucket ⟨Nat.le_of_ble_eq_true rfl, Nat.le_of_ble_eq_true rfl, Nat.le_of_ble_eq_true rfl, Nat.le_of_ble_eq_true rfl⟩ (Nat.le_of_ble_eq_true rfl) rfl rfl rfl rfl ?_
              refine zo_ifeqB d_Mo_reckonAll_200 rfl 203 rfl (fun c_35 => ?_) (fun c_35 => ?_)
              · rw [if_neg c_35] at h
                refine zi_ldc2 d_Mo_reckonAll_217 tw_1447 ?_
                refine zi_lo [(0, .ref a0), (2, .int x2), (3, .int x3), (4, .int (x4 + 1))] [2, 3, 4, 0] rfl ?_
                exact K_Mo_reckonAll_b220 n E S r10 a0 x2 x3 (x4 + 1) (-1) x3 b_23 q_34.2 M' hr10 h
              · rw [if_pos c_35] at h
                refine zi_aload_n 2 d_Mo_reckonAll_203 rfl ?_
                obtain ⟨b_36, eb_36, h⟩ := zbind h
                refine zo_getR 207 zkd_11 3 d_Mo_reckonAll_204 eb_36 rfl tw_1232 rfl ?_
                refine zi_bipush 48 d_Mo_reckonAll_207 rfl ?_
                refine zi_iload 1 d_Mo_reckonAll_209 rfl ?_
                refine zi_iadd d_Mo_reckonAll_211 ?_
                obtain ⟨v_37, ev_37, h⟩ := zbind h
                refine zo_iald 213 d_Mo_reckonAll_212 ev_37 rfl ?_
                refine zi_i2l d_Mo_reckonAll_213 ?_
                refine zi_goto (tgt := 220) d_Mo_reckonAll_214 rfl ?_
                refine zi_lo [(0, .ref a0), (2, .int x2), (3, .int x3), (4, .int (x4 + 1))] [2, 3, 4, 0] rfl ?_
                exact K_Mo_reckonAll_b220 n E S r10 a0 x2 x3 (x4 + 1) v_37.toInt64 x3 b_23 q_34.2 M' hr10 h
            · rw [if_neg c_33] at h
              refine zi_aload_n 2 d_Mo_reckonAll_183 rfl ?_
              obtain ⟨b_38, eb_38, h⟩ := zbind h
              refine zo_getR 187 zkd_11 41 d_Mo_reckonAll_184 eb_38 rfl tw_1270 rfl ?_
              refine zi_iload 1 d_Mo_reckonAll_187 rfl ?_
              obtain ⟨v_39, ev_39, h⟩ := zbind h
              refine zo_iald 190 d_Mo_reckonAll_189 ev_39 rfl ?_
              refine zi_i2l d_Mo_reckonAll_190 ?_
              refine zi_goto (tgt := 220) d_Mo_reckonAll_191 rfl ?_
              refine zi_lo [(0, .ref a0), (2, .int x2), (3, .int x3), (4, .int (x4 + 1))] [2, 3, 4, 0] rfl ?_
              exact K_Mo_reckonAll_b220 n E S r10 a0 x2 x3 (x4 + 1) v_39.toInt64 x3 b_23 M M' hr10 h
          · rw [if_pos c_30] at h
            refine zi_aload_n 2 d_Mo_reckonAll_162 rfl ?_
            obtain ⟨b_31, eb_31, h⟩ := zbind h
            refine zo_getR 166 zkd_11 3 d_Mo_reckonAll_163 eb_31 rfl tw_1232 rfl ?_
            refine zi_bipush 8 d_Mo_reckonAll_166 rfl ?_
            refine zi_iload 1 d_Mo_reckonAll_168 rfl ?_
            refine zi_iadd d_Mo_reckonAll_170 ?_
            obtain ⟨v_32, ev_32, h⟩ := zbind h
            refine zo_iald 172 d_Mo_reckonAll_171 ev_32 rfl ?_
            refine zi_i2l d_Mo_reckonAll_172 ?_
            refine zi_goto (tgt := 220) d_Mo_reckonAll_173 rfl ?_
            refine zi_lo [(0, .ref a0), (2, .int x2), (3, .int x3), (4, .int (x4 + 1))] [2, 3, 4, 0] rfl ?_
            exact K_Mo_reckonAll_b220 n E S r10 a0 x2 x3 (x4 + 1) v_32.toInt64 x3 b_23 M M' hr10 h
        · rw [if_neg c_29] at h
          refine zi_aload_n 2 d_Mo_reckonAll_146 rfl ?_
          obtain ⟨b_40, eb_40, h⟩ := zbind h
          refine zo_getR 150 zkd_11 36 d_Mo_reckonAll_147 eb_40 rfl tw_1265 rfl ?_
          refine zi_iload 5 d_Mo_reckonAll_150 rfl ?_
          obtain ⟨v_41, ev_41, h⟩ := zbind h
          refine zo_lald 153 d_Mo_reckonAll_152 ev_41 rfl ?_
          refine zi_goto (tgt := 220) d_Mo_reckonAll_153 rfl ?_
          refine zi_lo [(0, .ref a0), (2, .int x2), (3, .int x3), (4, .int (x4 + 1))] [2, 3, 4, 0] rfl ?_
          exact K_Mo_reckonAll_b220 n E S r10 a0 x2 x3 (x4 + 1) v_41 x3 b_23 M M' hr10 h
      · rw [if_pos c_26] at h
        refine zi_aload_n 2 d_Mo_reckonAll_130 rfl ?_
        obtain ⟨b_27, eb_27, h⟩ := zbind h
        refine zo_getR 134 zkd_11 35 d_Mo_reckonAll_131 eb_27 rfl tw_1264 rfl ?_
        refine zi_iload 5 d_Mo_reckonAll_134 rfl ?_
        obtain ⟨v_28, ev_28, h⟩ := zbind h
        refine zo_lald 137 d_Mo_reckonAll_136 ev_28 rfl ?_
        refine zi_goto (tgt := 220) d_Mo_reckonAll_137 rfl ?_
        refine zi_lo [(0, .ref a0), (2, .int x2), (3, .int x3), (4, .int (x4 + 1))] [2, 3, 4, 0] rfl ?_
        exact K_Mo_reckonAll_b220 n E S r10 a0 x2 x3 (x4 + 1) v_28 x3 b_23 M M' hr10 h
    · rw [if_pos c_24] at h
      refine zi_iload 1 d_Mo_reckonAll_117 rfl ?_
      refine zi_i2l d_Mo_reckonAll_119 ?_
      refine zi_goto (tgt := 220) d_Mo_reckonAll_120 rfl ?_
      refine zi_lo [(0, .ref a0), (2, .int x2), (3, .int x3), (4, .int (x4 + 1))] [2, 3, 4, 0] rfl ?_
      exact K_Mo_reckonAll_b220 n E S r10 a0 x2 x3 (x4 + 1) s0.toInt64 x3 b_23 M M' hr10 h
theorem K_Mo_reckonAll_b57 (n : Nat) (E : zE) (S : zS) (r10 : Nat × Int32 × Int32 × Int32 × zH → Option (zH)) (a0 : Nat) (x2 : Int32) (x3 : Int32) (x4 : Int32) (s0 : Int32) (M : zH) (M' : zH) (hr10 : ∀ (a0 : Nat) (x2 : Int32) (x3 : Int32) (x4 : Int32) (M : zH), r10 (a0, x2, x3, x4, M) = some M' → zG E Y_Mo_reckonAll (none, S, M') 10 [(0, .ref a0), (2, .int x2), (3, .int x3), (4, .int x4)] [] S M 0 0) (h : F_Mo_reckonAll_b57 n E S r10 a0 x2 x3 x4 s0 M = some M') : zG E Y_Mo_reckonAll (none, S, M') 57 [(0, .ref a0), (2, .int x2), (3, .int x3), (4, .int x4)] [.int s0] S M 0 0 := by
  unfold F_Mo_reckonAll_b57 at h
  refine zi_istore [(5, .int s0), (0, .ref a0), (2, .int x2), (3, .int x3), (4, .int x4)] d_Mo_reckonAll_57 (by decide) rfl ?_
  refine zi_aload_n 1 d_Mo_reckonAll_59 rfl ?_
  obtain ⟨v_42, ev_42, h⟩ := zbind h
  refine zo_getI 63 zkd_11 20 d_Mo_reckonAll_60 ev_42 rfl tw_1249 rfl ?_
  refine zi_if_eq (tgt := 76) d_Mo_reckonAll_63 rfl (fun c_43 => ?_) (fun c_43 => ?_)
  · rw [if_pos c_43] at h
    refine zi_aload_n 1 d_Mo_reckonAll_76 rfl ?_
    obtain ⟨b_44, eb_44, h⟩ := zbind h
    refine zo_getR 80 zkd_11 3 d_Mo_reckonAll_77 eb_44 rfl tw_1232 rfl ?_
    refine zi_aload_n 1 d_Mo_reckonAll_80 rfl ?_
    obtain ⟨v_45, ev_45, h⟩ := zbind h
    refine zo_getI 84 zkd_11 34 d_Mo_reckonAll_81 ev_45 rfl tw_1263 rfl ?_
    refine zi_bipush 98 d_Mo_reckonAll_84 rfl ?_
    refine zi_iadd d_Mo_reckonAll_86 ?_
    refine zi_iconst 2 d_Mo_reckonAll_87 rfl ?_
    refine zi_iload 4 d_Mo_reckonAll_88 rfl ?_
    refine zi_imul d_Mo_reckonAll_90 ?_
    refine zi_iadd d_Mo_reckonAll_91 ?_
    refine zi_iconst 1 d_Mo_reckonAll_92 rfl ?_
    refine zi_iadd d_Mo_reckonAll_93 ?_
    obtain ⟨v_46, ev_46, h⟩ := zbind h
    refine zo_iald 95 d_Mo_reckonAll_94 ev_46 rfl ?_
    refine zi_lo [(0, .ref a0), (2, .int x2), (3, .int x3), (4, .int x4), (5, .int s0)] [1, 2, 3, 4, 0] rfl ?_
    exact K_Mo_reckonAll_b95 n E S r10 a0 x2 x3 x4 s0 v_46 M M' hr10 h
  · rw [if_neg c_43] at h
    refine zi_aload_n 1 d_Mo_reckonAll_66 rfl ?_
    obtain ⟨b_47, eb_47, h⟩ := zbind h
    refine zo_getR 70 zkd_11 25 d_Mo_reckonAll_67 eb_47 rfl tw_1254 rfl ?_
    refine zi_iload 4 d_Mo_reckonAll_70 rfl ?_
    obtain ⟨v_48, ev_48, h⟩ := zbind h
    refine zo_iald 73 d_Mo_reckonAll_72 ev_48 rfl ?_
    refine zi_goto (tgt := 95) d_Mo_reckonAll_73 rfl ?_
    refine zi_lo [(0, .ref a0), (2, .int x2), (3, .int x3), (4, .int x4), (5, .int s0)] [1, 2, 3, 4, 0] rfl ?_
    exact K_Mo_reckonAll_b95 n E S r10 a0 x2 x3 x4 s0 v_48 M M' hr10 h
theorem K_Mo_reckonAll_b384 (n : Nat) (E : zE) (S : zS) (t0 : Int64) (u1 : Nat) (M : zH) (M' : zH)  (h : F_Mo_reckonAll_b384 n E S t0 u1 M = some M') : zG E Y_Mo_reckonAll (none, S, M') 384 [] [.long t0, .ref u1] S M 0 0 := by
  unfold F_Mo_reckonAll_b384 at h
  obtain ⟨m_49, em_49, h⟩ := zbind h
  refine zo_putJ 387 zkd_11 39 d_Mo_reckonAll_384 em_49 rfl rfl rfl tw_1268 rfl ?_
  cases h
  exact zo_ret d_Mo_reckonAll_387 (Nat.le_of_ble_eq_true rfl) (Nat.le_of_ble_eq_true rfl) rfl
theorem K_Mo_reckonAll_b369 (n : Nat) (E : zE) (S : zS) (a0 : Nat) (x3 : Int32) (M : zH) (M' : zH)  (h : F_Mo_reckonAll_b369 n E S a0 x3 M = some M') : zG E Y_Mo_reckonAll (none, S, M') 369 [(0, .ref a0), (3, .int x3)] [] S M 0 0 := by
  unfold F_Mo_reckonAll_b369 at h
  refine zi_aload_n 0 d_Mo_reckonAll_369 rfl ?_
  refine zi_iload_n 1 d_Mo_reckonAll_370 rfl ?_
  refine zi_if_le (tgt := 383) d_Mo_reckonAll_371 rfl (fun c_50 => ?_) (fun c_50 => ?_)
  · rw [if_pos c_50] at h
    refine zi_lconst 0 d_Mo_reckonAll_383 rfl ?_
    refine zi_lo [] [] rfl ?_
    exact K_Mo_reckonAll_b384 n E S 0 a0 M M'  h
  · rw [if_neg c_50] at h
    refine zi_aload_n 0 d_Mo_reckonAll_374 rfl ?_
    obtain ⟨b_51, eb_51, h⟩ := zbind h
    refine zo_getR 378 zkd_11 37 d_Mo_reckonAll_375 eb_51 rfl tw_1266 rfl ?_
    refine zi_iconst 0 d_Mo_reckonAll_378 rfl ?_
    obtain ⟨v_52, ev_52, h⟩ := zbind h
    refine zo_lald 380 d_Mo_reckonAll_379 ev_52 rfl ?_
    refine zi_goto (tgt := 384) d_Mo_reckonAll_380 rfl ?_
    refine zi_lo [] [] rfl ?_
    exact K_Mo_reckonAll_b384 n E S v_52 a0 M M'  h
theorem K_Mo_reckonAll_L10 (n : Nat) (E : zE) (S : zS) (r10 : Nat × Int32 × Int32 × Int32 × zH → Option (zH)) (a0 : Nat) (x2 : Int32) (x3 : Int32) (x4 : Int32) (M : zH) (M' : zH) (hr10 : ∀ (a0 : Nat) (x2 : Int32) (x3 : Int32) (x4 : Int32) (M : zH), r10 (a0, x2, x3, x4, M) = some M' → zG E Y_Mo_reckonAll (none, S, M') 10 [(0, .ref a0), (2, .int x2), (3, .int x3), (4, .int x4)] [] S M 0 0) (h : F_Mo_reckonAll_L10 n E S r10 a0 x2 x3 x4 M = some M') : zG E Y_Mo_reckonAll (none, S, M') 10 [(0, .ref a0), (2, .int x2), (3, .int x3), (4, .int x4)] [] S M 0 0 := by
  unfold F_Mo_reckonAll_L10 at h
  refine zi_iload 3 d_Mo_reckonAll_10 rfl ?_
  refine zi_iload_n 1 d_Mo_reckonAll_12 rfl ?_
  refine zi_icmp_ge (tgt := 369) d_Mo_reckonAll_13 rfl (fun c_53 => ?_) (fun c_53 => ?_)
  · rw [if_pos c_53] at h
    refine zi_lo [(0, .ref a0), (3, .int x3)] [0, 2] rfl ?_
    exact K_Mo_reckonAll_b369 n E S a0 x3 M M'  h
  · rw [if_neg c_53] at h
    refine zi_aload_n 0 d_Mo_reckonAll_16 rfl ?_
    obtain ⟨v_54, ev_54, h⟩ := zbind h
    refine zo_getI 20 zkd_11 38 d_Mo_reckonAll_17 ev_54 rfl tw_1267 rfl ?_
    refine zi_if_ne (tgt := 369) d_Mo_reckonAll_20 rfl (fun c_55 => ?_) (fun c_55 => ?_)
    · rw [if_neg c_55] at h
      refine zi_lo [(0, .ref a0), (3, .int x3)] [0, 2] rfl ?_
      exact K_Mo_reckonAll_b369 n E S a0 x3 M M'  h
    · rw [if_pos c_55] at h
      refine zi_aload_n 0 d_Mo_reckonAll_23 rfl ?_
      obtain ⟨v_56, ev_56, h⟩ := zbind h
      refine zo_getI 27 zkd_11 20 d_Mo_reckonAll_24 ev_56 rfl tw_1249 rfl ?_
      refine zi_if_eq (tgt := 40) d_Mo_reckonAll_27 rfl (fun c_57 => ?_) (fun c_57 => ?_)
      · rw [if_pos c_57] at h
        refine zi_aload_n 0 d_Mo_reckonAll_40 rfl ?_
        obtain ⟨b_58, eb_58, h⟩ := zbind h
        refine zo_getR 44 zkd_11 3 d_Mo_reckonAll_41 eb_58 rfl tw_1232 rfl ?_
        refine zi_aload_n 0 d_Mo_reckonAll_44 rfl ?_
        obtain ⟨v_59, ev_59, h⟩ := zbind h
        refine zo_getI 48 zkd_11 34 d_Mo_reckonAll_45 ev_59 rfl tw_1263 rfl ?_
        refine zi_bipush 98 d_Mo_reckonAll_48 rfl ?_
        refine zi_iadd d_Mo_reckonAll_50 ?_
        refine zi_iconst 2 d_Mo_reckonAll_51 rfl ?_
        refine zi_iload 3 d_Mo_reckonAll_52 rfl ?_
        refine zi_imul d_Mo_reckonAll_54 ?_
        refine zi_iadd d_Mo_reckonAll_55 ?_
        obtain ⟨v_60, ev_60, h⟩ := zbind h
        refine zo_iald 57 d_Mo_reckonAll_56 ev_60 rfl ?_
        refine zi_lo [(0, .ref a0), (2, .int x2), (3, .int x3), (4, .int x4)] [0, 1, 2, 3] rfl ?_
        exact K_Mo_reckonAll_b57 n E S r10 a0 x2 x3 x4 v_60 M M' hr10 h
      · rw [if_neg c_57] at h
        refine zi_aload_n 0 d_Mo_reckonAll_30 rfl ?_
        obtain ⟨b_61, eb_61, h⟩ := zbind h
        refine zo_getR 34 zkd_11 24 d_Mo_reckonAll_31 eb_61 rfl tw_1253 rfl ?_
        refine zi_iload 3 d_Mo_reckonAll_34 rfl ?_
        obtain ⟨v_62, ev_62, h⟩ := zbind h
        refine zo_iald 37 d_Mo_reckonAll_36 ev_62 rfl ?_
        refine zi_goto (tgt := 57) d_Mo_reckonAll_37 rfl ?_
        refine zi_lo [(0, .ref a0), (2, .int x2), (3, .int x3), (4, .int x4)] [0, 1, 2, 3] rfl ?_
        exact K_Mo_reckonAll_b57 n E S r10 a0 x2 x3 x4 v_62 M M' hr10 h
theorem K_Mo_reckonAll_b10 (n : Nat) (E : zE) (S : zS) (a0 : Nat) (x2 : Int32) (x3 : Int32) (x4 : Int32) (M : zH) (M' : zH)  (h : F_Mo_reckonAll_b10 n E S (a0, x2, x3, x4, M) = some M') : zG E Y_Mo_reckonAll (none, S, M') 10 [(0, .ref a0), (2, .int x2), (3, .int x3), (4, .int x4)] [] S M 0 0 := by
  have key : ∀ (k : Nat) (a0 : Nat) (x2 : Int32) (x3 : Int32) (x4 : Int32) (M : zH), zfix (fun r10 s => F_Mo_reckonAll_L10 n E S r10 s.1 s.2.1 s.2.2.1 s.2.2.2.1 s.2.2.2.2) k (a0, x2, x3, x4, M) = some M' → zG E Y_Mo_reckonAll (none, S, M') 10 [(0, .ref a0), (2, .int x2), (3, .int x3), (4, .int x4)] [] S M 0 0 := by
    intro k
    induction k with
    | zero => intro a0 x2 x3 x4 M h; cases h
    | succ k ih => intro a0 x2 x3 x4 M h; exact K_Mo_reckonAll_L10 n E S _ a0 x2 x3 x4 M M'  (fun a0 x2 x3 x4 M h => ih a0 x2 x3 x4 M h) h
  exact key n a0 x2 x3 x4 M h
theorem K_Mo_reckonAll (n : Nat) (E : zE) (S : zS) (a0 : Nat) (x1 : Int32) (x2 : Int32) (M : zH) (M' : zH)  (h : F_Mo_reckonAll n E S a0 x1 x2 M = some M') : zG E Y_Mo_reckonAll (none, S, M') 0 [(0, .ref a0), (1, .int x1), (2, .int x2)] [] S M 0 0 := by
  unfold F_Mo_reckonAll at h
  refine zi_aload_n 0 d_Mo_reckonAll_0 rfl ?_
  refine zi_iconst 0 d_Mo_reckonAll_1 rfl ?_
  obtain ⟨m_63, em_63, h⟩ := zbind h
  refine zo_putZ 5 zkd_11 38 d_Mo_reckonAll_2 em_63 rfl rfl rfl tw_1267 rfl ?_
  refine zi_iconst 0 d_Mo_reckonAll_5 rfl ?_
  refine zi_istore_n [(3, .int 0), (0, .ref a0), (1, .int x1), (2, .int x2)] d_Mo_reckonAll_6 (by decide) rfl ?_
  refine zi_iload_n 2 d_Mo_reckonAll_7 rfl ?_
  refine zi_istore [(4, .int x1), (3, .int 0), (0, .ref a0), (1, .int x1), (2, .int x2)] d_Mo_reckonAll_8 (by decide) rfl ?_
  refine zi_lo [(0, .ref a0), (2, .int x2), (3, .int 0), (4, .int x1)] [2, 4, 1, 0] rfl ?_
  exact K_Mo_reckonAll_b10 n E S a0 x2 0 x1 m_63 M'  h
theorem C_Mo_reckonAll (n : Nat) (E : zE) (S : zS) (a0 : Nat) (x1 : Int32) (x2 : Int32) (M : zH) (M' : zH) (h : F_Mo_reckonAll n E S a0 x1 x2 M = some M') : zC E Y_Mo_reckonAll [.ref a0, .int x1, .int x2] S M (none, S, M') :=
  zC.of (Or.inl (show plainName "NightColanderModel" = true by decide)) (Nat.le_of_ble_eq_true rfl) (trivial) (K_Mo_reckonAll n E S a0 x1 x2 M M' h)
theorem d_Mo_isSo_0 : decode (yB Y_Mo_isSo) 0 = .ok (.aload_n 0, 1) := by decide +kernel
theorem d_Mo_isSo_1 : decode (yB Y_Mo_isSo) 1 = .ok (.getfield 13, 3) := by decide +kernel
theorem d_Mo_isSo_4 : decode (yB Y_Mo_isSo) 4 = .ok (.iload_n 1, 1) := by decide +kernel
theorem d_Mo_isSo_5 : decode (yB Y_Mo_isSo) 5 = .ok (.iconst 5, 1) := by decide +kernel
theorem d_Mo_isSo_6 : decode (yB Y_Mo_isSo) 6 = .ok (.iadd, 1) := by decide +kernel
theorem d_Mo_isSo_7 : decode (yB Y_Mo_isSo) 7 = .ok (.iaload, 1) := by decide +kernel
theorem d_Mo_isSo_8 : decode (yB Y_Mo_isSo) 8 = .ok (.aload_n 0, 1) := by decide +kernel
theorem d_Mo_isSo_9 : decode (yB Y_Mo_isSo) 9 = .ok (.getfield 13, 3) := by decide +kernel
theorem d_Mo_isSo_12 : decode (yB Y_Mo_isSo) 12 = .ok (.iload_n 1, 1) := by decide +kernel
theorem d_Mo_isSo_13 : decode (yB Y_Mo_isSo) 13 = .ok (.bipush 6, 2) := by decide +kernel
theorem d_Mo_isSo_15 : decode (yB Y_Mo_isSo) 15 = .ok (.iadd, 1) := by decide +kernel
theorem d_Mo_isSo_16 : decode (yB Y_Mo_isSo) 16 = .ok (.iaload, 1) := by decide +kernel
theorem d_Mo_isSo_17 : decode (yB Y_Mo_isSo) 17 = .ok (.if_icmp .ge 42, 3) := by decide +kernel
theorem d_Mo_isSo_20 : decode (yB Y_Mo_isSo) 20 = .ok (.aload_n 0, 1) := by decide +kernel
theorem d_Mo_isSo_21 : decode (yB Y_Mo_isSo) 21 = .ok (.aload_n 0, 1) := by decide +kernel
theorem d_Mo_isSo_22 : decode (yB Y_Mo_isSo) 22 = .ok (.getfield 13, 3) := by decide +kernel
theorem d_Mo_isSo_25 : decode (yB Y_Mo_isSo) 25 = .ok (.iload_n 1, 1) := by decide +kernel
theorem d_Mo_isSo_26 : decode (yB Y_Mo_isSo) 26 = .ok (.iconst 5, 1) := by decide +kernel
theorem d_Mo_isSo_27 : decode (yB Y_Mo_isSo) 27 = .ok (.iadd, 1) := by decide +kernel
theorem d_Mo_isSo_28 : decode (yB Y_Mo_isSo) 28 = .ok (.iaload, 1) := by decide +kernel
theorem d_Mo_isSo_29 : decode (yB Y_Mo_isSo) 29 = .ok (.aload_n 0, 1) := by decide +kernel
theorem d_Mo_isSo_30 : decode (yB Y_Mo_isSo) 30 = .ok (.getfield 13, 3) := by decide +kernel
theorem d_Mo_isSo_33 : decode (yB Y_Mo_isSo) 33 = .ok (.iload_n 1, 1) := by decide +kernel
theorem d_Mo_isSo_34 : decode (yB Y_Mo_isSo) 34 = .ok (.bipush 6, 2) := by decide +kernel
theorem d_Mo_isSo_36 : decode (yB Y_Mo_isSo) 36 = .ok (.iadd, 1) := by decide +kernel
theorem d_Mo_isSo_37 : decode (yB Y_Mo_isSo) 37 = .ok (.iaload, 1) := by decide +kernel
theorem d_Mo_isSo_38 : decode (yB Y_Mo_isSo) 38 = .ok (.invokevirtual 422, 3) := by decide +kernel
theorem d_Mo_isSo_41 : decode (yB Y_Mo_isSo) 41 = .ok (.aload_n 0, 1) := by decide +kernel
theorem d_Mo_isSo_42 : decode (yB Y_Mo_isSo) 42 = .ok (.getfield 405, 3) := by decide +kernel
theorem d_Mo_isSo_45 : decode (yB Y_Mo_isSo) 45 = .ok (.ifCond .ne 12, 3) := by decide +kernel
theorem d_Mo_isSo_48 : decode (yB Y_Mo_isSo) 48 = .ok (.aload_n 0, 1) := by decide +kernel
theorem d_Mo_isSo_49 : decode (yB Y_Mo_isSo) 49 = .ok (.getfield 419, 3) := by decide +kernel
theorem d_Mo_isSo_52 : decode (yB Y_Mo_isSo) 52 = .ok (.lconst 0, 1) := by decide +kernel
theorem d_Mo_isSo_53 : decode (yB Y_Mo_isSo) 53 = .ok (.lcmp, 1) := by decide +kernel
theorem d_Mo_isSo_54 : decode (yB Y_Mo_isSo) 54 = .ok (.ifCond .ne 5, 3) := by decide +kernel
theorem d_Mo_isSo_57 : decode (yB Y_Mo_isSo) 57 = .ok (.iconst 0, 1) := by decide +kernel
theorem d_Mo_isSo_58 : decode (yB Y_Mo_isSo) 58 = .ok (.ireturn, 1) := by decide +kernel
theorem d_Mo_isSo_59 : decode (yB Y_Mo_isSo) 59 = .ok (.aload_n 0, 1) := by decide +kernel
theorem d_Mo_isSo_60 : decode (yB Y_Mo_isSo) 60 = .ok (.getfield 13, 3) := by decide +kernel
theorem d_Mo_isSo_63 : decode (yB Y_Mo_isSo) 63 = .ok (.iload_n 1, 1) := by decide +kernel
theorem d_Mo_isSo_64 : decode (yB Y_Mo_isSo) 64 = .ok (.iaload, 1) := by decide +kernel
theorem d_Mo_isSo_65 : decode (yB Y_Mo_isSo) 65 = .ok (.iconst 3, 1) := by decide +kernel
theorem d_Mo_isSo_66 : decode (yB Y_Mo_isSo) 66 = .ok (.if_icmp .eq 44, 3) := by decide +kernel
theorem d_Mo_isSo_69 : decode (yB Y_Mo_isSo) 69 = .ok (.aload_n 0, 1) := by decide +kernel
theorem d_Mo_isSo_70 : decode (yB Y_Mo_isSo) 70 = .ok (.aload_n 0, 1) := by decide +kernel
theorem d_Mo_isSo_71 : decode (yB Y_Mo_isSo) 71 = .ok (.getfield 13, 3) := by decide +kernel
theorem d_Mo_isSo_74 : decode (yB Y_Mo_isSo) 74 = .ok (.iload_n 1, 1) := by decide +kernel
theorem d_Mo_isSo_75 : decode (yB Y_Mo_isSo) 75 = .ok (.iconst 3, 1) := by decide +kernel
theorem d_Mo_isSo_76 : decode (yB Y_Mo_isSo) 76 = .ok (.iadd, 1) := by decide +kernel
theorem d_Mo_isSo_77 : decode (yB Y_Mo_isSo) 77 = .ok (.iaload, 1) := by decide +kernel
theorem d_Mo_isSo_78 : decode (yB Y_Mo_isSo) 78 = .ok (.aload_n 0, 1) := by decide +kernel
theorem d_Mo_isSo_79 : decode (yB Y_Mo_isSo) 79 = .ok (.getfield 13, 3) := by decide +kernel
theorem d_Mo_isSo_82 : decode (yB Y_Mo_isSo) 82 = .ok (.iload_n 1, 1) := by decide +kernel
theorem d_Mo_isSo_83 : decode (yB Y_Mo_isSo) 83 = .ok (.iconst 4, 1) := by decide +kernel
theorem d_Mo_isSo_84 : decode (yB Y_Mo_isSo) 84 = .ok (.iadd, 1) := by decide +kernel
theorem d_Mo_isSo_85 : decode (yB Y_Mo_isSo) 85 = .ok (.iaload, 1) := by decide +kernel
theorem d_Mo_isSo_86 : decode (yB Y_Mo_isSo) 86 = .ok (.invokevirtual 422, 3) := by decide +kernel
theorem d_Mo_isSo_89 : decode (yB Y_Mo_isSo) 89 = .ok (.aload_n 0, 1) := by decide +kernel
theorem d_Mo_isSo_90 : decode (yB Y_Mo_isSo) 90 = .ok (.aload_n 0, 1) := by decide +kernel
theorem d_Mo_isSo_91 : decode (yB Y_Mo_isSo) 91 = .ok (.getfield 419, 3) := by decide +kernel
theorem d_Mo_isSo_94 : decode (yB Y_Mo_isSo) 94 = .ok (.putfield 425, 3) := by decide +kernel
theorem d_Mo_isSo_97 : decode (yB Y_Mo_isSo) 97 = .ok (.aload_n 0, 1) := by decide +kernel
theorem d_Mo_isSo_98 : decode (yB Y_Mo_isSo) 98 = .ok (.getfield 405, 3) := by decide +kernel
theorem d_Mo_isSo_101 : decode (yB Y_Mo_isSo) 101 = .ok (.ifCond .ne 7, 3) := by decide +kernel
theorem d_Mo_isSo_104 : decode (yB Y_Mo_isSo) 104 = .ok (.iconst 1, 1) := by decide +kernel
theorem d_Mo_isSo_105 : decode (yB Y_Mo_isSo) 105 = .ok (.goto 4, 3) := by decide +kernel
theorem d_Mo_isSo_108 : decode (yB Y_Mo_isSo) 108 = .ok (.iconst 0, 1) := by decide +kernel
theorem d_Mo_isSo_109 : decode (yB Y_Mo_isSo) 109 = .ok (.ireturn, 1) := by decide +kernel
theorem d_Mo_isSo_110 : decode (yB Y_Mo_isSo) 110 = .ok (.iconst 1, 1) := by decide +kernel
theorem d_Mo_isSo_111 : decode (yB Y_Mo_isSo) 111 = .ok (.ireturn, 1) := by decide +kernel
def F_Mo_isSo_b59 (n : Nat) (E : zE) (S : zS) (a0 : Nat) (x1 : Int32) (M : zH) : Option (Bool × zH) :=
  (zgR S a0 11 3).bind fun b_1 =>
  (zldI S M b_1 x1).bind fun v_2 =>
  if v_2 = 3 then
    some (true, M)
  else
    (zldI S M b_1 (x1 + 3)).bind fun v_4 =>
    (zldI S M b_1 (x1 + 4)).bind fun v_5 =>
    (F_Mo_reckonAll n E S a0 v_4 v_5 M).bind fun q_6 =>
    (zgJ S q_6 a0 11 39).bind fun v_7 =>
    (zpJ S q_6 a0 11 40 v_7).bind fun m_8 =>
    (zgI S m_8 a0 11 38).bind fun v_9 =>
    if v_9 = 0 then
      some (true, m_8)
    else
      some (false, m_8)
def F_Mo_isSo (n : Nat) (E : zE) (S : zS) (a0 : Nat) (x1 : Int32) (M : zH) : Option (Bool × zH) :=
  (zgR S a0 11 3).bind fun b_11 =>
  (zldI S M b_11 (x1 + 5)).bind fun v_12 =>
  (zldI S M b_11 (x1 + 6)).bind fun v_13 =>
  if v_13 ≤ v_12 then
    F_Mo_isSo_b59 n E S a0 x1 M
  else
    (zldI S M b_11 (x1 + 5)).bind fun v_15 =>
    (zldI S M b_11 (x1 + 6)).bind fun v_16 =>
    (F_Mo_reckonAll n E S a0 v_15 v_16 M).bind fun q_17 =>
    (zgI S q_17 a0 11 38).bind fun v_18 =>
    if v_18 = 0 then
      (zgJ S q_17 a0 11 39).bind fun v_20 =>
      if v_20 = 0 then
        some (false, q_17)
      else
        F_Mo_isSo_b59 n E S a0 x1 q_17
    else
      some (false, q_17)
theorem K_Mo_isSo_b59 (n : Nat) (E : zE) (S : zS) (a0 : Nat) (x1 : Int32) (M : zH) (r : Bool) (M' : zH)  (h : F_Mo_isSo_b59 n E S a0 x1 M = some (r, M')) : zG E Y_Mo_isSo (some (.int (bI r)), S, M') 59 [(0, .ref a0), (1, .int x1)] [] S M 0 0 := by
  unfold F_Mo_isSo_b59 at h
  refine zi_aload_n 0 d_Mo_isSo_59 rfl ?_
  obtain ⟨b_1, eb_1, h⟩ := zbind h
  refine zo_getR 63 zkd_11 3 d_Mo_isSo_60 eb_1 rfl tw_1232 rfl ?_
  refine zi_iload_n 1 d_Mo_isSo_63 rfl ?_
  obtain ⟨v_2, ev_2, h⟩ := zbind h
  refine zo_iald 65 d_Mo_isSo_64 ev_2 rfl ?_
  refine zi_iconst 3 d_Mo_isSo_65 rfl ?_
  refine zi_icmp_eq (tgt := 110) d_Mo_isSo_66 rfl (fun c_3 => ?_) (fun c_3 => ?_)
  · rw [if_pos c_3] at h
    refine zi_iconst 1 d_Mo_isSo_110 rfl ?_
    cases h
    exact zo_retB d_Mo_isSo_111 (Nat.le_of_ble_eq_true rfl) (Nat.le_of_ble_eq_true rfl) rfl
  · rw [if_neg c_3] at h
    refine zi_aload_n 0 d_Mo_isSo_69 rfl ?_
    refine zi_aload_n 0 d_Mo_isSo_70 rfl ?_
    refine zo_getR 74 zkd_11 3 d_Mo_isSo_71 eb_1 rfl tw_1232 rfl ?_
    refine zi_iload_n 1 d_Mo_isSo_74 rfl ?_
    refine zi_iconst 3 d_Mo_isSo_75 rfl ?_
    refine zi_iadd d_Mo_isSo_76 ?_
    obtain ⟨v_4, ev_4, h⟩ := zbind h
    refine zo_iald 78 d_Mo_isSo_77 ev_4 rfl ?_
    refine zi_aload_n 0 d_Mo_isSo_78 rfl ?_
    refine zo_getR 82 zkd_11 3 d_Mo_isSo_79 eb_1 rfl tw_1232 rfl ?_
    refine zi_iload_n 1 d_Mo_isSo_82 rfl ?_
    refine zi_iconst 4 d_Mo_isSo_83 rfl ?_
    refine zi_iadd d_Mo_isSo_84 ?_
    obtain ⟨v_5, ev_5, h⟩ := zbind h
    refine zo_iald 86 d_Mo_isSo_85 ev_5 rfl ?_
    obtain ⟨q_6, eq_6, h⟩ := zbind h
    refine zo_virt (k' := 0) (n' := 0) 89 [.int v_4, .int v_5] [] [] zkd_11 (zgR_s eb_1).1 (C_Mo_reckonAll n E S a0 v_4 v_5 M q_6 eq_6) d_Mo_isSo_86 tw_1459 tw_1456 tw_1458 ts_42 tw_13 dd_Mo_reckonAll ⟨Nat.le_of_ble_eq_true rfl, Nat.le_of_ble_eq_true rfl, Nat.le_of_ble_eq_true rfl, Nat.le_of_ble_eq_true rfl⟩ (Nat.le_of_ble_eq_true rfl) rfl rfl rfl rfl ?_
    refine zi_aload_n 0 d_Mo_isSo_89 rfl ?_
    refine zi_aload_n 0 d_Mo_isSo_90 rfl ?_
    obtain ⟨v_7, ev_7, h⟩ := zbind h
    refine zo_getJ 94 zkd_11 39 d_Mo_isSo_91 ev_7 rfl tw_1268 rfl ?_
    obtain ⟨m_8, em_8, h⟩ := zbind h
    refine zo_putJ 97 zkd_11 40 d_Mo_isSo_94 em_8 rfl rfl rfl tw_1269 rfl ?_
    refine zi_aload_n 0 d_Mo_isSo_97 rfl ?_
    obtain ⟨v_9, ev_9, h⟩ := zbind h
    refine zo_getI 101 zkd_11 38 d_Mo_isSo_98 ev_9 rfl tw_1267 rfl ?_
    refine zi_if_ne (tgt := 108) d_Mo_isSo_101 rfl (fun c_10 => ?_) (fun c_10 => ?_)
    · rw [if_neg c_10] at h
      refine zi_iconst 0 d_Mo_isSo_108 rfl ?_
      cases h
      exact zo_retB d_Mo_isSo_109 (Nat.le_of_ble_eq_true rfl) (Nat.le_of_ble_eq_true rfl) rfl
    · rw [if_pos c_10] at h
      refine zi_iconst 1 d_Mo_isSo_104 rfl ?_
      refine zi_goto (tgt := 109) d_Mo_isSo_105 rfl ?_
      cases h
      exact zo_retB d_Mo_isSo_109 (Nat.le_of_ble_eq_true rfl) (Nat.le_of_ble_eq_true rfl) rfl
theorem K_Mo_isSo (n : Nat) (E : zE) (S : zS) (a0 : Nat) (x1 : Int32) (M : zH) (r : Bool) (M' : zH)  (h : F_Mo_isSo n E S a0 x1 M = some (r, M')) : zG E Y_Mo_isSo (some (.int (bI r)), S, M') 0 [(0, .ref a0), (1, .int x1)] [] S M 0 0 := by
  unfold F_Mo_isSo at h
  refine zi_aload_n 0 d_Mo_isSo_0 rfl ?_
  obtain ⟨b_11, eb_11, h⟩ := zbind h
  refine zo_getR 4 zkd_11 3 d_Mo_isSo_1 eb_11 rfl tw_1232 rfl ?_
  refine zi_iload_n 1 d_Mo_isSo_4 rfl ?_
  refine zi_iconst 5 d_Mo_isSo_5 rfl ?_
  refine zi_iadd d_Mo_isSo_6 ?_
  obtain ⟨v_12, ev_12, h⟩ := zbind h
  refine zo_iald 8 d_Mo_isSo_7 ev_12 rfl ?_
  refine zi_aload_n 0 d_Mo_isSo_8 rfl ?_
  refine zo_getR 12 zkd_11 3 d_Mo_isSo_9 eb_11 rfl tw_1232 rfl ?_
  refine zi_iload_n 1 d_Mo_isSo_12 rfl ?_
  refine zi_bipush 6 d_Mo_isSo_13 rfl ?_
  refine zi_iadd d_Mo_isSo_15 ?_
  obtain ⟨v_13, ev_13, h⟩ := zbind h
  refine zo_iald 17 d_Mo_isSo_16 ev_13 rfl ?_
  refine zi_icmp_ge (tgt := 59) d_Mo_isSo_17 rfl (fun c_14 => ?_) (fun c_14 => ?_)
  · rw [if_pos c_14] at h
    refine zi_lo [(0, .ref a0), (1, .int x1)] [0, 1] rfl ?_
    exact K_Mo_isSo_b59 n E S a0 x1 M r M'  h
  · rw [if_neg c_14] at h
    refine zi_aload_n 0 d_Mo_isSo_20 rfl ?_
    refine zi_aload_n 0 d_Mo_isSo_21 rfl ?_
    refine zo_getR 25 zkd_11 3 d_Mo_isSo_22 eb_11 rfl tw_1232 rfl ?_
    refine zi_iload_n 1 d_Mo_isSo_25 rfl ?_
    refine zi_iconst 5 d_Mo_isSo_26 rfl ?_
    refine zi_iadd d_Mo_isSo_27 ?_
    obtain ⟨v_15, ev_15, h⟩ := zbind h
    refine zo_iald 29 d_Mo_isSo_28 ev_15 rfl ?_
    refine zi_aload_n 0 d_Mo_isSo_29 rfl ?_
    refine zo_getR 33 zkd_11 3 d_Mo_isSo_30 eb_11 rfl tw_1232 rfl ?_
    refine zi_iload_n 1 d_Mo_isSo_33 rfl ?_
    refine zi_bipush 6 d_Mo_isSo_34 rfl ?_
    refine zi_iadd d_Mo_isSo_36 ?_
    obtain ⟨v_16, ev_16, h⟩ := zbind h
    refine zo_iald 38 d_Mo_isSo_37 ev_16 rfl ?_
    obtain ⟨q_17, eq_17, h⟩ := zbind h
    refine zo_virt (k' := 0) (n' := 0) 41 [.int v_15, .int v_16] [] [] zkd_11 (zgR_s eb_11).1 (C_Mo_reckonAll n E S a0 v_15 v_16 M q_17 eq_17) d_Mo_isSo_38 tw_1459 tw_1456 tw_1458 ts_42 tw_13 dd_Mo_reckonAll ⟨Nat.le_of_ble_eq_true rfl, Nat.le_of_ble_eq_true rfl, Nat.le_of_ble_eq_true rfl, Nat.le_of_ble_eq_true rfl⟩ (Nat.le_of_ble_eq_true rfl) rfl rfl rfl rfl ?_
    refine zi_aload_n 0 d_Mo_isSo_41 rfl ?_
    obtain ⟨v_18, ev_18, h⟩ := zbind h
    refine zo_getI 45 zkd_11 38 d_Mo_isSo_42 ev_18 rfl tw_1267 rfl ?_
    refine zi_if_ne (tgt := 57) d_Mo_isSo_45 rfl (fun c_19 => ?_) (fun c_19 => ?_)
    · rw [if_neg c_19] at h
      refine zi_iconst 0 d_Mo_isSo_57 rfl ?_
      cases h
      exact zo_retB d_Mo_isSo_58 (Nat.le_of_ble_eq_true rfl) (Nat.le_of_ble_eq_true rfl) rfl
    · rw [if_pos c_19] at h
      refine zi_aload_n 0 d_Mo_isSo_48 rfl ?_
      obtain ⟨v_20, ev_20, h⟩ := zbind h
      refine zo_getJ 52 zkd_11 39 d_Mo_isSo_49 ev_20 rfl tw_1268 rfl ?_
      refine zi_lconst 0 d_Mo_isSo_52 rfl ?_
      refine zo_lc_ne d_Mo_isSo_53 d_Mo_isSo_54 rfl 57 rfl (fun c_21 => ?_) (fun c_21 => ?_)
      · rw [if_neg c_21] at h
        refine zi_lo [(0, .ref a0), (1, .int x1)] [0, 1] rfl ?_
        exact K_Mo_isSo_b59 n E S a0 x1 q_17 r M'  h
      · rw [if_pos c_21] at h
        refine zi_iconst 0 d_Mo_isSo_57 rfl ?_
        cases h
        exact zo_retB d_Mo_isSo_58 (Nat.le_of_ble_eq_true rfl) (Nat.le_of_ble_eq_true rfl) rfl
theorem C_Mo_isSo (n : Nat) (E : zE) (S : zS) (a0 : Nat) (x1 : Int32) (M : zH) (r : Bool) (M' : zH) (h : F_Mo_isSo n E S a0 x1 M = some (r, M')) : zC E Y_Mo_isSo [.ref a0, .int x1] S M (some (.int (bI r)), S, M') :=
  zC.of (Or.inl (show plainName "NightColanderModel" = true by decide)) (Nat.le_of_ble_eq_true rfl) (bI_nar r) (K_Mo_isSo n E S a0 x1 M r M' h)
theorem d_Mo_tells_0 : decode (yB Y_Mo_tells) 0 = .ok (.aload_n 0, 1) := by decide +kernel
theorem d_Mo_tells_1 : decode (yB Y_Mo_tells) 1 = .ok (.getfield 13, 3) := by decide +kernel
theorem d_Mo_tells_4 : decode (yB Y_Mo_tells) 4 = .ok (.iconst 3, 1) := by decide +kernel
theorem d_Mo_tells_5 : decode (yB Y_Mo_tells) 5 = .ok (.iaload, 1) := by decide +kernel
theorem d_Mo_tells_6 : decode (yB Y_Mo_tells) 6 = .ok (.iconst (-1), 1) := by decide +kernel
theorem d_Mo_tells_7 : decode (yB Y_Mo_tells) 7 = .ok (.if_icmp .ne 5, 3) := by decide +kernel
theorem d_Mo_tells_10 : decode (yB Y_Mo_tells) 10 = .ok (.lload_n 3, 1) := by decide +kernel
theorem d_Mo_tells_11 : decode (yB Y_Mo_tells) 11 = .ok (.lreturn, 1) := by decide +kernel
theorem d_Mo_tells_12 : decode (yB Y_Mo_tells) 12 = .ok (.aload_n 0, 1) := by decide +kernel
theorem d_Mo_tells_13 : decode (yB Y_Mo_tells) 13 = .ok (.bipush 80, 2) := by decide +kernel
theorem d_Mo_tells_15 : decode (yB Y_Mo_tells) 15 = .ok (.sipush 900, 3) := by decide +kernel
theorem d_Mo_tells_18 : decode (yB Y_Mo_tells) 18 = .ok (.aload_n 0, 1) := by decide +kernel
theorem d_Mo_tells_19 : decode (yB Y_Mo_tells) 19 = .ok (.getfield 13, 3) := by decide +kernel
theorem d_Mo_tells_22 : decode (yB Y_Mo_tells) 22 = .ok (.iconst 3, 1) := by decide +kernel
theorem d_Mo_tells_23 : decode (yB Y_Mo_tells) 23 = .ok (.iaload, 1) := by decide +kernel
theorem d_Mo_tells_24 : decode (yB Y_Mo_tells) 24 = .ok (.imul, 1) := by decide +kernel
theorem d_Mo_tells_25 : decode (yB Y_Mo_tells) 25 = .ok (.iadd, 1) := by decide +kernel
theorem d_Mo_tells_26 : decode (yB Y_Mo_tells) 26 = .ok (.putfield 408, 3) := by decide +kernel
theorem d_Mo_tells_29 : decode (yB Y_Mo_tells) 29 = .ok (.aload_n 0, 1) := by decide +kernel
theorem d_Mo_tells_30 : decode (yB Y_Mo_tells) 30 = .ok (.getfield 103, 3) := by decide +kernel
theorem d_Mo_tells_33 : decode (yB Y_Mo_tells) 33 = .ok (.iconst 4, 1) := by decide +kernel
theorem d_Mo_tells_34 : decode (yB Y_Mo_tells) 34 = .ok (.iload_n 2, 1) := by decide +kernel
theorem d_Mo_tells_35 : decode (yB Y_Mo_tells) 35 = .ok (.i2l, 1) := by decide +kernel
theorem d_Mo_tells_36 : decode (yB Y_Mo_tells) 36 = .ok (.lastore, 1) := by decide +kernel
theorem d_Mo_tells_37 : decode (yB Y_Mo_tells) 37 = .ok (.aload_n 0, 1) := by decide +kernel
theorem d_Mo_tells_38 : decode (yB Y_Mo_tells) 38 = .ok (.getfield 103, 3) := by decide +kernel
theorem d_Mo_tells_41 : decode (yB Y_Mo_tells) 41 = .ok (.bipush 7, 2) := by decide +kernel
theorem d_Mo_tells_43 : decode (yB Y_Mo_tells) 43 = .ok (.aload_n 0, 1) := by decide +kernel
theorem d_Mo_tells_44 : decode (yB Y_Mo_tells) 44 = .ok (.getfield 13, 3) := by decide +kernel
theorem d_Mo_tells_47 : decode (yB Y_Mo_tells) 47 = .ok (.iconst 4, 1) := by decide +kernel
theorem d_Mo_tells_48 : decode (yB Y_Mo_tells) 48 = .ok (.iaload, 1) := by decide +kernel
theorem d_Mo_tells_49 : decode (yB Y_Mo_tells) 49 = .ok (.i2l, 1) := by decide +kernel
theorem d_Mo_tells_50 : decode (yB Y_Mo_tells) 50 = .ok (.lastore, 1) := by decide +kernel
theorem d_Mo_tells_51 : decode (yB Y_Mo_tells) 51 = .ok (.aload_n 0, 1) := by decide +kernel
theorem d_Mo_tells_52 : decode (yB Y_Mo_tells) 52 = .ok (.getfield 103, 3) := by decide +kernel
theorem d_Mo_tells_55 : decode (yB Y_Mo_tells) 55 = .ok (.bipush 8, 2) := by decide +kernel
theorem d_Mo_tells_57 : decode (yB Y_Mo_tells) 57 = .ok (.aload_n 0, 1) := by decide +kernel
theorem d_Mo_tells_58 : decode (yB Y_Mo_tells) 58 = .ok (.getfield 13, 3) := by decide +kernel
theorem d_Mo_tells_61 : decode (yB Y_Mo_tells) 61 = .ok (.iconst 5, 1) := by decide +kernel
theorem d_Mo_tells_62 : decode (yB Y_Mo_tells) 62 = .ok (.iaload, 1) := by decide +kernel
theorem d_Mo_tells_63 : decode (yB Y_Mo_tells) 63 = .ok (.i2l, 1) := by decide +kernel
theorem d_Mo_tells_64 : decode (yB Y_Mo_tells) 64 = .ok (.lastore, 1) := by decide +kernel
theorem d_Mo_tells_65 : decode (yB Y_Mo_tells) 65 = .ok (.aload_n 0, 1) := by decide +kernel
theorem d_Mo_tells_66 : decode (yB Y_Mo_tells) 66 = .ok (.getfield 103, 3) := by decide +kernel
theorem d_Mo_tells_69 : decode (yB Y_Mo_tells) 69 = .ok (.bipush 9, 2) := by decide +kernel
theorem d_Mo_tells_71 : decode (yB Y_Mo_tells) 71 = .ok (.aload_n 0, 1) := by decide +kernel
theorem d_Mo_tells_72 : decode (yB Y_Mo_tells) 72 = .ok (.getfield 13, 3) := by decide +kernel
theorem d_Mo_tells_75 : decode (yB Y_Mo_tells) 75 = .ok (.bipush 6, 2) := by decide +kernel
theorem d_Mo_tells_77 : decode (yB Y_Mo_tells) 77 = .ok (.iaload, 1) := by decide +kernel
theorem d_Mo_tells_78 : decode (yB Y_Mo_tells) 78 = .ok (.i2l, 1) := by decide +kernel
theorem d_Mo_tells_79 : decode (yB Y_Mo_tells) 79 = .ok (.lastore, 1) := by decide +kernel
theorem d_Mo_tells_80 : decode (yB Y_Mo_tells) 80 = .ok (.lload_n 3, 1) := by decide +kernel
theorem d_Mo_tells_81 : decode (yB Y_Mo_tells) 81 = .ok (.lstore 5, 2) := by decide +kernel
theorem d_Mo_tells_83 : decode (yB Y_Mo_tells) 83 = .ok (.iconst 0, 1) := by decide +kernel
theorem d_Mo_tells_84 : decode (yB Y_Mo_tells) 84 = .ok (.istore 7, 2) := by decide +kernel
theorem d_Mo_tells_86 : decode (yB Y_Mo_tells) 86 = .ok (.iload 7, 2) := by decide +kernel
theorem d_Mo_tells_88 : decode (yB Y_Mo_tells) 88 = .ok (.aload_n 0, 1) := by decide +kernel
theorem d_Mo_tells_89 : decode (yB Y_Mo_tells) 89 = .ok (.getfield 13, 3) := by decide +kernel
theorem d_Mo_tells_92 : decode (yB Y_Mo_tells) 92 = .ok (.aload_n 0, 1) := by decide +kernel
theorem d_Mo_tells_93 : decode (yB Y_Mo_tells) 93 = .ok (.getfield 408, 3) := by decide +kernel
theorem d_Mo_tells_96 : decode (yB Y_Mo_tells) 96 = .ok (.iconst 1, 1) := by decide +kernel
theorem d_Mo_tells_97 : decode (yB Y_Mo_tells) 97 = .ok (.iadd, 1) := by decide +kernel
theorem d_Mo_tells_98 : decode (yB Y_Mo_tells) 98 = .ok (.iaload, 1) := by decide +kernel
theorem d_Mo_tells_99 : decode (yB Y_Mo_tells) 99 = .ok (.if_icmp .ge 58, 3) := by decide +kernel
theorem d_Mo_tells_102 : decode (yB Y_Mo_tells) 102 = .ok (.aload_n 0, 1) := by decide +kernel
theorem d_Mo_tells_103 : decode (yB Y_Mo_tells) 103 = .ok (.getfield 408, 3) := by decide +kernel
theorem d_Mo_tells_106 : decode (yB Y_Mo_tells) 106 = .ok (.iconst 2, 1) := by decide +kernel
theorem d_Mo_tells_107 : decode (yB Y_Mo_tells) 107 = .ok (.iadd, 1) := by decide +kernel
theorem d_Mo_tells_108 : decode (yB Y_Mo_tells) 108 = .ok (.bipush 8, 2) := by decide +kernel
theorem d_Mo_tells_110 : decode (yB Y_Mo_tells) 110 = .ok (.iload 7, 2) := by decide +kernel
theorem d_Mo_tells_112 : decode (yB Y_Mo_tells) 112 = .ok (.imul, 1) := by decide +kernel
theorem d_Mo_tells_113 : decode (yB Y_Mo_tells) 113 = .ok (.iadd, 1) := by decide +kernel
theorem d_Mo_tells_114 : decode (yB Y_Mo_tells) 114 = .ok (.istore 8, 2) := by decide +kernel
theorem d_Mo_tells_116 : decode (yB Y_Mo_tells) 116 = .ok (.aload_n 0, 1) := by decide +kernel
theorem d_Mo_tells_117 : decode (yB Y_Mo_tells) 117 = .ok (.getfield 13, 3) := by decide +kernel
theorem d_Mo_tells_120 : decode (yB Y_Mo_tells) 120 = .ok (.iload 8, 2) := by decide +kernel
theorem d_Mo_tells_122 : decode (yB Y_Mo_tells) 122 = .ok (.iaload, 1) := by decide +kernel
theorem d_Mo_tells_123 : decode (yB Y_Mo_tells) 123 = .ok (.iload_n 1, 1) := by decide +kernel
theorem d_Mo_tells_124 : decode (yB Y_Mo_tells) 124 = .ok (.if_icmp .ne 27, 3) := by decide +kernel
theorem d_Mo_tells_127 : decode (yB Y_Mo_tells) 127 = .ok (.aload_n 0, 1) := by decide +kernel
theorem d_Mo_tells_128 : decode (yB Y_Mo_tells) 128 = .ok (.iload 8, 2) := by decide +kernel
theorem d_Mo_tells_130 : decode (yB Y_Mo_tells) 130 = .ok (.invokevirtual 428, 3) := by decide +kernel
theorem d_Mo_tells_133 : decode (yB Y_Mo_tells) 133 = .ok (.ifCond .eq 18, 3) := by decide +kernel
theorem d_Mo_tells_136 : decode (yB Y_Mo_tells) 136 = .ok (.iload_n 1, 1) := by decide +kernel
theorem d_Mo_tells_137 : decode (yB Y_Mo_tells) 137 = .ok (.iconst 3, 1) := by decide +kernel
theorem d_Mo_tells_138 : decode (yB Y_Mo_tells) 138 = .ok (.if_icmp .ne 7, 3) := by decide +kernel
theorem d_Mo_tells_141 : decode (yB Y_Mo_tells) 141 = .ok (.lconst 1, 1) := by decide +kernel
theorem d_Mo_tells_142 : decode (yB Y_Mo_tells) 142 = .ok (.goto 7, 3) := by decide +kernel
theorem d_Mo_tells_145 : decode (yB Y_Mo_tells) 145 = .ok (.aload_n 0, 1) := by decide +kernel
theorem d_Mo_tells_146 : decode (yB Y_Mo_tells) 146 = .ok (.getfield 425, 3) := by decide +kernel
theorem d_Mo_tells_149 : decode (yB Y_Mo_tells) 149 = .ok (.lstore 5, 2) := by decide +kernel
theorem d_Mo_tells_151 : decode (yB Y_Mo_tells) 151 = .ok (.iinc 7 1, 3) := by decide +kernel
theorem d_Mo_tells_154 : decode (yB Y_Mo_tells) 154 = .ok (.goto (-68), 3) := by decide +kernel
theorem d_Mo_tells_157 : decode (yB Y_Mo_tells) 157 = .ok (.lload 5, 2) := by decide +kernel
theorem d_Mo_tells_159 : decode (yB Y_Mo_tells) 159 = .ok (.lreturn, 1) := by decide +kernel
def F_Mo_tells_b151 (n : Nat) (E : zE) (S : zS) (r86 : Nat × Int32 × Int64 × Int32 × zH → Option (Int64 × zH)) (a0 : Nat) (x1 : Int32) (y5 : Int64) (x7 : Int32) (M : zH) : Option (Int64 × zH) :=
  r86 (a0, x1, y5, x7 + 1, M)
def F_Mo_tells_b149 (n : Nat) (E : zE) (S : zS) (r86 : Nat × Int32 × Int64 × Int32 × zH → Option (Int64 × zH)) (a0 : Nat) (x1 : Int32) (x7 : Int32) (t0 : Int64) (M : zH) : Option (Int64 × zH) :=
  F_Mo_tells_b151 n E S r86 a0 x1 t0 x7 M
def F_Mo_tells_L86 (n : Nat) (E : zE) (S : zS) (r86 : Nat × Int32 × Int64 × Int32 × zH → Option (Int64 × zH)) (a0 : Nat) (x1 : Int32) (y5 : Int64) (x7 : Int32) (M : zH) : Option (Int64 × zH) :=
  (zgR S a0 11 3).bind fun b_1 =>
  (zgI S M a0 11 34).bind fun v_2 =>
  (zldI S M b_1 (v_2 + 1)).bind fun v_3 =>
  if v_3 ≤ x7 then
    some (y5, M)
  else
    (zgI S M a0 11 34).bind fun v_5 =>
    (zldI S M b_1 ((v_5 + 2) + (8 * x7))).bind fun v_6 =>
    if v_6 = x1 then
      (F_Mo_isSo n E S a0 ((v_5 + 2) + (8 * x7)) M).bind fun q_8 =>
      if q_8.1 = true then
        if x1 = 3 then
          F_Mo_tells_b149 n E S r86 a0 x1 x7 1 q_8.2
        else
          (zgJ S q_8.2 a0 11 40).bind fun v_11 =>
          F_Mo_tells_b149 n E S r86 a0 x1 x7 v_11 q_8.2
      else
        F_Mo_tells_b151 n E S r86 a0 x1 y5 x7 q_8.2
    else
      F_Mo_tells_b151 n E S r86 a0 x1 y5 x7 M
def F_Mo_tells_b86 (n : Nat) (E : zE) (S : zS) : Nat × Int32 × Int64 × Int32 × zH → Option (Int64 × zH) := zfix (fun r86 s => F_Mo_tells_L86 n E S r86 s.1 s.2.1 s.2.2.1 s.2.2.2.1 s.2.2.2.2) n
def F_Mo_tells (n : Nat) (E : zE) (S : zS) (a0 : Nat) (x1 : Int32) (x2 : Int32) (y3 : Int64) (M : zH) : Option (Int64 × zH) :=
  (zgR S a0 11 3).bind fun b_12 =>
  (zldI S M b_12 3).bind fun v_13 =>
  if v_13 = (-1) then
    some (y3, M)
  else
    (zldI S M b_12 3).bind fun v_15 =>
    (zpI S M a0 11 34 (80 + (900 * v_15))).bind fun m_16 =>
    (zgR S a0 11 35).bind fun b_17 =>
    (zstJ S m_16 b_17 4 x2.toInt64).bind fun m_18 =>
    (zldI S m_18 b_12 4).bind fun v_19 =>
    (zstJ S m_18 b_17 7 v_19.toInt64).bind fun m_20 =>
    (zldI S m_20 b_12 5).bind fun v_21 =>
    (zstJ S m_20 b_17 8 v_21.toInt64).bind fun m_22 =>
    (zldI S m_22 b_12 6).bind fun v_23 =>
    (zstJ S m_22 b_17 9 v_23.toInt64).bind fun m_24 =>
    F_Mo_tells_b86 n E S (a0, x1, y3, 0, m_24)
theorem K_Mo_tells_b151 (n : Nat) (E : zE) (S : zS) (r86 : Nat × Int32 × Int64 × Int32 × zH → Option (Int64 × zH)) (a0 : Nat) (x1 : Int32) (y5 : Int64) (x7 : Int32) (M : zH) (r : Int64) (M' : zH) (hr86 : ∀ (a0 : Nat) (x1 : Int32) (y5 : Int64) (x7 : Int32) (M : zH), r86 (a0, x1, y5, x7, M) = some (r, M') → zG E Y_Mo_tells (some (.long r), S, M') 86 [(0, .ref a0), (1, .int x1), (5, .long y5), (7, .int x7)] [] S M 0 0) (h : F_Mo_tells_b151 n E S r86 a0 x1 y5 x7 M = some (r, M')) : zG E Y_Mo_tells (some (.long r), S, M') 151 [(0, .ref a0), (1, .int x1), (5, .long y5), (7, .int x7)] [] S M 0 0 := by
  unfold F_Mo_tells_b151 at h
  refine zi_iinc 3 (x7 + 1) [(7, .int (x7 + 1)), (0, .ref a0), (1, .int x1), (5, .long y5)] d_Mo_tells_151 rfl rfl (by decide) rfl ?_
  refine zi_goto (tgt := 86) d_Mo_tells_154 rfl ?_
  refine zi_lo [(0, .ref a0), (1, .int x1), (5, .long y5), (7, .int (x7 + 1))] [1, 2, 3, 0] rfl ?_
  exact hr86 a0 x1 y5 (x7 + 1) M h
theorem K_Mo_tells_b149 (n : Nat) (E : zE) (S : zS) (r86 : Nat × Int32 × Int64 × Int32 × zH → Option (Int64 × zH)) (a0 : Nat) (x1 : Int32) (x7 : Int32) (t0 : Int64) (M : zH) (r : Int64) (M' : zH) (hr86 : ∀ (a0 : Nat) (x1 : Int32) (y5 : Int64) (x7 : Int32) (M : zH), r86 (a0, x1, y5, x7, M) = some (r, M') → zG E Y_Mo_tells (some (.long r), S, M') 86 [(0, .ref a0), (1, .int x1), (5, .long y5), (7, .int x7)] [] S M 0 0) (h : F_Mo_tells_b149 n E S r86 a0 x1 x7 t0 M = some (r, M')) : zG E Y_Mo_tells (some (.long r), S, M') 149 [(0, .ref a0), (1, .int x1), (7, .int x7)] [.long t0] S M 0 0 := by
  unfold F_Mo_tells_b149 at h
  refine zi_lstore [(5, .long t0), (0, .ref a0), (1, .int x1), (7, .int x7)] d_Mo_tells_149 (by decide) rfl ?_
  refine zi_lo [(0, .ref a0), (1, .int x1), (5, .long t0), (7, .int x7)] [1, 2, 0, 3] rfl ?_
  exact K_Mo_tells_b151 n E S r86 a0 x1 t0 x7 M r M' hr86 h
theorem K_Mo_tells_L86 (n : Nat) (E : zE) (S : zS) (r86 : Nat × Int32 × Int64 × Int32 × zH → Option (Int64 × zH)) (a0 : Nat) (x1 : Int32) (y5 : Int64) (x7 : Int32) (M : zH) (r : Int64) (M' : zH) (hr86 : ∀ (a0 : Nat) (x1 : Int32) (y5 : Int64) (x7 : Int32) (M : zH), r86 (a0, x1, y5, x7, M) = some (r, M') → zG E Y_Mo_tells (some (.long r), S, M') 86 [(0, .ref a0), (1, .int x1), (5, .long y5), (7, .int x7)] [] S M 0 0) (h : F_Mo_tells_L86 n E S r86 a0 x1 y5 x7 M = some (r, M')) : zG E Y_Mo_tells (some (.long r), S, M') 86 [(0, .ref a0), (1, .int x1), (5, .long y5), (7, .int x7)] [] S M 0 0 := by
  unfold F_Mo_tells_L86 at h
  refine zi_iload 3 d_Mo_tells_86 rfl ?_
  refine zi_aload_n 0 d_Mo_tells_88 rfl ?_
  obtain ⟨b_1, eb_1, h⟩ := zbind h
  refine zo_getR 92 zkd_11 3 d_Mo_tells_89 eb_1 rfl tw_1232 rfl ?_
  refine zi_aload_n 0 d_Mo_tells_92 rfl ?_
  obtain ⟨v_2, ev_2, h⟩ := zbind h
  refine zo_getI 96 zkd_11 34 d_Mo_tells_93 ev_2 rfl tw_1263 rfl ?_
  refine zi_iconst 1 d_Mo_tells_96 rfl ?_
  refine zi_iadd d_Mo_tells_97 ?_
  obtain ⟨v_3, ev_3, h⟩ := zbind h
  refine zo_iald 99 d_Mo_tells_98 ev_3 rfl ?_
  refine zi_icmp_ge (tgt := 157) d_Mo_tells_99 rfl (fun c_4 => ?_) (fun c_4 => ?_)
  · rw [if_pos c_4] at h
    refine zi_lload 2 d_Mo_tells_157 rfl ?_
    cases h
    exact zo_ret d_Mo_tells_159 (Nat.le_of_ble_eq_true rfl) (Nat.le_of_ble_eq_true rfl) rfl
  · rw [if_neg c_4] at h
    refine zi_aload_n 0 d_Mo_tells_102 rfl ?_
    obtain ⟨v_5, ev_5, h⟩ := zbind h
    refine zo_getI 106 zkd_11 34 d_Mo_tells_103 ev_5 rfl tw_1263 rfl ?_
    refine zi_iconst 2 d_Mo_tells_106 rfl ?_
    refine zi_iadd d_Mo_tells_107 ?_
    refine zi_bipush 8 d_Mo_tells_108 rfl ?_
    refine zi_iload 3 d_Mo_tells_110 rfl ?_
    refine zi_imul d_Mo_tells_112 ?_
    refine zi_iadd d_Mo_tells_113 ?_
    refine zi_istore [(8, .int ((v_5 + 2) + (8 * x7))), (0, .ref a0), (1, .int x1), (5, .long y5), (7, .int x7)] d_Mo_tells_114 (by decide) rfl ?_
    refine zi_aload_n 1 d_Mo_tells_116 rfl ?_
    refine zo_getR 120 zkd_11 3 d_Mo_tells_117 eb_1 rfl tw_1232 rfl ?_
    refine zi_iload 0 d_Mo_tells_120 rfl ?_
    obtain ⟨v_6, ev_6, h⟩ := zbind h
    refine zo_iald 123 d_Mo_tells_122 ev_6 rfl ?_
    refine zi_iload_n 2 d_Mo_tells_123 rfl ?_
    refine zi_icmp_ne (tgt := 151) d_Mo_tells_124 rfl (fun c_7 => ?_) (fun c_7 => ?_)
    · rw [if_neg c_7] at h
      refine zi_lo [(0, .ref a0), (1, .int x1), (5, .long y5), (7, .int x7)] [1, 2, 3, 4] rfl ?_
      exact K_Mo_tells_b151 n E S r86 a0 x1 y5 x7 M r M' hr86 h
    · rw [if_pos c_7] at h
      refine zi_aload_n 1 d_Mo_tells_127 rfl ?_
      refine zi_iload 0 d_Mo_tells_128 rfl ?_
      obtain ⟨q_8, eq_8, h⟩ := zbind h
      refine zo_virt (k' := 0) (n' := 0) 133 [.int ((v_5 + 2) + (8 * x7))] [] [.int (bI q_8.1)] zkd_11 (zgR_s eb_1).1 (C_Mo_isSo n E S a0 ((v_5 + 2) + (8 * x7)) M q_8.1 q_8.2 eq_8) d_Mo_tells_130 tw_1455 tw_1452 tw_1454 ts_41 tw_13 dd_Mo_isSo ⟨Nat.le_of_ble_eq_true rfl, Nat.le_of_ble_eq_true rfl, Nat.le_of_ble_eq_true rfl, Nat.le_of_ble_eq_true rfl⟩ (Nat.le_of_ble_eq_true rfl) rfl rfl rfl rfl ?_
      refine zo_ifeqB d_Mo_tells_133 rfl 136 rfl (fun c_9 => ?_) (fun c_9 => ?_)
      · rw [if_neg c_9] at h
        refine zi_lo [(0, .ref a0), (1, .int x1), (5, .long y5), (7, .int x7)] [1, 2, 3, 4] rfl ?_
        exact K_Mo_tells_b151 n E S r86 a0 x1 y5 x7 q_8.2 r M' hr86 h
      · rw [if_pos c_9] at h
        refine zi_iload_n 2 d_Mo_tells_136 rfl ?_
        refine zi_iconst 3 d_Mo_tells_137 rfl ?_
        refine zi_icmp_ne (tgt := 145) d_Mo_tells_138 rfl (fun c_10 => ?_) (fun c_10 => ?_)
        · rw [if_neg c_10] at h
          refine zi_aload_n 1 d_Mo_tells_145 rfl ?_
          obtain ⟨v_11, ev_11, h⟩ := zbind h
          refine zo_getJ 149 zkd_11 40 d_Mo_tells_146 ev_11 rfl tw_1269 rfl ?_
          refine zi_lo [(0, .ref a0), (1, .int x1), (7, .int x7)] [1, 2, 4] rfl ?_
          exact K_Mo_tells_b149 n E S r86 a0 x1 x7 v_11 q_8.2 r M' hr86 h
        · rw [if_pos c_10] at h
          refine zi_lconst 1 d_Mo_tells_141 rfl ?_
          refine zi_goto (tgt := 149) d_Mo_tells_142 rfl ?_
          refine zi_lo [(0, .ref a0), (1, .int x1), (7, .int x7)] [1, 2, 4] rfl ?_
          exact K_Mo_tells_b149 n E S r86 a0 x1 x7 1 q_8.2 r M' hr86 h
theorem K_Mo_tells_b86 (n : Nat) (E : zE) (S : zS) (a0 : Nat) (x1 : Int32) (y5 : Int64) (x7 : Int32) (M : zH) (r : Int64) (M' : zH)  (h : F_Mo_tells_b86 n E S (a0, x1, y5, x7, M) = some (r, M')) : zG E Y_Mo_tells (some (.long r), S, M') 86 [(0, .ref a0), (1, .int x1), (5, .long y5), (7, .int x7)] [] S M 0 0 := by
  have key : ∀ (k : Nat) (a0 : Nat) (x1 : Int32) (y5 : Int64) (x7 : Int32) (M : zH), zfix (fun r86 s => F_Mo_tells_L86 n E S r86 s.1 s.2.1 s.2.2.1 s.2.2.2.1 s.2.2.2.2) k (a0, x1, y5, x7, M) = some (r, M') → zG E Y_Mo_tells (some (.long r), S, M') 86 [(0, .ref a0), (1, .int x1), (5, .long y5), (7, .int x7)] [] S M 0 0 := by
    intro k
    induction k with
    | zero => intro a0 x1 y5 x7 M h; cases h
    | succ k ih => intro a0 x1 y5 x7 M h; exact K_Mo_tells_L86 n E S _ a0 x1 y5 x7 M r M'  (fun a0 x1 y5 x7 M h => ih a0 x1 y5 x7 M h) h
  exact key n a0 x1 y5 x7 M h
theorem K_Mo_tells (n : Nat) (E : zE) (S : zS) (a0 : Nat) (x1 : Int32) (x2 : Int32) (y3 : Int64) (M : zH) (r : Int64) (M' : zH)  (h : F_Mo_tells n E S a0 x1 x2 y3 M = some (r, M')) : zG E Y_Mo_tells (some (.long r), S, M') 0 [(0, .ref a0), (1, .int x1), (2, .int x2), (3, .long y3)] [] S M 0 0 := by
  unfold F_Mo_tells at h
  refine zi_aload_n 0 d_Mo_tells_0 rfl ?_
  obtain ⟨b_12, eb_12, h⟩ := zbind h
  refine zo_getR 4 zkd_11 3 d_Mo_tells_1 eb_12 rfl tw_1232 rfl ?_
  refine zi_iconst 3 d_Mo_tells_4 rfl ?_
  obtain ⟨v_13, ev_13, h⟩ := zbind h
  refine zo_iald 6 d_Mo_tells_5 ev_13 rfl ?_
  refine zi_iconst (-1) d_Mo_tells_6 rfl ?_
  refine zi_icmp_ne (tgt := 12) d_Mo_tells_7 rfl (fun c_14 => ?_) (fun c_14 => ?_)
  · rw [if_neg c_14] at h
    refine zi_aload_n 0 d_Mo_tells_12 rfl ?_
    refine zi_bipush 80 d_Mo_tells_13 rfl ?_
    refine zi_sipush 900 d_Mo_tells_15 rfl ?_
    refine zi_aload_n 0 d_Mo_tells_18 rfl ?_
    refine zo_getR 22 zkd_11 3 d_Mo_tells_19 eb_12 rfl tw_1232 rfl ?_
    refine zi_iconst 3 d_Mo_tells_22 rfl ?_
    obtain ⟨v_15, ev_15, h⟩ := zbind h
    refine zo_iald 24 d_Mo_tells_23 ev_15 rfl ?_
    refine zi_imul d_Mo_tells_24 ?_
    refine zi_iadd d_Mo_tells_25 ?_
    obtain ⟨m_16, em_16, h⟩ := zbind h
    refine zo_putI 29 zkd_11 34 d_Mo_tells_26 em_16 rfl rfl rfl tw_1263 rfl ?_
    refine zi_aload_n 0 d_Mo_tells_29 rfl ?_
    obtain ⟨b_17, eb_17, h⟩ := zbind h
    refine zo_getR 33 zkd_11 35 d_Mo_tells_30 eb_17 rfl tw_1264 rfl ?_
    refine zi_iconst 4 d_Mo_tells_33 rfl ?_
    refine zi_iload_n 2 d_Mo_tells_34 rfl ?_
    refine zi_i2l d_Mo_tells_35 ?_
    obtain ⟨m_18, em_18, h⟩ := zbind h
    refine zo_last 37 d_Mo_tells_36 em_18 rfl ?_
    refine zi_aload_n 0 d_Mo_tells_37 rfl ?_
    refine zo_getR 41 zkd_11 35 d_Mo_tells_38 eb_17 rfl tw_1264 rfl ?_
    refine zi_bipush 7 d_Mo_tells_41 rfl ?_
    refine zi_aload_n 0 d_Mo_tells_43 rfl ?_
    refine zo_getR 47 zkd_11 3 d_Mo_tells_44 eb_12 rfl tw_1232 rfl ?_
    refine zi_iconst 4 d_Mo_tells_47 rfl ?_
    obtain ⟨v_19, ev_19, h⟩ := zbind h
    refine zo_iald 49 d_Mo_tells_48 ev_19 rfl ?_
    refine zi_i2l d_Mo_tells_49 ?_
    obtain ⟨m_20, em_20, h⟩ := zbind h
    refine zo_last 51 d_Mo_tells_50 em_20 rfl ?_
    refine zi_aload_n 0 d_Mo_tells_51 rfl ?_
    refine zo_getR 55 zkd_11 35 d_Mo_tells_52 eb_17 rfl tw_1264 rfl ?_
    refine zi_bipush 8 d_Mo_tells_55 rfl ?_
    refine zi_aload_n 0 d_Mo_tells_57 rfl ?_
    refine zo_getR 61 zkd_11 3 d_Mo_tells_58 eb_12 rfl tw_1232 rfl ?_
    refine zi_iconst 5 d_Mo_tells_61 rfl ?_
    obtain ⟨v_21, ev_21, h⟩ := zbind h
    refine zo_iald 63 d_Mo_tells_62 ev_21 rfl ?_
    refine zi_i2l d_Mo_tells_63 ?_
    obtain ⟨m_22, em_22, h⟩ := zbind h
    refine zo_last 65 d_Mo_tells_64 em_22 rfl ?_
    refine zi_aload_n 0 d_Mo_tells_65 rfl ?_
    refine zo_getR 69 zkd_11 35 d_Mo_tells_66 eb_17 rfl tw_1264 rfl ?_
    refine zi_bipush 9 d_Mo_tells_69 rfl ?_
    refine zi_aload_n 0 d_Mo_tells_71 rfl ?_
    refine zo_getR 75 zkd_11 3 d_Mo_tells_72 eb_12 rfl tw_1232 rfl ?_
    refine zi_bipush 6 d_Mo_tells_75 rfl ?_
    obtain ⟨v_23, ev_23, h⟩ := zbind h
    refine zo_iald 78 d_Mo_tells_77 ev_23 rfl ?_
    refine zi_i2l d_Mo_tells_78 ?_
    obtain ⟨m_24, em_24, h⟩ := zbind h
    refine zo_last 80 d_Mo_tells_79 em_24 rfl ?_
    refine zi_lload_n 3 d_Mo_tells_80 rfl ?_
    refine zi_lstore [(5, .long y3), (0, .ref a0), (1, .int x1), (2, .int x2), (3, .long y3)] d_Mo_tells_81 (by decide) rfl ?_
    refine zi_iconst 0 d_Mo_tells_83 rfl ?_
    refine zi_istore [(7, .int 0), (5, .long y3), (0, .ref a0), (1, .int x1), (2, .int x2), (3, .long y3)] d_Mo_tells_84 (by decide) rfl ?_
    refine zi_lo [(0, .ref a0), (1, .int x1), (5, .long y3), (7, .int 0)] [2, 3, 1, 0] rfl ?_
    exact K_Mo_tells_b86 n E S a0 x1 y3 0 m_24 r M'  h
  · rw [if_pos c_14] at h
    refine zi_lload_n 3 d_Mo_tells_10 rfl ?_
    cases h
    exact zo_ret d_Mo_tells_11 (Nat.le_of_ble_eq_true rfl) (Nat.le_of_ble_eq_true rfl) rfl
theorem C_Mo_tells (n : Nat) (E : zE) (S : zS) (a0 : Nat) (x1 : Int32) (x2 : Int32) (y3 : Int64) (M : zH) (r : Int64) (M' : zH) (h : F_Mo_tells n E S a0 x1 x2 y3 M = some (r, M')) : zC E Y_Mo_tells [.ref a0, .int x1, .int x2, .long y3] S M (some (.long r), S, M') :=
  zC.of (Or.inl (show plainName "NightColanderModel" = true by decide)) (Nat.le_of_ble_eq_true rfl) (trivial) (K_Mo_tells n E S a0 x1 x2 y3 M r M' h)
theorem d_Mo_within_0 : decode (yB Y_Mo_within) 0 = .ok (.lload_n 0, 1) := by decide +kernel
theorem d_Mo_within_1 : decode (yB Y_Mo_within) 1 = .ok (.iload_n 2, 1) := by decide +kernel
theorem d_Mo_within_2 : decode (yB Y_Mo_within) 2 = .ok (.i2l, 1) := by decide +kernel
theorem d_Mo_within_3 : decode (yB Y_Mo_within) 3 = .ok (.lcmp, 1) := by decide +kernel
theorem d_Mo_within_4 : decode (yB Y_Mo_within) 4 = .ok (.ifCond .ge 7, 3) := by decide +kernel
theorem d_Mo_within_7 : decode (yB Y_Mo_within) 7 = .ok (.iload_n 2, 1) := by decide +kernel
theorem d_Mo_within_8 : decode (yB Y_Mo_within) 8 = .ok (.goto 16, 3) := by decide +kernel
theorem d_Mo_within_11 : decode (yB Y_Mo_within) 11 = .ok (.lload_n 0, 1) := by decide +kernel
theorem d_Mo_within_12 : decode (yB Y_Mo_within) 12 = .ok (.iload_n 3, 1) := by decide +kernel
theorem d_Mo_within_13 : decode (yB Y_Mo_within) 13 = .ok (.i2l, 1) := by decide +kernel
theorem d_Mo_within_14 : decode (yB Y_Mo_within) 14 = .ok (.lcmp, 1) := by decide +kernel
theorem d_Mo_within_15 : decode (yB Y_Mo_within) 15 = .ok (.ifCond .le 7, 3) := by decide +kernel
theorem d_Mo_within_18 : decode (yB Y_Mo_within) 18 = .ok (.iload_n 3, 1) := by decide +kernel
theorem d_Mo_within_19 : decode (yB Y_Mo_within) 19 = .ok (.goto 5, 3) := by decide +kernel
theorem d_Mo_within_22 : decode (yB Y_Mo_within) 22 = .ok (.lload_n 0, 1) := by decide +kernel
theorem d_Mo_within_23 : decode (yB Y_Mo_within) 23 = .ok (.l2i, 1) := by decide +kernel
theorem d_Mo_within_24 : decode (yB Y_Mo_within) 24 = .ok (.ireturn, 1) := by decide +kernel
def F_Mo_within (n : Nat) (E : zE) (S : zS) (y0 : Int64) (x2 : Int32) (x3 : Int32) (M : zH) : Option (Int32 × zH) :=
  if x2.toInt64 ≤ y0 then
    if y0 ≤ x3.toInt64 then
      some (y0.toInt32, M)
    else
      some (x3, M)
  else
    some (x2, M)
theorem K_Mo_within (n : Nat) (E : zE) (S : zS) (y0 : Int64) (x2 : Int32) (x3 : Int32) (M : zH) (r : Int32) (M' : zH)  (h : F_Mo_within n E S y0 x2 x3 M = some (r, M')) : zG E Y_Mo_within (some (.int r), S, M') 0 [(0, .long y0), (2, .int x2), (3, .int x3)] [] S M 0 0 := by
  unfold F_Mo_within at h
  refine zi_lload_n 0 d_Mo_within_0 rfl ?_
  refine zi_iload_n 1 d_Mo_within_1 rfl ?_
  refine zi_i2l d_Mo_within_2 ?_
  refine zo_lc_ge d_Mo_within_3 d_Mo_within_4 rfl 7 rfl (fun c_1 => ?_) (fun c_1 => ?_)
  · rw [if_pos c_1] at h
    refine zi_lload_n 0 d_Mo_within_11 rfl ?_
    refine zi_iload_n 2 d_Mo_within_12 rfl ?_
    refine zi_i2l d_Mo_within_13 ?_
    refine zo_lc_le d_Mo_within_14 d_Mo_within_15 rfl 18 rfl (fun c_2 => ?_) (fun c_2 => ?_)
    · rw [if_pos c_2] at h
      refine zi_lload_n 0 d_Mo_within_22 rfl ?_
      refine zi_l2i d_Mo_within_23 ?_
      cases h
      exact zo_ret d_Mo_within_24 (Nat.le_of_ble_eq_true rfl) (Nat.le_of_ble_eq_true rfl) rfl
    · rw [if_neg c_2] at h
      refine zi_iload_n 2 d_Mo_within_18 rfl ?_
      refine zi_goto (tgt := 24) d_Mo_within_19 rfl ?_
      cases h
      exact zo_ret d_Mo_within_24 (Nat.le_of_ble_eq_true rfl) (Nat.le_of_ble_eq_true rfl) rfl
  · rw [if_neg c_1] at h
    refine zi_iload_n 1 d_Mo_within_7 rfl ?_
    refine zi_goto (tgt := 24) d_Mo_within_8 rfl ?_
    cases h
    exact zo_ret d_Mo_within_24 (Nat.le_of_ble_eq_true rfl) (Nat.le_of_ble_eq_true rfl) rfl
theorem C_Mo_within (n : Nat) (E : zE) (S : zS) (y0 : Int64) (x2 : Int32) (x3 : Int32) (M : zH) (r : Int32) (M' : zH) (h : F_Mo_within n E S y0 x2 x3 M = some (r, M')) : zC E Y_Mo_within [.long y0, .int x2, .int x3] S M (some (.int r), S, M') :=
  zC.of (Or.inl (show plainName "NightColanderModel" = true by decide)) (Nat.le_of_ble_eq_true rfl) (trivial) (K_Mo_within n E S y0 x2 x3 M r M' h)
theorem d_Mo_runsOf_0 : decode (yB Y_Mo_runsOf) 0 = .ok (.aload_n 0, 1) := by decide +kernel
theorem d_Mo_runsOf_1 : decode (yB Y_Mo_runsOf) 1 = .ok (.getfield 13, 3) := by decide +kernel
theorem d_Mo_runsOf_4 : decode (yB Y_Mo_runsOf) 4 = .ok (.bipush 12, 2) := by decide +kernel
theorem d_Mo_runsOf_6 : decode (yB Y_Mo_runsOf) 6 = .ok (.bipush 8, 2) := by decide +kernel
theorem d_Mo_runsOf_8 : decode (yB Y_Mo_runsOf) 8 = .ok (.iload_n 1, 1) := by decide +kernel
theorem d_Mo_runsOf_9 : decode (yB Y_Mo_runsOf) 9 = .ok (.imul, 1) := by decide +kernel
theorem d_Mo_runsOf_10 : decode (yB Y_Mo_runsOf) 10 = .ok (.iadd, 1) := by decide +kernel
theorem d_Mo_runsOf_11 : decode (yB Y_Mo_runsOf) 11 = .ok (.iload_n 2, 1) := by decide +kernel
theorem d_Mo_runsOf_12 : decode (yB Y_Mo_runsOf) 12 = .ok (.iadd, 1) := by decide +kernel
theorem d_Mo_runsOf_13 : decode (yB Y_Mo_runsOf) 13 = .ok (.iaload, 1) := by decide +kernel
theorem d_Mo_runsOf_14 : decode (yB Y_Mo_runsOf) 14 = .ok (.istore 4, 2) := by decide +kernel
theorem d_Mo_runsOf_16 : decode (yB Y_Mo_runsOf) 16 = .ok (.aload_n 0, 1) := by decide +kernel
theorem d_Mo_runsOf_17 : decode (yB Y_Mo_runsOf) 17 = .ok (.getfield 103, 3) := by decide +kernel
theorem d_Mo_runsOf_20 : decode (yB Y_Mo_runsOf) 20 = .ok (.iconst 1, 1) := by decide +kernel
theorem d_Mo_runsOf_21 : decode (yB Y_Mo_runsOf) 21 = .ok (.iload_n 1, 1) := by decide +kernel
theorem d_Mo_runsOf_22 : decode (yB Y_Mo_runsOf) 22 = .ok (.i2l, 1) := by decide +kernel
theorem d_Mo_runsOf_23 : decode (yB Y_Mo_runsOf) 23 = .ok (.lastore, 1) := by decide +kernel
theorem d_Mo_runsOf_24 : decode (yB Y_Mo_runsOf) 24 = .ok (.aload_n 0, 1) := by decide +kernel
theorem d_Mo_runsOf_25 : decode (yB Y_Mo_runsOf) 25 = .ok (.getfield 103, 3) := by decide +kernel
theorem d_Mo_runsOf_28 : decode (yB Y_Mo_runsOf) 28 = .ok (.iconst 2, 1) := by decide +kernel
theorem d_Mo_runsOf_29 : decode (yB Y_Mo_runsOf) 29 = .ok (.iload_n 2, 1) := by decide +kernel
theorem d_Mo_runsOf_30 : decode (yB Y_Mo_runsOf) 30 = .ok (.i2l, 1) := by decide +kernel
theorem d_Mo_runsOf_31 : decode (yB Y_Mo_runsOf) 31 = .ok (.lastore, 1) := by decide +kernel
theorem d_Mo_runsOf_32 : decode (yB Y_Mo_runsOf) 32 = .ok (.aload_n 0, 1) := by decide +kernel
theorem d_Mo_runsOf_33 : decode (yB Y_Mo_runsOf) 33 = .ok (.getfield 103, 3) := by decide +kernel
theorem d_Mo_runsOf_36 : decode (yB Y_Mo_runsOf) 36 = .ok (.iconst 3, 1) := by decide +kernel
theorem d_Mo_runsOf_37 : decode (yB Y_Mo_runsOf) 37 = .ok (.iload 4, 2) := by decide +kernel
theorem d_Mo_runsOf_39 : decode (yB Y_Mo_runsOf) 39 = .ok (.i2l, 1) := by decide +kernel
theorem d_Mo_runsOf_40 : decode (yB Y_Mo_runsOf) 40 = .ok (.lastore, 1) := by decide +kernel
theorem d_Mo_runsOf_41 : decode (yB Y_Mo_runsOf) 41 = .ok (.aload_n 0, 1) := by decide +kernel
theorem d_Mo_runsOf_42 : decode (yB Y_Mo_runsOf) 42 = .ok (.getfield 103, 3) := by decide +kernel
theorem d_Mo_runsOf_45 : decode (yB Y_Mo_runsOf) 45 = .ok (.iconst 5, 1) := by decide +kernel
theorem d_Mo_runsOf_46 : decode (yB Y_Mo_runsOf) 46 = .ok (.ldc2_w 228, 3) := by decide +kernel
theorem d_Mo_runsOf_49 : decode (yB Y_Mo_runsOf) 49 = .ok (.lastore, 1) := by decide +kernel
theorem d_Mo_runsOf_50 : decode (yB Y_Mo_runsOf) 50 = .ok (.aload_n 0, 1) := by decide +kernel
theorem d_Mo_runsOf_51 : decode (yB Y_Mo_runsOf) 51 = .ok (.getfield 103, 3) := by decide +kernel
theorem d_Mo_runsOf_54 : decode (yB Y_Mo_runsOf) 54 = .ok (.bipush 6, 2) := by decide +kernel
theorem d_Mo_runsOf_56 : decode (yB Y_Mo_runsOf) 56 = .ok (.ldc2_w 228, 3) := by decide +kernel
theorem d_Mo_runsOf_59 : decode (yB Y_Mo_runsOf) 59 = .ok (.lastore, 1) := by decide +kernel
theorem d_Mo_runsOf_60 : decode (yB Y_Mo_runsOf) 60 = .ok (.aload_n 0, 1) := by decide +kernel
theorem d_Mo_runsOf_61 : decode (yB Y_Mo_runsOf) 61 = .ok (.iconst 0, 1) := by decide +kernel
theorem d_Mo_runsOf_62 : decode (yB Y_Mo_runsOf) 62 = .ok (.iload_n 3, 1) := by decide +kernel
theorem d_Mo_runsOf_63 : decode (yB Y_Mo_runsOf) 63 = .ok (.iload 4, 2) := by decide +kernel
theorem d_Mo_runsOf_65 : decode (yB Y_Mo_runsOf) 65 = .ok (.aload_n 0, 1) := by decide +kernel
theorem d_Mo_runsOf_66 : decode (yB Y_Mo_runsOf) 66 = .ok (.getfield 13, 3) := by decide +kernel
theorem d_Mo_runsOf_69 : decode (yB Y_Mo_runsOf) 69 = .ok (.iconst 5, 1) := by decide +kernel
theorem d_Mo_runsOf_70 : decode (yB Y_Mo_runsOf) 70 = .ok (.iaload, 1) := by decide +kernel
theorem d_Mo_runsOf_71 : decode (yB Y_Mo_runsOf) 71 = .ok (.imul, 1) := by decide +kernel
theorem d_Mo_runsOf_72 : decode (yB Y_Mo_runsOf) 72 = .ok (.i2l, 1) := by decide +kernel
theorem d_Mo_runsOf_73 : decode (yB Y_Mo_runsOf) 73 = .ok (.invokevirtual 431, 3) := by decide +kernel
theorem d_Mo_runsOf_76 : decode (yB Y_Mo_runsOf) 76 = .ok (.iconst 0, 1) := by decide +kernel
theorem d_Mo_runsOf_77 : decode (yB Y_Mo_runsOf) 77 = .ok (.bipush 99, 2) := by decide +kernel
theorem d_Mo_runsOf_79 : decode (yB Y_Mo_runsOf) 79 = .ok (.invokestatic 435, 3) := by decide +kernel
theorem d_Mo_runsOf_82 : decode (yB Y_Mo_runsOf) 82 = .ok (.ireturn, 1) := by decide +kernel
def F_Mo_runsOf (n : Nat) (E : zE) (S : zS) (a0 : Nat) (x1 : Int32) (x2 : Int32) (x3 : Int32) (M : zH) : Option (Int32 × zH) :=
  (zgR S a0 11 3).bind fun b_1 =>
  (zldI S M b_1 ((12 + (8 * x1)) + x2)).bind fun v_2 =>
  (zgR S a0 11 35).bind fun b_3 =>
  (zstJ S M b_3 1 x1.toInt64).bind fun m_4 =>
  (zstJ S m_4 b_3 2 x2.toInt64).bind fun m_5 =>
  (zstJ S m_5 b_3 3 v_2.toInt64).bind fun m_6 =>
  (zstJ S m_6 b_3 5 (-1)).bind fun m_7 =>
  (zstJ S m_7 b_3 6 (-1)).bind fun m_8 =>
  (zldI S m_8 b_1 5).bind fun v_9 =>
  (F_Mo_tells n E S a0 0 x3 ((v_2 * v_9).toInt64) m_8).bind fun q_10 =>
  (F_Mo_within n E S q_10.1 0 99 q_10.2).bind fun q_11 =>
  some (q_11.1, q_11.2)
theorem K_Mo_runsOf (n : Nat) (E : zE) (S : zS) (a0 : Nat) (x1 : Int32) (x2 : Int32) (x3 : Int32) (M : zH) (r : Int32) (M' : zH)  (h : F_Mo_runsOf n E S a0 x1 x2 x3 M = some (r, M')) : zG E Y_Mo_runsOf (some (.int r), S, M') 0 [(0, .ref a0), (1, .int x1), (2, .int x2), (3, .int x3)] [] S M 0 0 := by
  unfold F_Mo_runsOf at h
  refine zi_aload_n 0 d_Mo_runsOf_0 rfl ?_
  obtain ⟨b_1, eb_1, h⟩ := zbind h
  refine zo_getR 4 zkd_11 3 d_Mo_runsOf_1 eb_1 rfl tw_1232 rfl ?_
  refine zi_bipush 12 d_Mo_runsOf_4 rfl ?_
  refine zi_bipush 8 d_Mo_runsOf_6 rfl ?_
  refine zi_iload_n 1 d_Mo_runsOf_8 rfl ?_
  refine zi_imul d_Mo_runsOf_9 ?_
  refine zi_iadd d_Mo_runsOf_10 ?_
  refine zi_iload_n 2 d_Mo_runsOf_11 rfl ?_
  refine zi_iadd d_Mo_runsOf_12 ?_
  obtain ⟨v_2, ev_2, h⟩ := zbind h
  refine zo_iald 14 d_Mo_runsOf_13 ev_2 rfl ?_
  refine zi_istore [(4, .int v_2), (0, .ref a0), (1, .int x1), (2, .int x2), (3, .int x3)] d_Mo_runsOf_14 (by decide) rfl ?_
  refine zi_aload_n 1 d_Mo_runsOf_16 rfl ?_
  obtain ⟨b_3, eb_3, h⟩ := zbind h
  refine zo_getR 20 zkd_11 35 d_Mo_runsOf_17 eb_3 rfl tw_1264 rfl ?_
  refine zi_iconst 1 d_Mo_runsOf_20 rfl ?_
  refine zi_iload_n 2 d_Mo_runsOf_21 rfl ?_
  refine zi_i2l d_Mo_runsOf_22 ?_
  obtain ⟨m_4, em_4, h⟩ := zbind h
  refine zo_last 24 d_Mo_runsOf_23 em_4 rfl ?_
  refine zi_aload_n 1 d_Mo_runsOf_24 rfl ?_
  refine zo_getR 28 zkd_11 35 d_Mo_runsOf_25 eb_3 rfl tw_1264 rfl ?_
  refine zi_iconst 2 d_Mo_runsOf_28 rfl ?_
  refine zi_iload_n 3 d_Mo_runsOf_29 rfl ?_
  refine zi_i2l d_Mo_runsOf_30 ?_
  obtain ⟨m_5, em_5, h⟩ := zbind h
  refine zo_last 32 d_Mo_runsOf_31 em_5 rfl ?_
  refine zi_aload_n 1 d_Mo_runsOf_32 rfl ?_
  refine zo_getR 36 zkd_11 35 d_Mo_runsOf_33 eb_3 rfl tw_1264 rfl ?_
  refine zi_iconst 3 d_Mo_runsOf_36 rfl ?_
  refine zi_iload 0 d_Mo_runsOf_37 rfl ?_
  refine zi_i2l d_Mo_runsOf_39 ?_
  obtain ⟨m_6, em_6, h⟩ := zbind h
  refine zo_last 41 d_Mo_runsOf_40 em_6 rfl ?_
  refine zi_aload_n 1 d_Mo_runsOf_41 rfl ?_
  refine zo_getR 45 zkd_11 35 d_Mo_runsOf_42 eb_3 rfl tw_1264 rfl ?_
  refine zi_iconst 5 d_Mo_runsOf_45 rfl ?_
  refine zi_ldc2 d_Mo_runsOf_46 tw_1447 ?_
  obtain ⟨m_7, em_7, h⟩ := zbind h
  refine zo_last 50 d_Mo_runsOf_49 em_7 rfl ?_
  refine zi_aload_n 1 d_Mo_runsOf_50 rfl ?_
  refine zo_getR 54 zkd_11 35 d_Mo_runsOf_51 eb_3 rfl tw_1264 rfl ?_
  refine zi_bipush 6 d_Mo_runsOf_54 rfl ?_
  refine zi_ldc2 d_Mo_runsOf_56 tw_1447 ?_
  obtain ⟨m_8, em_8, h⟩ := zbind h
  refine zo_last 60 d_Mo_runsOf_59 em_8 rfl ?_
  refine zi_aload_n 1 d_Mo_runsOf_60 rfl ?_
  refine zi_iconst 0 d_Mo_runsOf_61 rfl ?_
  refine zi_iload_n 4 d_Mo_runsOf_62 rfl ?_
  refine zi_iload 0 d_Mo_runsOf_63 rfl ?_
  refine zi_aload_n 1 d_Mo_runsOf_65 rfl ?_
  refine zo_getR 69 zkd_11 3 d_Mo_runsOf_66 eb_1 rfl tw_1232 rfl ?_
  refine zi_iconst 5 d_Mo_runsOf_69 rfl ?_
  obtain ⟨v_9, ev_9, h⟩ := zbind h
  refine zo_iald 71 d_Mo_runsOf_70 ev_9 rfl ?_
  refine zi_imul d_Mo_runsOf_71 ?_
  refine zi_i2l d_Mo_runsOf_72 ?_
  obtain ⟨q_10, eq_10, h⟩ := zbind h
  refine zo_virt (k' := 0) (n' := 0) 76 [.int 0, .int x3, .long ((v_2 * v_9).toInt64)] [] [.long q_10.1] zkd_11 (zgR_s eb_1).1 (C_Mo_tells n E S a0 0 x3 ((v_2 * v_9).toInt64) m_8 q_10.1 q_10.2 eq_10) d_Mo_runsOf_73 tw_1451 tw_1448 tw_1450 ts_40 tw_13 dd_Mo_tells ⟨Nat.le_of_ble_eq_true rfl, Nat.le_of_ble_eq_true rfl, Nat.le_of_ble_eq_true rfl, Nat.le_of_ble_eq_true rfl⟩ (Nat.le_of_ble_eq_true rfl) rfl rfl rfl rfl ?_
  refine zi_iconst 0 d_Mo_runsOf_76 rfl ?_
  refine zi_bipush 99 d_Mo_runsOf_77 rfl ?_
  obtain ⟨q_11, eq_11, h⟩ := zbind h
  refine zo_stat (k' := 0) (n' := 0) 82 [.long q_10.1, .int 0, .int 99] [] [.int q_11.1] (C_Mo_within n E S q_10.1 0 99 q_10.2 q_11.1 q_11.2 eq_11) d_Mo_runsOf_79 tw_1472 tw_1470 tw_1471 tw_13 dd_Mo_within ⟨Nat.le_of_ble_eq_true rfl, Nat.le_of_ble_eq_true rfl, Nat.le_of_ble_eq_true rfl, Nat.le_of_ble_eq_true rfl⟩ (Nat.le_of_ble_eq_true rfl) rfl rfl rfl rfl ?_
  cases h
  exact zo_ret d_Mo_runsOf_82 (Nat.le_of_ble_eq_true rfl) (Nat.le_of_ble_eq_true rfl) rfl
theorem C_Mo_runsOf (n : Nat) (E : zE) (S : zS) (a0 : Nat) (x1 : Int32) (x2 : Int32) (x3 : Int32) (M : zH) (r : Int32) (M' : zH) (h : F_Mo_runsOf n E S a0 x1 x2 x3 M = some (r, M')) : zC E Y_Mo_runsOf [.ref a0, .int x1, .int x2, .int x3] S M (some (.int r), S, M') :=
  zC.of (Or.inl (show plainName "NightColanderModel" = true by decide)) (Nat.le_of_ble_eq_true rfl) (trivial) (K_Mo_runsOf n E S a0 x1 x2 x3 M r M' h)
theorem d_Mo_hole_0 : decode (yB Y_Mo_hole) 0 = .ok (.aload_n 0, 1) := by decide +kernel
theorem d_Mo_hole_1 : decode (yB Y_Mo_hole) 1 = .ok (.iconst 0, 1) := by decide +kernel
theorem d_Mo_hole_2 : decode (yB Y_Mo_hole) 2 = .ok (.putfield 156, 3) := by decide +kernel
theorem d_Mo_hole_5 : decode (yB Y_Mo_hole) 5 = .ok (.iload_n 1, 1) := by decide +kernel
theorem d_Mo_hole_6 : decode (yB Y_Mo_hole) 6 = .ok (.invokestatic 190, 3) := by decide +kernel
theorem d_Mo_hole_9 : decode (yB Y_Mo_hole) 9 = .ok (.ifCond .eq 10, 3) := by decide +kernel
theorem d_Mo_hole_12 : decode (yB Y_Mo_hole) 12 = .ok (.iload_n 2, 1) := by decide +kernel
theorem d_Mo_hole_13 : decode (yB Y_Mo_hole) 13 = .ok (.invokestatic 194, 3) := by decide +kernel
theorem d_Mo_hole_16 : decode (yB Y_Mo_hole) 16 = .ok (.ifCond .ne 5, 3) := by decide +kernel
theorem d_Mo_hole_19 : decode (yB Y_Mo_hole) 19 = .ok (.iconst (-1), 1) := by decide +kernel
theorem d_Mo_hole_20 : decode (yB Y_Mo_hole) 20 = .ok (.ireturn, 1) := by decide +kernel
theorem d_Mo_hole_21 : decode (yB Y_Mo_hole) 21 = .ok (.iload_n 2, 1) := by decide +kernel
theorem d_Mo_hole_22 : decode (yB Y_Mo_hole) 22 = .ok (.aload_n 0, 1) := by decide +kernel
theorem d_Mo_hole_23 : decode (yB Y_Mo_hole) 23 = .ok (.getfield 13, 3) := by decide +kernel
theorem d_Mo_hole_26 : decode (yB Y_Mo_hole) 26 = .ok (.bipush 8, 2) := by decide +kernel
theorem d_Mo_hole_28 : decode (yB Y_Mo_hole) 28 = .ok (.iload_n 1, 1) := by decide +kernel
theorem d_Mo_hole_29 : decode (yB Y_Mo_hole) 29 = .ok (.iadd, 1) := by decide +kernel
theorem d_Mo_hole_30 : decode (yB Y_Mo_hole) 30 = .ok (.iaload, 1) := by decide +kernel
theorem d_Mo_hole_31 : decode (yB Y_Mo_hole) 31 = .ok (.iadd, 1) := by decide +kernel
theorem d_Mo_hole_32 : decode (yB Y_Mo_hole) 32 = .ok (.bipush 8, 2) := by decide +kernel
theorem d_Mo_hole_34 : decode (yB Y_Mo_hole) 34 = .ok (.irem, 1) := by decide +kernel
theorem d_Mo_hole_35 : decode (yB Y_Mo_hole) 35 = .ok (.istore 4, 2) := by decide +kernel
theorem d_Mo_hole_37 : decode (yB Y_Mo_hole) 37 = .ok (.aload_n 0, 1) := by decide +kernel
theorem d_Mo_hole_38 : decode (yB Y_Mo_hole) 38 = .ok (.getfield 13, 3) := by decide +kernel
theorem d_Mo_hole_41 : decode (yB Y_Mo_hole) 41 = .ok (.bipush 44, 2) := by decide +kernel
theorem d_Mo_hole_43 : decode (yB Y_Mo_hole) 43 = .ok (.iload_n 1, 1) := by decide +kernel
theorem d_Mo_hole_44 : decode (yB Y_Mo_hole) 44 = .ok (.iadd, 1) := by decide +kernel
theorem d_Mo_hole_45 : decode (yB Y_Mo_hole) 45 = .ok (.iaload, 1) := by decide +kernel
theorem d_Mo_hole_46 : decode (yB Y_Mo_hole) 46 = .ok (.iload_n 2, 1) := by decide +kernel
theorem d_Mo_hole_47 : decode (yB Y_Mo_hole) 47 = .ok (.invokestatic 197, 3) := by decide +kernel
theorem d_Mo_hole_50 : decode (yB Y_Mo_hole) 50 = .ok (.istore 5, 2) := by decide +kernel
theorem d_Mo_hole_52 : decode (yB Y_Mo_hole) 52 = .ok (.iload_n 3, 1) := by decide +kernel
theorem d_Mo_hole_53 : decode (yB Y_Mo_hole) 53 = .ok (.tableswitch 78 0 3 #[31, 46, 57, 60], 31) := by decide +kernel
theorem d_Mo_hole_84 : decode (yB Y_Mo_hole) 84 = .ok (.aload_n 0, 1) := by decide +kernel
theorem d_Mo_hole_85 : decode (yB Y_Mo_hole) 85 = .ok (.getfield 13, 3) := by decide +kernel
theorem d_Mo_hole_88 : decode (yB Y_Mo_hole) 88 = .ok (.bipush 12, 2) := by decide +kernel
theorem d_Mo_hole_90 : decode (yB Y_Mo_hole) 90 = .ok (.bipush 8, 2) := by decide +kernel
theorem d_Mo_hole_92 : decode (yB Y_Mo_hole) 92 = .ok (.iload_n 1, 1) := by decide +kernel
theorem d_Mo_hole_93 : decode (yB Y_Mo_hole) 93 = .ok (.imul, 1) := by decide +kernel
theorem d_Mo_hole_94 : decode (yB Y_Mo_hole) 94 = .ok (.iadd, 1) := by decide +kernel
theorem d_Mo_hole_95 : decode (yB Y_Mo_hole) 95 = .ok (.iload_n 2, 1) := by decide +kernel
theorem d_Mo_hole_96 : decode (yB Y_Mo_hole) 96 = .ok (.iadd, 1) := by decide +kernel
theorem d_Mo_hole_97 : decode (yB Y_Mo_hole) 97 = .ok (.iaload, 1) := by decide +kernel
theorem d_Mo_hole_98 : decode (yB Y_Mo_hole) 98 = .ok (.ireturn, 1) := by decide +kernel
theorem d_Mo_hole_99 : decode (yB Y_Mo_hole) 99 = .ok (.iload 5, 2) := by decide +kernel
theorem d_Mo_hole_101 : decode (yB Y_Mo_hole) 101 = .ok (.ifCond .eq 7, 3) := by decide +kernel
theorem d_Mo_hole_104 : decode (yB Y_Mo_hole) 104 = .ok (.iconst 1, 1) := by decide +kernel
theorem d_Mo_hole_105 : decode (yB Y_Mo_hole) 105 = .ok (.goto 4, 3) := by decide +kernel
theorem d_Mo_hole_108 : decode (yB Y_Mo_hole) 108 = .ok (.iconst 0, 1) := by decide +kernel
theorem d_Mo_hole_109 : decode (yB Y_Mo_hole) 109 = .ok (.ireturn, 1) := by decide +kernel
theorem d_Mo_hole_110 : decode (yB Y_Mo_hole) 110 = .ok (.iload 4, 2) := by decide +kernel
theorem d_Mo_hole_112 : decode (yB Y_Mo_hole) 112 = .ok (.ireturn, 1) := by decide +kernel
theorem d_Mo_hole_113 : decode (yB Y_Mo_hole) 113 = .ok (.iload 5, 2) := by decide +kernel
theorem d_Mo_hole_115 : decode (yB Y_Mo_hole) 115 = .ok (.ifCond .eq 7, 3) := by decide +kernel
theorem d_Mo_hole_118 : decode (yB Y_Mo_hole) 118 = .ok (.iconst 0, 1) := by decide +kernel
theorem d_Mo_hole_119 : decode (yB Y_Mo_hole) 119 = .ok (.goto 11, 3) := by decide +kernel
theorem d_Mo_hole_122 : decode (yB Y_Mo_hole) 122 = .ok (.aload_n 0, 1) := by decide +kernel
theorem d_Mo_hole_123 : decode (yB Y_Mo_hole) 123 = .ok (.iload_n 1, 1) := by decide +kernel
theorem d_Mo_hole_124 : decode (yB Y_Mo_hole) 124 = .ok (.iload_n 2, 1) := by decide +kernel
theorem d_Mo_hole_125 : decode (yB Y_Mo_hole) 125 = .ok (.iload 4, 2) := by decide +kernel
theorem d_Mo_hole_127 : decode (yB Y_Mo_hole) 127 = .ok (.invokevirtual 201, 3) := by decide +kernel
theorem d_Mo_hole_130 : decode (yB Y_Mo_hole) 130 = .ok (.ireturn, 1) := by decide +kernel
theorem d_Mo_hole_131 : decode (yB Y_Mo_hole) 131 = .ok (.iconst (-1), 1) := by decide +kernel
theorem d_Mo_hole_132 : decode (yB Y_Mo_hole) 132 = .ok (.ireturn, 1) := by decide +kernel
def F_Mo_hole (n : Nat) (E : zE) (S : zS) (a0 : Nat) (x1 : Int32) (x2 : Int32) (x3 : Int32) (M : zH) : Option (Int32 × zH) :=
  (zpI S M a0 11 0 0).bind fun m_1 =>
  (F_Mo_isRing n E S x1 m_1).bind fun q_2 =>
  if q_2.1 = true then
    (F_Mo_isField n E S x2 q_2.2).bind fun q_4 =>
    if q_4.1 = true then
      (zgR S a0 11 3).bind fun b_6 =>
      (zldI S q_4.2 b_6 (8 + x1)).bind fun v_7 =>
      (zremI (x2 + v_7) 8).bind fun v_8 =>
      (zldI S q_4.2 b_6 (44 + x1)).bind fun v_9 =>
      (F_Mo_is n E S v_9 x2 q_4.2).bind fun q_10 =>
      if x3 = 0 then
        (zldI S q_10.2 b_6 ((12 + (8 * x1)) + x2)).bind fun v_12 =>
        some (v_12, q_10.2)
      else
      if x3 = 1 then
        if (bI q_10.1) = 0 then
          some (0, q_10.2)
        else
          some (1, q_10.2)
      else
      if x3 = 2 then
        some (v_8, q_10.2)
      else
      if x3 = 3 then
        if (bI q_10.1) = 0 then
          (F_Mo_runsOf n E S a0 x1 x2 v_8 q_10.2).bind fun q_18 =>
          some (q_18.1, q_18.2)
        else
          some (0, q_10.2)
      else
        some ((-1), q_10.2)
    else
      some ((-1), q_4.2)
  else
    some ((-1), q_2.2)
theorem K_Mo_hole (n : Nat) (E : zE) (S : zS) (a0 : Nat) (x1 : Int32) (x2 : Int32) (x3 : Int32) (M : zH) (r : Int32) (M' : zH)  (h : F_Mo_hole n E S a0 x1 x2 x3 M = some (r, M')) : zG E Y_Mo_hole (some (.int r), S, M') 0 [(0, .ref a0), (1, .int x1), (2, .int x2), (3, .int x3)] [] S M 0 0 := by
  unfold F_Mo_hole at h
  refine zi_aload_n 0 d_Mo_hole_0 rfl ?_
  refine zi_iconst 0 d_Mo_hole_1 rfl ?_
  obtain ⟨m_1, em_1, h⟩ := zbind h
  refine zo_putI 5 zkd_11 0 d_Mo_hole_2 em_1 rfl rfl rfl tw_1229 rfl ?_
  refine zi_iload_n 1 d_Mo_hole_5 rfl ?_
  obtain ⟨q_2, eq_2, h⟩ := zbind h
  refine zo_stat (k' := 0) (n' := 0) 9 [.int x1] [] [.int (bI q_2.1)] (C_Mo_isRing n E S x1 m_1 q_2.1 q_2.2 eq_2) d_Mo_hole_6 tw_1434 tw_1432 tw_1433 tw_13 dd_Mo_isRing ⟨Nat.le_of_ble_eq_true rfl, Nat.le_of_ble_eq_true rfl, Nat.le_of_ble_eq_true rfl, Nat.le_of_ble_eq_true rfl⟩ (Nat.le_of_ble_eq_true rfl) rfl rfl rfl rfl ?_
  refine zo_ifeqB d_Mo_hole_9 rfl 12 rfl (fun c_3 => ?_) (fun c_3 => ?_)
  · rw [if_neg c_3] at h
    refine zi_iconst (-1) d_Mo_hole_19 rfl ?_
    cases h
    exact zo_ret d_Mo_hole_20 (Nat.le_of_ble_eq_true rfl) (Nat.le_of_ble_eq_true rfl) rfl
  · rw [if_pos c_3] at h
    refine zi_iload_n 2 d_Mo_hole_12 rfl ?_
    obtain ⟨q_4, eq_4, h⟩ := zbind h
    refine zo_stat (k' := 0) (n' := 0) 16 [.int x2] [] [.int (bI q_4.1)] (C_Mo_isField n E S x2 q_2.2 q_4.1 q_4.2 eq_4) d_Mo_hole_13 tw_1438 tw_1436 tw_1437 tw_13 dd_Mo_isField ⟨Nat.le_of_ble_eq_true rfl, Nat.le_of_ble_eq_true rfl, Nat.le_of_ble_eq_true rfl, Nat.le_of_ble_eq_true rfl⟩ (Nat.le_of_ble_eq_true rfl) rfl rfl rfl rfl ?_
    refine zo_ifneB d_Mo_hole_16 rfl 19 rfl (fun c_5 => ?_) (fun c_5 => ?_)
    · rw [if_pos c_5] at h
      refine zi_iload_n 2 d_Mo_hole_21 rfl ?_
      refine zi_aload_n 0 d_Mo_hole_22 rfl ?_
      obtain ⟨b_6, eb_6, h⟩ := zbind h
      refine zo_getR 26 zkd_11 3 d_Mo_hole_23 eb_6 rfl tw_1232 rfl ?_
      refine zi_bipush 8 d_Mo_hole_26 rfl ?_
      refine zi_iload_n 1 d_Mo_hole_28 rfl ?_
      refine zi_iadd d_Mo_hole_29 ?_
      obtain ⟨v_7, ev_7, h⟩ := zbind h
      refine zo_iald 31 d_Mo_hole_30 ev_7 rfl ?_
      refine zi_iadd d_Mo_hole_31 ?_
      refine zi_bipush 8 d_Mo_hole_32 rfl ?_
      obtain ⟨v_8, ev_8, h⟩ := zbind h
      refine zo_irem 35 d_Mo_hole_34 ev_8 rfl ?_
      refine zi_istore [(4, .int v_8), (0, .ref a0), (1, .int x1), (2, .int x2), (3, .int x3)] d_Mo_hole_35 (by decide) rfl ?_
      refine zi_aload_n 1 d_Mo_hole_37 rfl ?_
      refine zo_getR 41 zkd_11 3 d_Mo_hole_38 eb_6 rfl tw_1232 rfl ?_
      refine zi_bipush 44 d_Mo_hole_41 rfl ?_
      refine zi_iload_n 2 d_Mo_hole_43 rfl ?_
      refine zi_iadd d_Mo_hole_44 ?_
      obtain ⟨v_9, ev_9, h⟩ := zbind h
      refine zo_iald 46 d_Mo_hole_45 ev_9 rfl ?_
      refine zi_iload_n 3 d_Mo_hole_46 rfl ?_
      obtain ⟨q_10, eq_10, h⟩ := zbind h
      refine zo_stat (k' := 0) (n' := 0) 50 [.int v_9, .int x2] [] [.int (bI q_10.1)] (C_Mo_is n E S v_9 x2 q_4.2 q_10.1 q_10.2 eq_10) d_Mo_hole_47 tw_1442 tw_1440 tw_1441 tw_13 dd_Mo_is ⟨Nat.le_of_ble_eq_true rfl, Nat.le_of_ble_eq_true rfl, Nat.le_of_ble_eq_true rfl, Nat.le_of_ble_eq_true rfl⟩ (Nat.le_of_ble_eq_true rfl) rfl rfl rfl rfl ?_
      refine zi_istore [(5, .int (bI q_10.1)), (4, .int v_8), (0, .ref a0), (1, .int x1), (2, .int x2), (3, .int x3)] d_Mo_hole_50 (by decide) rfl ?_
      refine zi_iload_n 5 d_Mo_hole_52 rfl ?_
      by_cases c_11 : x3 = 0
      · rw [if_pos c_11] at h
        refine zo_tab (tgt := 84) 0 d_Mo_hole_53 c_11 (by decide) (by decide) rfl rfl ?_
        refine zi_aload_n 2 d_Mo_hole_84 rfl ?_
        refine zo_getR 88 zkd_11 3 d_Mo_hole_85 eb_6 rfl tw_1232 rfl ?_
        refine zi_bipush 12 d_Mo_hole_88 rfl ?_
        refine zi_bipush 8 d_Mo_hole_90 rfl ?_
        refine zi_iload_n 3 d_Mo_hole_92 rfl ?_
        refine zi_imul d_Mo_hole_93 ?_
        refine zi_iadd d_Mo_hole_94 ?_
        refine zi_iload_n 4 d_Mo_hole_95 rfl ?_
        refine zi_iadd d_Mo_hole_96 ?_
        obtain ⟨v_12, ev_12, h⟩ := zbind h
        refine zo_iald 98 d_Mo_hole_97 ev_12 rfl ?_
        cases h
        exact zo_ret d_Mo_hole_98 (Nat.le_of_ble_eq_true rfl) (Nat.le_of_ble_eq_true rfl) rfl
      rw [if_neg c_11] at h
      by_cases c_13 : x3 = 1
      · rw [if_pos c_13] at h
        refine zo_tab (tgt := 99) 1 d_Mo_hole_53 c_13 (by decide) (by decide) rfl rfl ?_
        refine zi_iload 0 d_Mo_hole_99 rfl ?_
        refine zi_if_eq (tgt := 108) d_Mo_hole_101 rfl (fun c_14 => ?_) (fun c_14 => ?_)
        · rw [if_pos c_14] at h
          refine zi_iconst 0 d_Mo_hole_108 rfl ?_
          cases h
          exact zo_ret d_Mo_hole_109 (Nat.le_of_ble_eq_true rfl) (Nat.le_of_ble_eq_true rfl) rfl
        · rw [if_neg c_14] at h
          refine zi_iconst 1 d_Mo_hole_104 rfl ?_
          refine zi_goto (tgt := 109) d_Mo_hole_105 rfl ?_
          cases h
          exact zo_ret d_Mo_hole_109 (Nat.le_of_ble_eq_true rfl) (Nat.le_of_ble_eq_true rfl) rfl
      rw [if_neg c_13] at h
      by_cases c_15 : x3 = 2
      · rw [if_pos c_15] at h
        refine zo_tab (tgt := 110) 2 d_Mo_hole_53 c_15 (by decide) (by decide) rfl rfl ?_
        refine zi_iload 1 d_Mo_hole_110 rfl ?_
        cases h
        exact zo_ret d_Mo_hole_112 (Nat.le_of_ble_eq_true rfl) (Nat.le_of_ble_eq_true rfl) rfl
      rw [if_neg c_15] at h
      by_cases c_16 : x3 = 3
      · rw [if_pos c_16] at h
        refine zo_tab (tgt := 113) 3 d_Mo_hole_53 c_16 (by decide) (by decide) rfl rfl ?_
        refine zi_iload 0 d_Mo_hole_113 rfl ?_
        refine zi_if_eq (tgt := 122) d_Mo_hole_115 rfl (fun c_17 => ?_) (fun c_17 => ?_)
        · rw [if_pos c_17] at h
          refine zi_aload_n 2 d_Mo_hole_122 rfl ?_
          refine zi_iload_n 3 d_Mo_hole_123 rfl ?_
          refine zi_iload_n 4 d_Mo_hole_124 rfl ?_
          refine zi_iload 1 d_Mo_hole_125 rfl ?_
          obtain ⟨q_18, eq_18, h⟩ := zbind h
          refine zo_virt (k' := 0) (n' := 0) 130 [.int x1, .int x2, .int v_8] [] [.int q_18.1] zkd_11 (zgR_s eb_6).1 (C_Mo_runsOf n E S a0 x1 x2 v_8 q_10.2 q_18.1 q_18.2 eq_18) d_Mo_hole_127 tw_1446 tw_1443 tw_1445 ts_39 tw_13 dd_Mo_runsOf ⟨Nat.le_of_ble_eq_true rfl, Nat.le_of_ble_eq_true rfl, Nat.le_of_ble_eq_true rfl, Nat.le_of_ble_eq_true rfl⟩ (Nat.le_of_ble_eq_true rfl) rfl rfl rfl rfl ?_
          cases h
          exact zo_ret d_Mo_hole_130 (Nat.le_of_ble_eq_true rfl) (Nat.le_of_ble_eq_true rfl) rfl
        · rw [if_neg c_17] at h
          refine zi_iconst 0 d_Mo_hole_118 rfl ?_
          refine zi_goto (tgt := 130) d_Mo_hole_119 rfl ?_
          cases h
          exact zo_ret d_Mo_hole_130 (Nat.le_of_ble_eq_true rfl) (Nat.le_of_ble_eq_true rfl) rfl
      rw [if_neg c_16] at h
      refine zo_tabP (tgt := 131) 0 4 d_Mo_hole_53 rfl rfl (fun j hj => by match j, hj with | 0, _ => exact c_11  | 1, _ => exact c_13  | 2, _ => exact c_15  | 3, _ => exact c_16 | j + 4, hj => exact absurd hj (by omega)) rfl ?_
      refine zi_iconst (-1) d_Mo_hole_131 rfl ?_
      cases h
      exact zo_ret d_Mo_hole_132 (Nat.le_of_ble_eq_true rfl) (Nat.le_of_ble_eq_true rfl) rfl
    · rw [if_neg c_5] at h
      refine zi_iconst (-1) d_Mo_hole_19 rfl ?_
      cases h
      exact zo_ret d_Mo_hole_20 (Nat.le_of_ble_eq_true rfl) (Nat.le_of_ble_eq_true rfl) rfl
theorem C_Mo_hole (n : Nat) (E : zE) (S : zS) (a0 : Nat) (x1 : Int32) (x2 : Int32) (x3 : Int32) (M : zH) (r : Int32) (M' : zH) (h : F_Mo_hole n E S a0 x1 x2 x3 M = some (r, M')) : zC E Y_Mo_hole [.ref a0, .int x1, .int x2, .int x3] S M (some (.int r), S, M') :=
  zC.of (Or.inl (show plainName "NightColanderModel" = true by decide)) (Nat.le_of_ble_eq_true rfl) (trivial) (K_Mo_hole n E S a0 x1 x2 x3 M r M' h)
