theorem dX8_init_0 : decode cX8_init 0 = .ok (.aload_n 0, 1) := by decide +kernel
theorem dX8_init_1 : decode cX8_init 1 = .ok (.invokespecial 1, 3) := by decide +kernel
theorem dX8_init_4 : decode cX8_init 4 = .ok (.aload_n 0, 1) := by decide +kernel
theorem dX8_init_5 : decode cX8_init 5 = .ok (.sipush 1000, 3) := by decide +kernel
theorem dX8_init_8 : decode cX8_init 8 = .ok (.newarray .int, 2) := by decide +kernel
theorem dX8_init_10 : decode cX8_init 10 = .ok (.putfield 7, 3) := by decide +kernel
theorem dX8_init_13 : decode cX8_init 13 = .ok (.aload_n 0, 1) := by decide +kernel
theorem dX8_init_14 : decode cX8_init 14 = .ok (.bipush 6, 2) := by decide +kernel
theorem dX8_init_16 : decode cX8_init 16 = .ok (.newarray .int, 2) := by decide +kernel
theorem dX8_init_18 : decode cX8_init 18 = .ok (.putfield 13, 3) := by decide +kernel
theorem dX8_init_21 : decode cX8_init 21 = .ok (.aload_n 0, 1) := by decide +kernel
theorem dX8_init_22 : decode cX8_init 22 = .ok (.bipush 6, 2) := by decide +kernel
theorem dX8_init_24 : decode cX8_init 24 = .ok (.newarray .int, 2) := by decide +kernel
theorem dX8_init_26 : decode cX8_init 26 = .ok (.putfield 16, 3) := by decide +kernel
theorem dX8_init_29 : decode cX8_init 29 = .ok (.aload_n 0, 1) := by decide +kernel
theorem dX8_init_30 : decode cX8_init 30 = .ok (.bipush 6, 2) := by decide +kernel
theorem dX8_init_32 : decode cX8_init 32 = .ok (.newarray .int, 2) := by decide +kernel
theorem dX8_init_34 : decode cX8_init 34 = .ok (.putfield 19, 3) := by decide +kernel
theorem dX8_init_37 : decode cX8_init 37 = .ok (.aload_n 0, 1) := by decide +kernel
theorem dX8_init_38 : decode cX8_init 38 = .ok (.bipush 6, 2) := by decide +kernel
theorem dX8_init_40 : decode cX8_init 40 = .ok (.newarray .int, 2) := by decide +kernel
theorem dX8_init_42 : decode cX8_init 42 = .ok (.putfield 22, 3) := by decide +kernel
theorem dX8_init_45 : decode cX8_init 45 = .ok (.aload_n 0, 1) := by decide +kernel
theorem dX8_init_46 : decode cX8_init 46 = .ok (.iconst 4, 1) := by decide +kernel
theorem dX8_init_47 : decode cX8_init 47 = .ok (.newarray .long, 2) := by decide +kernel
theorem dX8_init_49 : decode cX8_init 49 = .ok (.putfield 25, 3) := by decide +kernel
theorem dX8_init_52 : decode cX8_init 52 = .ok (.aload_n 0, 1) := by decide +kernel
theorem dX8_init_53 : decode cX8_init 53 = .ok (.bipush 6, 2) := by decide +kernel
theorem dX8_init_55 : decode cX8_init 55 = .ok (.newarray .long, 2) := by decide +kernel
theorem dX8_init_57 : decode cX8_init 57 = .ok (.putfield 29, 3) := by decide +kernel
theorem dX8_init_60 : decode cX8_init 60 = .ok (.aload_n 0, 1) := by decide +kernel
theorem dX8_init_61 : decode cX8_init 61 = .ok (.bipush 24, 2) := by decide +kernel
theorem dX8_init_63 : decode cX8_init 63 = .ok (.newarray .int, 2) := by decide +kernel
theorem dX8_init_65 : decode cX8_init 65 = .ok (.putfield 32, 3) := by decide +kernel
theorem dX8_init_68 : decode cX8_init 68 = .ok (.aload_n 0, 1) := by decide +kernel
theorem dX8_init_69 : decode cX8_init 69 = .ok (.bipush 24, 2) := by decide +kernel
theorem dX8_init_71 : decode cX8_init 71 = .ok (.newarray .int, 2) := by decide +kernel
theorem dX8_init_73 : decode cX8_init 73 = .ok (.putfield 35, 3) := by decide +kernel
theorem dX8_init_76 : decode cX8_init 76 = .ok (.aload_n 0, 1) := by decide +kernel
theorem dX8_init_77 : decode cX8_init 77 = .ok (.bipush 36, 2) := by decide +kernel
theorem dX8_init_79 : decode cX8_init 79 = .ok (.newarray .int, 2) := by decide +kernel
theorem dX8_init_81 : decode cX8_init 81 = .ok (.putfield 38, 3) := by decide +kernel
theorem dX8_init_84 : decode cX8_init 84 = .ok (.aload_n 0, 1) := by decide +kernel
theorem dX8_init_85 : decode cX8_init 85 = .ok (.bipush 12, 2) := by decide +kernel
theorem dX8_init_87 : decode cX8_init 87 = .ok (.newarray .int, 2) := by decide +kernel
theorem dX8_init_89 : decode cX8_init 89 = .ok (.putfield 41, 3) := by decide +kernel
theorem dX8_init_92 : decode cX8_init 92 = .ok (.aload_n 0, 1) := by decide +kernel
theorem dX8_init_93 : decode cX8_init 93 = .ok (.bipush 12, 2) := by decide +kernel
theorem dX8_init_95 : decode cX8_init 95 = .ok (.newarray .int, 2) := by decide +kernel
theorem dX8_init_97 : decode cX8_init 97 = .ok (.putfield 44, 3) := by decide +kernel
theorem dX8_init_100 : decode cX8_init 100 = .ok (.aload_n 0, 1) := by decide +kernel
theorem dX8_init_101 : decode cX8_init 101 = .ok (.bipush 12, 2) := by decide +kernel
theorem dX8_init_103 : decode cX8_init 103 = .ok (.newarray .int, 2) := by decide +kernel
theorem dX8_init_105 : decode cX8_init 105 = .ok (.putfield 47, 3) := by decide +kernel
theorem dX8_init_108 : decode cX8_init 108 = .ok (.aload_n 0, 1) := by decide +kernel
theorem dX8_init_109 : decode cX8_init 109 = .ok (.bipush 96, 2) := by decide +kernel
theorem dX8_init_111 : decode cX8_init 111 = .ok (.newarray .int, 2) := by decide +kernel
theorem dX8_init_113 : decode cX8_init 113 = .ok (.putfield 50, 3) := by decide +kernel
theorem dX8_init_116 : decode cX8_init 116 = .ok (.aload_n 0, 1) := by decide +kernel
theorem dX8_init_117 : decode cX8_init 117 = .ok (.bipush 96, 2) := by decide +kernel
theorem dX8_init_119 : decode cX8_init 119 = .ok (.newarray .int, 2) := by decide +kernel
theorem dX8_init_121 : decode cX8_init 121 = .ok (.putfield 53, 3) := by decide +kernel
theorem dX8_init_124 : decode cX8_init 124 = .ok (.aload_n 0, 1) := by decide +kernel
theorem dX8_init_125 : decode cX8_init 125 = .ok (.bipush 96, 2) := by decide +kernel
theorem dX8_init_127 : decode cX8_init 127 = .ok (.newarray .int, 2) := by decide +kernel
theorem dX8_init_129 : decode cX8_init 129 = .ok (.putfield 56, 3) := by decide +kernel
theorem dX8_init_132 : decode cX8_init 132 = .ok (.aload_n 0, 1) := by decide +kernel
theorem dX8_init_133 : decode cX8_init 133 = .ok (.bipush 96, 2) := by decide +kernel
theorem dX8_init_135 : decode cX8_init 135 = .ok (.newarray .int, 2) := by decide +kernel
theorem dX8_init_137 : decode cX8_init 137 = .ok (.putfield 59, 3) := by decide +kernel
theorem dX8_init_140 : decode cX8_init 140 = .ok (.aload_n 0, 1) := by decide +kernel
theorem dX8_init_141 : decode cX8_init 141 = .ok (.sipush 192, 3) := by decide +kernel
theorem dX8_init_144 : decode cX8_init 144 = .ok (.newarray .int, 2) := by decide +kernel
theorem dX8_init_146 : decode cX8_init 146 = .ok (.putfield 62, 3) := by decide +kernel
theorem dX8_init_149 : decode cX8_init 149 = .ok (.aload_n 0, 1) := by decide +kernel
theorem dX8_init_150 : decode cX8_init 150 = .ok (.sipush 192, 3) := by decide +kernel
theorem dX8_init_153 : decode cX8_init 153 = .ok (.newarray .int, 2) := by decide +kernel
theorem dX8_init_155 : decode cX8_init 155 = .ok (.putfield 65, 3) := by decide +kernel
theorem dX8_init_158 : decode cX8_init 158 = .ok (.aload_n 0, 1) := by decide +kernel
theorem dX8_init_159 : decode cX8_init 159 = .ok (.sipush 6000, 3) := by decide +kernel
theorem dX8_init_162 : decode cX8_init 162 = .ok (.newarray .int, 2) := by decide +kernel
theorem dX8_init_164 : decode cX8_init 164 = .ok (.putfield 68, 3) := by decide +kernel
theorem dX8_init_167 : decode cX8_init 167 = .ok (.aload_n 0, 1) := by decide +kernel
theorem dX8_init_168 : decode cX8_init 168 = .ok (.bipush 7, 2) := by decide +kernel
theorem dX8_init_170 : decode cX8_init 170 = .ok (.newarray .int, 2) := by decide +kernel
theorem dX8_init_172 : decode cX8_init 172 = .ok (.putfield 71, 3) := by decide +kernel
theorem dX8_init_175 : decode cX8_init 175 = .ok (.aload_n 0, 1) := by decide +kernel
theorem dX8_init_176 : decode cX8_init 176 = .ok (.bipush 7, 2) := by decide +kernel
theorem dX8_init_178 : decode cX8_init 178 = .ok (.newarray .boolean, 2) := by decide +kernel
theorem dX8_init_180 : decode cX8_init 180 = .ok (.putfield 74, 3) := by decide +kernel
theorem dX8_init_183 : decode cX8_init 183 = .ok (.aload_n 0, 1) := by decide +kernel
theorem dX8_init_184 : decode cX8_init 184 = .ok (.bipush 7, 2) := by decide +kernel
theorem dX8_init_186 : decode cX8_init 186 = .ok (.newarray .int, 2) := by decide +kernel
theorem dX8_init_188 : decode cX8_init 188 = .ok (.putfield 78, 3) := by decide +kernel
theorem dX8_init_191 : decode cX8_init 191 = .ok (.aload_n 0, 1) := by decide +kernel
theorem dX8_init_192 : decode cX8_init 192 = .ok (.bipush 7, 2) := by decide +kernel
theorem dX8_init_194 : decode cX8_init 194 = .ok (.newarray .int, 2) := by decide +kernel
theorem dX8_init_196 : decode cX8_init 196 = .ok (.putfield 81, 3) := by decide +kernel
theorem dX8_init_199 : decode cX8_init 199 = .ok (.aload_n 0, 1) := by decide +kernel
theorem dX8_init_200 : decode cX8_init 200 = .ok (.bipush 7, 2) := by decide +kernel
theorem dX8_init_202 : decode cX8_init 202 = .ok (.newarray .int, 2) := by decide +kernel
theorem dX8_init_204 : decode cX8_init 204 = .ok (.putfield 84, 3) := by decide +kernel
theorem dX8_init_207 : decode cX8_init 207 = .ok (.aload_n 0, 1) := by decide +kernel
theorem dX8_init_208 : decode cX8_init 208 = .ok (.bipush 7, 2) := by decide +kernel
theorem dX8_init_210 : decode cX8_init 210 = .ok (.newarray .int, 2) := by decide +kernel
theorem dX8_init_212 : decode cX8_init 212 = .ok (.putfield 87, 3) := by decide +kernel
theorem dX8_init_215 : decode cX8_init 215 = .ok (.aload_n 0, 1) := by decide +kernel
theorem dX8_init_216 : decode cX8_init 216 = .ok (.bipush 7, 2) := by decide +kernel
theorem dX8_init_218 : decode cX8_init 218 = .ok (.newarray .int, 2) := by decide +kernel
theorem dX8_init_220 : decode cX8_init 220 = .ok (.putfield 90, 3) := by decide +kernel
theorem dX8_init_223 : decode cX8_init 223 = .ok (.aload_n 0, 1) := by decide +kernel
theorem dX8_init_224 : decode cX8_init 224 = .ok (.bipush 7, 2) := by decide +kernel
theorem dX8_init_226 : decode cX8_init 226 = .ok (.newarray .int, 2) := by decide +kernel
theorem dX8_init_228 : decode cX8_init 228 = .ok (.putfield 93, 3) := by decide +kernel
theorem dX8_init_231 : decode cX8_init 231 = .ok (.aload_n 0, 1) := by decide +kernel
theorem dX8_init_232 : decode cX8_init 232 = .ok (.bipush 7, 2) := by decide +kernel
theorem dX8_init_234 : decode cX8_init 234 = .ok (.newarray .int, 2) := by decide +kernel
theorem dX8_init_236 : decode cX8_init 236 = .ok (.putfield 96, 3) := by decide +kernel
theorem dX8_init_239 : decode cX8_init 239 = .ok (.aload_n 0, 1) := by decide +kernel
theorem dX8_init_240 : decode cX8_init 240 = .ok (.bipush 7, 2) := by decide +kernel
theorem dX8_init_242 : decode cX8_init 242 = .ok (.newarray .int, 2) := by decide +kernel
theorem dX8_init_244 : decode cX8_init 244 = .ok (.putfield 99, 3) := by decide +kernel
theorem dX8_init_247 : decode cX8_init 247 = .ok (.aload_n 0, 1) := by decide +kernel
theorem dX8_init_248 : decode cX8_init 248 = .ok (.bipush 7, 2) := by decide +kernel
theorem dX8_init_250 : decode cX8_init 250 = .ok (.newarray .int, 2) := by decide +kernel
theorem dX8_init_252 : decode cX8_init 252 = .ok (.putfield 102, 3) := by decide +kernel
theorem dX8_init_255 : decode cX8_init 255 = .ok (.aload_n 0, 1) := by decide +kernel
theorem dX8_init_256 : decode cX8_init 256 = .ok (.bipush 20, 2) := by decide +kernel
theorem dX8_init_258 : decode cX8_init 258 = .ok (.newarray .int, 2) := by decide +kernel
theorem dX8_init_260 : decode cX8_init 260 = .ok (.putfield 105, 3) := by decide +kernel
theorem dX8_init_263 : decode cX8_init 263 = .ok (.aload_n 0, 1) := by decide +kernel
theorem dX8_init_264 : decode cX8_init 264 = .ok (.bipush 6, 2) := by decide +kernel
theorem dX8_init_266 : decode cX8_init 266 = .ok (.newarray .int, 2) := by decide +kernel
theorem dX8_init_268 : decode cX8_init 268 = .ok (.putfield 108, 3) := by decide +kernel
theorem dX8_init_271 : decode cX8_init 271 = .ok (.aload_n 0, 1) := by decide +kernel
theorem dX8_init_272 : decode cX8_init 272 = .ok (.bipush 16, 2) := by decide +kernel
theorem dX8_init_274 : decode cX8_init 274 = .ok (.newarray .int, 2) := by decide +kernel
theorem dX8_init_276 : decode cX8_init 276 = .ok (.putfield 111, 3) := by decide +kernel
theorem dX8_init_279 : decode cX8_init 279 = .ok (.aload_n 0, 1) := by decide +kernel
theorem dX8_init_280 : decode cX8_init 280 = .ok (.sipush 1001, 3) := by decide +kernel
theorem dX8_init_283 : decode cX8_init 283 = .ok (.newarray .int, 2) := by decide +kernel
theorem dX8_init_285 : decode cX8_init 285 = .ok (.putfield 114, 3) := by decide +kernel
theorem dX8_init_288 : decode cX8_init 288 = .ok (.aload_n 0, 1) := by decide +kernel
theorem dX8_init_289 : decode cX8_init 289 = .ok (.bipush 16, 2) := by decide +kernel
theorem dX8_init_291 : decode cX8_init 291 = .ok (.newarray .int, 2) := by decide +kernel
theorem dX8_init_293 : decode cX8_init 293 = .ok (.putfield 117, 3) := by decide +kernel
theorem dX8_init_296 : decode cX8_init 296 = .ok (.aload_n 0, 1) := by decide +kernel
theorem dX8_init_297 : decode cX8_init 297 = .ok (.bipush 16, 2) := by decide +kernel
theorem dX8_init_299 : decode cX8_init 299 = .ok (.newarray .int, 2) := by decide +kernel
theorem dX8_init_301 : decode cX8_init 301 = .ok (.putfield 120, 3) := by decide +kernel
theorem dX8_init_304 : decode cX8_init 304 = .ok (.aload_n 0, 1) := by decide +kernel
theorem dX8_init_305 : decode cX8_init 305 = .ok (.bipush 6, 2) := by decide +kernel
theorem dX8_init_307 : decode cX8_init 307 = .ok (.newarray .int, 2) := by decide +kernel
theorem dX8_init_309 : decode cX8_init 309 = .ok (.putfield 123, 3) := by decide +kernel
theorem dX8_init_312 : decode cX8_init 312 = .ok (.aload_n 0, 1) := by decide +kernel
theorem dX8_init_313 : decode cX8_init 313 = .ok (.bipush 16, 2) := by decide +kernel
theorem dX8_init_315 : decode cX8_init 315 = .ok (.newarray .int, 2) := by decide +kernel
theorem dX8_init_317 : decode cX8_init 317 = .ok (.putfield 126, 3) := by decide +kernel
theorem dX8_init_320 : decode cX8_init 320 = .ok (.aload_n 0, 1) := by decide +kernel
theorem dX8_init_321 : decode cX8_init 321 = .ok (.sipush 200, 3) := by decide +kernel
theorem dX8_init_324 : decode cX8_init 324 = .ok (.newarray .int, 2) := by decide +kernel
theorem dX8_init_326 : decode cX8_init 326 = .ok (.putfield 129, 3) := by decide +kernel
theorem dX8_init_329 : decode cX8_init 329 = .ok (.aload_n 0, 1) := by decide +kernel
theorem dX8_init_330 : decode cX8_init 330 = .ok (.bipush 16, 2) := by decide +kernel
theorem dX8_init_332 : decode cX8_init 332 = .ok (.newarray .int, 2) := by decide +kernel
theorem dX8_init_334 : decode cX8_init 334 = .ok (.putfield 132, 3) := by decide +kernel
theorem dX8_init_337 : decode cX8_init 337 = .ok (.aload_n 0, 1) := by decide +kernel
theorem dX8_init_338 : decode cX8_init 338 = .ok (.bipush 16, 2) := by decide +kernel
theorem dX8_init_340 : decode cX8_init 340 = .ok (.newarray .int, 2) := by decide +kernel
theorem dX8_init_342 : decode cX8_init 342 = .ok (.putfield 135, 3) := by decide +kernel
theorem dX8_init_345 : decode cX8_init 345 = .ok (.aload_n 0, 1) := by decide +kernel
theorem dX8_init_346 : decode cX8_init 346 = .ok (.bipush 16, 2) := by decide +kernel
theorem dX8_init_348 : decode cX8_init 348 = .ok (.newarray .int, 2) := by decide +kernel
theorem dX8_init_350 : decode cX8_init 350 = .ok (.putfield 138, 3) := by decide +kernel
theorem dX8_init_353 : decode cX8_init 353 = .ok (.aload_n 0, 1) := by decide +kernel
theorem dX8_init_354 : decode cX8_init 354 = .ok (.sipush 1001, 3) := by decide +kernel
theorem dX8_init_357 : decode cX8_init 357 = .ok (.newarray .int, 2) := by decide +kernel
theorem dX8_init_359 : decode cX8_init 359 = .ok (.putfield 141, 3) := by decide +kernel
theorem dX8_init_362 : decode cX8_init 362 = .ok (.aload_n 0, 1) := by decide +kernel
theorem dX8_init_363 : decode cX8_init 363 = .ok (.sipush 1105, 3) := by decide +kernel
theorem dX8_init_366 : decode cX8_init 366 = .ok (.newarray .int, 2) := by decide +kernel
theorem dX8_init_368 : decode cX8_init 368 = .ok (.putfield 144, 3) := by decide +kernel
theorem dX8_init_371 : decode cX8_init 371 = .ok (.aload_n 0, 1) := by decide +kernel
theorem dX8_init_372 : decode cX8_init 372 = .ok (.iconst 4, 1) := by decide +kernel
theorem dX8_init_373 : decode cX8_init 373 = .ok (.newarray .boolean, 2) := by decide +kernel
theorem dX8_init_375 : decode cX8_init 375 = .ok (.putfield 147, 3) := by decide +kernel
theorem dX8_init_378 : decode cX8_init 378 = .ok (.aload_n 0, 1) := by decide +kernel
theorem dX8_init_379 : decode cX8_init 379 = .ok (.sipush 1200, 3) := by decide +kernel
theorem dX8_init_382 : decode cX8_init 382 = .ok (.newarray .int, 2) := by decide +kernel
theorem dX8_init_384 : decode cX8_init 384 = .ok (.putfield 150, 3) := by decide +kernel
theorem dX8_init_387 : decode cX8_init 387 = .ok (.return_, 1) := by decide +kernel
theorem pd_I : parseFieldDescriptor "[I" = some (.array .int) := by decide +kernel
theorem pd_J : parseFieldDescriptor "[J" = some (.array .long) := by decide +kernel
theorem pd_Z : parseFieldDescriptor "[Z" = some (.array .boolean) := by decide +kernel
set_option maxHeartbeats 8000000 in
set_option maxRecDepth 100000 in
theorem m_init (l : Launch) (D : va_G) (ak : Nat → ClassId) (ad : Nat → Nat) (sz : Nat) (h0 : Nat) : Met l yX8_init wsX8_init ({ frames := 1, cells := 47, slots := 12654, locals := 12 }) (cPre D ak ad [.ref h0] ([(h0, .inr (7, [.int (0), .int (0), .null, .int (0), .int (0), .int (0), .int (0), .long (0), .int (0), .int (0), .null, .null, .null, .null, .null, .null, .null, .null, .null, .null, .null, .null, .null, .null, .null, .null, .null, .null, .null, .int (0), .null, .null, .null, .null, .null, .null, .null, .null, .null, .null, .null, .null, .int (0), .int (0), .int (0), .int (0), .int (0), .null, .null, .int (0), .null, .null, .null, .int (0), .int (0), .int (0), .int (0), .int (0), .null, .null, .null, .null, .null, .null, .null, .null, .null, .null, .int (0)]))]) sz) (cV D (S := va_W) (fun L => IM ak h0 v0 L) (fun L => L) ([(h0, .inr (7, [.int (0), .int (0), .null, .int (0), .int (0), .int (0), .int (0), .long (0), .int (0), .int (0), .null, .null, .null, .null, .null, .null, .null, .null, .null, .null, .null, .null, .null, .null, .null, .null, .null, .null, .null, .int (0), .null, .null, .null, .null, .null, .null, .null, .null, .null, .null, .null, .null, .int (0), .int (0), .int (0), .int (0), .int (0), .null, .null, .int (0), .null, .null, .null, .int (0), .int (0), .int (0), .int (0), .int (0), .null, .null, .null, .null, .null, .null, .null, .null, .null, .null, .int (0)]))]) sz) 47 12654 (va_A ([(h0, .inr (7, [.int (0), .int (0), .null, .int (0), .int (0), .int (0), .int (0), .long (0), .int (0), .int (0), .null, .null, .null, .null, .null, .null, .null, .null, .null, .null, .null, .null, .null, .null, .null, .null, .null, .null, .null, .int (0), .null, .null, .null, .null, .null, .null, .null, .null, .null, .null, .null, .null, .int (0), .int (0), .int (0), .int (0), .int (0), .null, .null, .int (0), .null, .null, .null, .int (0), .int (0), .int (0), .int (0), .int (0), .null, .null, .null, .null, .null, .null, .null, .null, .null, .null, .int (0)]))]) sz) := by
  refine Met.ofW (cc := cX8_init) (maxL := 1) (ret := none) (by decide) rfl ?_
  intro p e s m args below meth c s₁ B hml hv
  obtain ⟨rfl, hsz, hP, hE, hD0, hT⟩ := hv
  have hx := B.exec
  have hb := B.bytes
  have hr := B.returns
  have hts := atoms_spec (ws := wsX8_init) B.pre
  have hown : s.vm.findClass RX8 = some m.cls := findClass_of_methodNamed B.named
  have hlocks := B.notSynchronized
  have hin : meth.name = "<init>" := (name_of_methodNamed B.named B.method).1
  subst hsz
  have hD := hD0.self (sz := s.heap.size)
  generalize hAe : va_A ([(h0, .inr (7, [.int (0), .int (0), .null, .int (0), .int (0), .int (0), .int (0), .long (0), .int (0), .int (0), .null, .null, .null, .null, .null, .null, .null, .null, .null, .null, .null, .null, .null, .null, .null, .null, .null, .null, .null, .int (0), .null, .null, .null, .null, .null, .null, .null, .null, .null, .null, .null, .null, .int (0), .int (0), .int (0), .int (0), .int (0), .null, .null, .int (0), .null, .null, .null, .int (0), .int (0), .int (0), .int (0), .int (0), .null, .null, .null, .null, .null, .null, .null, .null, .null, .null, .int (0)]))]) s.heap.size = A at hD hT ⊢
  have hA : ∀ q : Nat, s.heap.size ≤ q → A q := fun q h => by rw [← hAe]; exact Or.inr h
  have hS : va_S A s.heap s.heap [] := va_S.rf
  have hl := lv_entry ([.ref h0]) (n := 1) (Nat.le_of_ble_eq_true rfl)
  rw [lg_entry_eq]
  generalize (lg_sl ([.ref h0]) ++ List.replicate (1 - (lg_sl ([.ref h0])).length) Slot.unset).toArray = ls at hl ⊢
  have hl : lv_has ls 1 [(0, .ref h0)] := hl
  refine lv_aload_n hx hb dX8_init_0 rfl (lv_at hl 0 rfl) ?_
  refine W.objInit hx hb hown (hts (.methodLink RX8 1 objectInit) (wm_c hw_650)) (hts (.instanceMethod objectInit) (wm_c hw_261)) (hts (.code objectInit ⟨#[0xb1]⟩ 1 none) (wm_c hw_262)) rfl (by rw [hml]; exact hl.1) rfl dX8_init_1 (Nat.le_of_ble_eq_true rfl) (Nat.le_of_ble_eq_true rfl) ?_
  refine W.eq (g2 := F0 m 4 ls ([])) rfl ?_
  refine lv_aload_n hx hb dX8_init_4 rfl (lv_at hl 0 rfl) ?_
  refine lv_sipush (v := 1000) hx hb dX8_init_5 (by decide) ?_
  obtain ⟨fz_0, ez_0⟩ : ∃ Z : List Value, Z = [.int (0), .int (0), .null, .int (0), .int (0), .int (0), .int (0), .long (0), .int (0), .int (0), .null, .null, .null, .null, .null, .null, .null, .null, .null, .null, .null, .null, .null, .null, .null, .null, .null, .null, .null, .int (0), .null, .null, .null, .null, .null, .null, .null, .null, .null, .null, .null, .null, .int (0), .int (0), .int (0), .int (0), .int (0), .null, .null, .int (0), .null, .null, .null, .int (0), .int (0), .int (0), .int (0), .int (0), .null, .null, .null, .null, .null, .null, .null, .null, .null, .null, .int (0)] := ⟨_, rfl⟩
  rw [← ez_0] at hP hD
  have nz_0 : fz_0.length = 69 := by rw [ez_0]; rfl
  refine kn_a (atype := .int) (ty := .int) (a0 := (1000, .inl (fun _ => 0))) (N' := 1000) hx hb (hts (.arrayClass .int) (wm_c hw_267)) hE 0 rfl rfl (fun _ h => h) hP hD hS hA (fun cA => vp_cell_i cA 1000 (fun _ => 0)) (by decide) (rfl) (by decide +kernel) (Nat.le_of_ble_eq_true rfl) (Nat.le_of_ble_eq_true rfl) dX8_init_8 (fun q_1 H hP hD hS => ?_)
  have hP : va_P D vwCl ((h0, .inr (7, fz_0)) :: ([] ++ [(q_1, .inl (ak 0, 1000, .inl (fun _ => 0)))])) H := hP
  have hD : va_D A ((h0, .inr (7, fz_0)) :: ([] ++ [(q_1, .inl (ak 0, 1000, .inl (fun _ => 0)))])) := hD
  obtain ⟨B1, eB1⟩ : ∃ Z : va_W, Z = [] ++ [(q_1, .inl (ak 0, 1000, .inl (fun _ => 0)))] := ⟨_, rfl⟩
  rw [← eB1] at hP hD
  refine W.widen (k := 1) (n := 1000) (Nat.le_of_ble_eq_true rfl) (Nat.le_of_ble_eq_true rfl) ?_
  refine vt_putF (D := D) (ci := 7) (v := .ref q_1) (ty := .array .int) (C := RX8) (T := TX8) (N := 69) hx hb hts (fun w h => wm_c (wc_X8 w h)) tyX8 tyX8_ok nmX8 hown hE.1 hP hD hS 0 rfl rfl 2 (by decide) tX8_2 (hts (.fieldLink RX8 7 "WornLinesModel" "tape" "[I") (wm_c hw_0)) (fun _ h9 => h9) rfl hin rfl pd_I rfl rfl (by rw [nz_0]; exact Nat.le_of_ble_eq_true rfl) dX8_init_10 (fun H locs hP hD hS => ?_)
  have hP : va_P D vwCl ((h0, .inr (7, fz_0.set 2 (.ref q_1))) :: B1) H := hP
  have hD : va_D A ((h0, .inr (7, fz_0.set 2 (.ref q_1))) :: B1) := hD
  obtain ⟨fz_1, ez_1⟩ : ∃ Z : List Value, Z = fz_0.set 2 (.ref q_1) := ⟨_, rfl⟩
  rw [← ez_1] at hP hD
  have nz_1 : fz_1.length = 69 := by rw [ez_1, List.length_set]; exact nz_0
  refine lv_aload_n hx hb dX8_init_13 rfl (lv_at hl 0 rfl) ?_
  refine lv_bipush (v := 6) hx hb dX8_init_14 (by decide) ?_
  refine kn_a (atype := .int) (ty := .int) (a0 := (6, .inl (fun _ => 0))) (N' := 6) hx hb (hts (.arrayClass .int) (wm_c hw_267)) hE 0 rfl rfl (fun _ h => h) hP hD hS hA (fun cA => vp_cell_i cA 6 (fun _ => 0)) (by decide) (rfl) (by decide +kernel) (Nat.le_of_ble_eq_true rfl) (Nat.le_of_ble_eq_true rfl) dX8_init_16 (fun q_2 H hP hD hS => ?_)
  have hP : va_P D vwCl ((h0, .inr (7, fz_1)) :: (B1 ++ [(q_2, .inl (ak 0, 6, .inl (fun _ => 0)))])) H := hP
  have hD : va_D A ((h0, .inr (7, fz_1)) :: (B1 ++ [(q_2, .inl (ak 0, 6, .inl (fun _ => 0)))])) := hD
  obtain ⟨B2, eB2⟩ : ∃ Z : va_W, Z = B1 ++ [(q_2, .inl (ak 0, 6, .inl (fun _ => 0)))] := ⟨_, rfl⟩
  rw [← eB2] at hP hD
  refine W.widen (k := 2) (n := 1006) (Nat.le_of_ble_eq_true rfl) (Nat.le_of_ble_eq_true rfl) ?_
  refine vt_putF (D := D) (ci := 7) (v := .ref q_2) (ty := .array .int) (C := RX8) (T := TX8) (N := 69) hx hb hts (fun w h => wm_c (wc_X8 w h)) tyX8 tyX8_ok nmX8 hown hE.1 hP hD hS 0 rfl rfl 10 (by decide) tX8_10 (hts (.fieldLink RX8 13 "WornLinesModel" "stuffs" "[I") (wm_c hw_40)) (fun _ h9 => h9) rfl hin rfl pd_I rfl rfl (by rw [nz_1]; exact Nat.le_of_ble_eq_true rfl) dX8_init_18 (fun H locs hP hD hS => ?_)
  have hP : va_P D vwCl ((h0, .inr (7, fz_1.set 10 (.ref q_2))) :: B2) H := hP
  have hD : va_D A ((h0, .inr (7, fz_1.set 10 (.ref q_2))) :: B2) := hD
  obtain ⟨fz_2, ez_2⟩ : ∃ Z : List Value, Z = fz_1.set 10 (.ref q_2) := ⟨_, rfl⟩
  rw [← ez_2] at hP hD
  have nz_2 : fz_2.length = 69 := by rw [ez_2, List.length_set]; exact nz_1
  refine lv_aload_n hx hb dX8_init_21 rfl (lv_at hl 0 rfl) ?_
  refine lv_bipush (v := 6) hx hb dX8_init_22 (by decide) ?_
  refine kn_a (atype := .int) (ty := .int) (a0 := (6, .inl (fun _ => 0))) (N' := 6) hx hb (hts (.arrayClass .int) (wm_c hw_267)) hE 0 rfl rfl (fun _ h => h) hP hD hS hA (fun cA => vp_cell_i cA 6 (fun _ => 0)) (by decide) (rfl) (by decide +kernel) (Nat.le_of_ble_eq_true rfl) (Nat.le_of_ble_eq_true rfl) dX8_init_24 (fun q_3 H hP hD hS => ?_)
  have hP : va_P D vwCl ((h0, .inr (7, fz_2)) :: (B2 ++ [(q_3, .inl (ak 0, 6, .inl (fun _ => 0)))])) H := hP
  have hD : va_D A ((h0, .inr (7, fz_2)) :: (B2 ++ [(q_3, .inl (ak 0, 6, .inl (fun _ => 0)))])) := hD
  obtain ⟨B3, eB3⟩ : ∃ Z : va_W, Z = B2 ++ [(q_3, .inl (ak 0, 6, .inl (fun _ => 0)))] := ⟨_, rfl⟩
  rw [← eB3] at hP hD
  refine W.widen (k := 3) (n := 1012) (Nat.le_of_ble_eq_true rfl) (Nat.le_of_ble_eq_true rfl) ?_
  refine vt_putF (D := D) (ci := 7) (v := .ref q_3) (ty := .array .int) (C := RX8) (T := TX8) (N := 69) hx hb hts (fun w h => wm_c (wc_X8 w h)) tyX8 tyX8_ok nmX8 hown hE.1 hP hD hS 0 rfl rfl 11 (by decide) tX8_11 (hts (.fieldLink RX8 16 "WornLinesModel" "cells" "[I") (wm_c hw_38)) (fun _ h9 => h9) rfl hin rfl pd_I rfl rfl (by rw [nz_2]; exact Nat.le_of_ble_eq_true rfl) dX8_init_26 (fun H locs hP hD hS => ?_)
  have hP : va_P D vwCl ((h0, .inr (7, fz_2.set 11 (.ref q_3))) :: B3) H := hP
  have hD : va_D A ((h0, .inr (7, fz_2.set 11 (.ref q_3))) :: B3) := hD
  obtain ⟨fz_3, ez_3⟩ : ∃ Z : List Value, Z = fz_2.set 11 (.ref q_3) := ⟨_, rfl⟩
  rw [← ez_3] at hP hD
  have nz_3 : fz_3.length = 69 := by rw [ez_3, List.length_set]; exact nz_2
  refine lv_aload_n hx hb dX8_init_29 rfl (lv_at hl 0 rfl) ?_
  refine lv_bipush (v := 6) hx hb dX8_init_30 (by decide) ?_
  refine kn_a (atype := .int) (ty := .int) (a0 := (6, .inl (fun _ => 0))) (N' := 6) hx hb (hts (.arrayClass .int) (wm_c hw_267)) hE 0 rfl rfl (fun _ h => h) hP hD hS hA (fun cA => vp_cell_i cA 6 (fun _ => 0)) (by decide) (rfl) (by decide +kernel) (Nat.le_of_ble_eq_true rfl) (Nat.le_of_ble_eq_true rfl) dX8_init_32 (fun q_4 H hP hD hS => ?_)
  have hP : va_P D vwCl ((h0, .inr (7, fz_3)) :: (B3 ++ [(q_4, .inl (ak 0, 6, .inl (fun _ => 0)))])) H := hP
  have hD : va_D A ((h0, .inr (7, fz_3)) :: (B3 ++ [(q_4, .inl (ak 0, 6, .inl (fun _ => 0)))])) := hD
  obtain ⟨B4, eB4⟩ : ∃ Z : va_W, Z = B3 ++ [(q_4, .inl (ak 0, 6, .inl (fun _ => 0)))] := ⟨_, rfl⟩
  rw [← eB4] at hP hD
  refine W.widen (k := 4) (n := 1018) (Nat.le_of_ble_eq_true rfl) (Nat.le_of_ble_eq_true rfl) ?_
  refine vt_putF (D := D) (ci := 7) (v := .ref q_4) (ty := .array .int) (C := RX8) (T := TX8) (N := 69) hx hb hts (fun w h => wm_c (wc_X8 w h)) tyX8 tyX8_ok nmX8 hown hE.1 hP hD hS 0 rfl rfl 12 (by decide) tX8_12 (hts (.fieldLink RX8 19 "WornLinesModel" "inputs" "[I") (wm_c hw_116)) (fun _ h9 => h9) rfl hin rfl pd_I rfl rfl (by rw [nz_3]; exact Nat.le_of_ble_eq_true rfl) dX8_init_34 (fun H locs hP hD hS => ?_)
  have hP : va_P D vwCl ((h0, .inr (7, fz_3.set 12 (.ref q_4))) :: B4) H := hP
  have hD : va_D A ((h0, .inr (7, fz_3.set 12 (.ref q_4))) :: B4) := hD
  obtain ⟨fz_4, ez_4⟩ : ∃ Z : List Value, Z = fz_3.set 12 (.ref q_4) := ⟨_, rfl⟩
  rw [← ez_4] at hP hD
  have nz_4 : fz_4.length = 69 := by rw [ez_4, List.length_set]; exact nz_3
  refine lv_aload_n hx hb dX8_init_37 rfl (lv_at hl 0 rfl) ?_
  refine lv_bipush (v := 6) hx hb dX8_init_38 (by decide) ?_
  refine kn_a (atype := .int) (ty := .int) (a0 := (6, .inl (fun _ => 0))) (N' := 6) hx hb (hts (.arrayClass .int) (wm_c hw_267)) hE 0 rfl rfl (fun _ h => h) hP hD hS hA (fun cA => vp_cell_i cA 6 (fun _ => 0)) (by decide) (rfl) (by decide +kernel) (Nat.le_of_ble_eq_true rfl) (Nat.le_of_ble_eq_true rfl) dX8_init_40 (fun q_5 H hP hD hS => ?_)
  have hP : va_P D vwCl ((h0, .inr (7, fz_4)) :: (B4 ++ [(q_5, .inl (ak 0, 6, .inl (fun _ => 0)))])) H := hP
  have hD : va_D A ((h0, .inr (7, fz_4)) :: (B4 ++ [(q_5, .inl (ak 0, 6, .inl (fun _ => 0)))])) := hD
  obtain ⟨B5, eB5⟩ : ∃ Z : va_W, Z = B4 ++ [(q_5, .inl (ak 0, 6, .inl (fun _ => 0)))] := ⟨_, rfl⟩
  rw [← eB5] at hP hD
  refine W.widen (k := 5) (n := 1024) (Nat.le_of_ble_eq_true rfl) (Nat.le_of_ble_eq_true rfl) ?_
  refine vt_putF (D := D) (ci := 7) (v := .ref q_5) (ty := .array .int) (C := RX8) (T := TX8) (N := 69) hx hb hts (fun w h => wm_c (wc_X8 w h)) tyX8 tyX8_ok nmX8 hown hE.1 hP hD hS 0 rfl rfl 13 (by decide) tX8_13 (hts (.fieldLink RX8 22 "WornLinesModel" "lines" "[I") (wm_c hw_75)) (fun _ h9 => h9) rfl hin rfl pd_I rfl rfl (by rw [nz_4]; exact Nat.le_of_ble_eq_true rfl) dX8_init_42 (fun H locs hP hD hS => ?_)
  have hP : va_P D vwCl ((h0, .inr (7, fz_4.set 13 (.ref q_5))) :: B5) H := hP
  have hD : va_D A ((h0, .inr (7, fz_4.set 13 (.ref q_5))) :: B5) := hD
  obtain ⟨fz_5, ez_5⟩ : ∃ Z : List Value, Z = fz_4.set 13 (.ref q_5) := ⟨_, rfl⟩
  rw [← ez_5] at hP hD
  have nz_5 : fz_5.length = 69 := by rw [ez_5, List.length_set]; exact nz_4
  refine lv_aload_n hx hb dX8_init_45 rfl (lv_at hl 0 rfl) ?_
  refine lv_iconst (v := 4) hx hb dX8_init_46 (by decide) ?_
  refine kn_a (atype := .long) (ty := .long) (a0 := (4, .inr (.inl (fun _ => 0)))) (N' := 4) hx hb (hts (.arrayClass .long) (wm_c hw_269)) hE 1 rfl rfl (fun _ h => h) hP hD hS hA (fun cA => vp_cell_l cA 4 (fun _ => 0)) (by decide) (rfl) (by decide +kernel) (Nat.le_of_ble_eq_true rfl) (Nat.le_of_ble_eq_true rfl) dX8_init_47 (fun q_6 H hP hD hS => ?_)
  have hP : va_P D vwCl ((h0, .inr (7, fz_5)) :: (B5 ++ [(q_6, .inl (ak 1, 4, .inr (.inl (fun _ => 0))))])) H := hP
  have hD : va_D A ((h0, .inr (7, fz_5)) :: (B5 ++ [(q_6, .inl (ak 1, 4, .inr (.inl (fun _ => 0))))])) := hD
  obtain ⟨B6, eB6⟩ : ∃ Z : va_W, Z = B5 ++ [(q_6, .inl (ak 1, 4, .inr (.inl (fun _ => 0))))] := ⟨_, rfl⟩
  rw [← eB6] at hP hD
  replace eB6 : B6 = [(q_1, .inl (ak 0, 1000, .inl (fun _ => 0))), (q_2, .inl (ak 0, 6, .inl (fun _ => 0))), (q_3, .inl (ak 0, 6, .inl (fun _ => 0))), (q_4, .inl (ak 0, 6, .inl (fun _ => 0))), (q_5, .inl (ak 0, 6, .inl (fun _ => 0))), (q_6, .inl (ak 1, 4, .inr (.inl (fun _ => 0))))] := by rw [eB6, eB5, eB4, eB3, eB2, eB1]; rfl
  refine W.widen (k := 6) (n := 1028) (Nat.le_of_ble_eq_true rfl) (Nat.le_of_ble_eq_true rfl) ?_
  refine vt_putF (D := D) (ci := 7) (v := .ref q_6) (ty := .array .long) (C := RX8) (T := TX8) (N := 69) hx hb hts (fun w h => wm_c (wc_X8 w h)) tyX8 tyX8_ok nmX8 hown hE.1 hP hD hS 0 rfl rfl 14 (by decide) tX8_14 (hts (.fieldLink RX8 25 "WornLinesModel" "stuffName" "[J") (wm_c hw_41)) (fun _ h9 => h9) rfl hin rfl pd_J rfl rfl (by rw [nz_5]; exact Nat.le_of_ble_eq_true rfl) dX8_init_49 (fun H locs hP hD hS => ?_)
  have hP : va_P D vwCl ((h0, .inr (7, fz_5.set 14 (.ref q_6))) :: B6) H := hP
  have hD : va_D A ((h0, .inr (7, fz_5.set 14 (.ref q_6))) :: B6) := hD
  obtain ⟨fz_6, ez_6⟩ : ∃ Z : List Value, Z = fz_5.set 14 (.ref q_6) := ⟨_, rfl⟩
  rw [← ez_6] at hP hD
  have nz_6 : fz_6.length = 69 := by rw [ez_6, List.length_set]; exact nz_5
  replace ez_6 : fz_6 = [.int (0), .int (0), .ref q_1, .int (0), .int (0), .int (0), .int (0), .long (0), .int (0), .int (0), .ref q_2, .ref q_3, .ref q_4, .ref q_5, .ref q_6, .null, .null, .null, .null, .null, .null, .null, .null, .null, .null, .null, .null, .null, .null, .int (0), .null, .null, .null, .null, .null, .null, .null, .null, .null, .null, .null, .null, .int (0), .int (0), .int (0), .int (0), .int (0), .null, .null, .int (0), .null, .null, .null, .int (0), .int (0), .int (0), .int (0), .int (0), .null, .null, .null, .null, .null, .null, .null, .null, .null, .null, .int (0)] := by rw [ez_6, ez_5, ez_4, ez_3, ez_2, ez_1, ez_0]; rfl
  refine lv_aload_n hx hb dX8_init_52 rfl (lv_at hl 0 rfl) ?_
  refine lv_bipush (v := 6) hx hb dX8_init_53 (by decide) ?_
  refine kn_a (atype := .long) (ty := .long) (a0 := (6, .inr (.inl (fun _ => 0)))) (N' := 6) hx hb (hts (.arrayClass .long) (wm_c hw_269)) hE 1 rfl rfl (fun _ h => h) hP hD hS hA (fun cA => vp_cell_l cA 6 (fun _ => 0)) (by decide) (rfl) (by decide +kernel) (Nat.le_of_ble_eq_true rfl) (Nat.le_of_ble_eq_true rfl) dX8_init_55 (fun q_7 H hP hD hS => ?_)
  have hP : va_P D vwCl ((h0, .inr (7, fz_6)) :: (B6 ++ [(q_7, .inl (ak 1, 6, .inr (.inl (fun _ => 0))))])) H := hP
  have hD : va_D A ((h0, .inr (7, fz_6)) :: (B6 ++ [(q_7, .inl (ak 1, 6, .inr (.inl (fun _ => 0))))])) := hD
  obtain ⟨B7, eB7⟩ : ∃ Z : va_W, Z = B6 ++ [(q_7, .inl (ak 1, 6, .inr (.inl (fun _ => 0))))] := ⟨_, rfl⟩
  rw [← eB7] at hP hD
  refine W.widen (k := 7) (n := 1034) (Nat.le_of_ble_eq_true rfl) (Nat.le_of_ble_eq_true rfl) ?_
  refine vt_putF (D := D) (ci := 7) (v := .ref q_7) (ty := .array .long) (C := RX8) (T := TX8) (N := 69) hx hb hts (fun w h => wm_c (wc_X8 w h)) tyX8 tyX8_ok nmX8 hown hE.1 hP hD hS 0 rfl rfl 15 (by decide) tX8_15 (hts (.fieldLink RX8 29 "WornLinesModel" "cellName" "[J") (wm_c hw_39)) (fun _ h9 => h9) rfl hin rfl pd_J rfl rfl (by rw [nz_6]; exact Nat.le_of_ble_eq_true rfl) dX8_init_57 (fun H locs hP hD hS => ?_)
  have hP : va_P D vwCl ((h0, .inr (7, fz_6.set 15 (.ref q_7))) :: B7) H := hP
  have hD : va_D A ((h0, .inr (7, fz_6.set 15 (.ref q_7))) :: B7) := hD
  obtain ⟨fz_7, ez_7⟩ : ∃ Z : List Value, Z = fz_6.set 15 (.ref q_7) := ⟨_, rfl⟩
  rw [← ez_7] at hP hD
  have nz_7 : fz_7.length = 69 := by rw [ez_7, List.length_set]; exact nz_6
  refine lv_aload_n hx hb dX8_init_60 rfl (lv_at hl 0 rfl) ?_
  refine lv_bipush (v := 24) hx hb dX8_init_61 (by decide) ?_
  refine kn_a (atype := .int) (ty := .int) (a0 := (24, .inl (fun _ => 0))) (N' := 24) hx hb (hts (.arrayClass .int) (wm_c hw_267)) hE 0 rfl rfl (fun _ h => h) hP hD hS hA (fun cA => vp_cell_i cA 24 (fun _ => 0)) (by decide) (rfl) (by decide +kernel) (Nat.le_of_ble_eq_true rfl) (Nat.le_of_ble_eq_true rfl) dX8_init_63 (fun q_8 H hP hD hS => ?_)
  have hP : va_P D vwCl ((h0, .inr (7, fz_7)) :: (B7 ++ [(q_8, .inl (ak 0, 24, .inl (fun _ => 0)))])) H := hP
  have hD : va_D A ((h0, .inr (7, fz_7)) :: (B7 ++ [(q_8, .inl (ak 0, 24, .inl (fun _ => 0)))])) := hD
  obtain ⟨B8, eB8⟩ : ∃ Z : va_W, Z = B7 ++ [(q_8, .inl (ak 0, 24, .inl (fun _ => 0)))] := ⟨_, rfl⟩
  rw [← eB8] at hP hD
  refine W.widen (k := 8) (n := 1058) (Nat.le_of_ble_eq_true rfl) (Nat.le_of_ble_eq_true rfl) ?_
  refine vt_putF (D := D) (ci := 7) (v := .ref q_8) (ty := .array .int) (C := RX8) (T := TX8) (N := 69) hx hb hts (fun w h => wm_c (wc_X8 w h)) tyX8 tyX8_ok nmX8 hown hE.1 hP hD hS 0 rfl rfl 16 (by decide) tX8_16 (hts (.fieldLink RX8 32 "WornLinesModel" "bears" "[I") (wm_c hw_96)) (fun _ h9 => h9) rfl hin rfl pd_I rfl rfl (by rw [nz_7]; exact Nat.le_of_ble_eq_true rfl) dX8_init_65 (fun H locs hP hD hS => ?_)
  have hP : va_P D vwCl ((h0, .inr (7, fz_7.set 16 (.ref q_8))) :: B8) H := hP
  have hD : va_D A ((h0, .inr (7, fz_7.set 16 (.ref q_8))) :: B8) := hD
  obtain ⟨fz_8, ez_8⟩ : ∃ Z : List Value, Z = fz_7.set 16 (.ref q_8) := ⟨_, rfl⟩
  rw [← ez_8] at hP hD
  have nz_8 : fz_8.length = 69 := by rw [ez_8, List.length_set]; exact nz_7
  refine lv_aload_n hx hb dX8_init_68 rfl (lv_at hl 0 rfl) ?_
  refine lv_bipush (v := 24) hx hb dX8_init_69 (by decide) ?_
  refine kn_a (atype := .int) (ty := .int) (a0 := (24, .inl (fun _ => 0))) (N' := 24) hx hb (hts (.arrayClass .int) (wm_c hw_267)) hE 0 rfl rfl (fun _ h => h) hP hD hS hA (fun cA => vp_cell_i cA 24 (fun _ => 0)) (by decide) (rfl) (by decide +kernel) (Nat.le_of_ble_eq_true rfl) (Nat.le_of_ble_eq_true rfl) dX8_init_71 (fun q_9 H hP hD hS => ?_)
  have hP : va_P D vwCl ((h0, .inr (7, fz_8)) :: (B8 ++ [(q_9, .inl (ak 0, 24, .inl (fun _ => 0)))])) H := hP
  have hD : va_D A ((h0, .inr (7, fz_8)) :: (B8 ++ [(q_9, .inl (ak 0, 24, .inl (fun _ => 0)))])) := hD
  obtain ⟨B9, eB9⟩ : ∃ Z : va_W, Z = B8 ++ [(q_9, .inl (ak 0, 24, .inl (fun _ => 0)))] := ⟨_, rfl⟩
  rw [← eB9] at hP hD
  refine W.widen (k := 9) (n := 1082) (Nat.le_of_ble_eq_true rfl) (Nat.le_of_ble_eq_true rfl) ?_
  refine vt_putF (D := D) (ci := 7) (v := .ref q_9) (ty := .array .int) (C := RX8) (T := TX8) (N := 69) hx hb hts (fun w h => wm_c (wc_X8 w h)) tyX8 tyX8_ok nmX8 hown hE.1 hP hD hS 0 rfl rfl 17 (by decide) tX8_17 (hts (.fieldLink RX8 35 "WornLinesModel" "costs" "[I") (wm_c hw_97)) (fun _ h9 => h9) rfl hin rfl pd_I rfl rfl (by rw [nz_8]; exact Nat.le_of_ble_eq_true rfl) dX8_init_73 (fun H locs hP hD hS => ?_)
  have hP : va_P D vwCl ((h0, .inr (7, fz_8.set 17 (.ref q_9))) :: B9) H := hP
  have hD : va_D A ((h0, .inr (7, fz_8.set 17 (.ref q_9))) :: B9) := hD
  obtain ⟨fz_9, ez_9⟩ : ∃ Z : List Value, Z = fz_8.set 17 (.ref q_9) := ⟨_, rfl⟩
  rw [← ez_9] at hP hD
  have nz_9 : fz_9.length = 69 := by rw [ez_9, List.length_set]; exact nz_8
  refine lv_aload_n hx hb dX8_init_76 rfl (lv_at hl 0 rfl) ?_
  refine lv_bipush (v := 36) hx hb dX8_init_77 (by decide) ?_
  refine kn_a (atype := .int) (ty := .int) (a0 := (36, .inl (fun _ => 0))) (N' := 36) hx hb (hts (.arrayClass .int) (wm_c hw_267)) hE 0 rfl rfl (fun _ h => h) hP hD hS hA (fun cA => vp_cell_i cA 36 (fun _ => 0)) (by decide) (rfl) (by decide +kernel) (Nat.le_of_ble_eq_true rfl) (Nat.le_of_ble_eq_true rfl) dX8_init_79 (fun q_10 H hP hD hS => ?_)
  have hP : va_P D vwCl ((h0, .inr (7, fz_9)) :: (B9 ++ [(q_10, .inl (ak 0, 36, .inl (fun _ => 0)))])) H := hP
  have hD : va_D A ((h0, .inr (7, fz_9)) :: (B9 ++ [(q_10, .inl (ak 0, 36, .inl (fun _ => 0)))])) := hD
  obtain ⟨B10, eB10⟩ : ∃ Z : va_W, Z = B9 ++ [(q_10, .inl (ak 0, 36, .inl (fun _ => 0)))] := ⟨_, rfl⟩
  rw [← eB10] at hP hD
  refine W.widen (k := 10) (n := 1118) (Nat.le_of_ble_eq_true rfl) (Nat.le_of_ble_eq_true rfl) ?_
  refine vt_putF (D := D) (ci := 7) (v := .ref q_10) (ty := .array .int) (C := RX8) (T := TX8) (N := 69) hx hb hts (fun w h => wm_c (wc_X8 w h)) tyX8 tyX8_ok nmX8 hown hE.1 hP hD hS 0 rfl rfl 18 (by decide) tX8_18 (hts (.fieldLink RX8 38 "WornLinesModel" "cellAt" "[I") (wm_c hw_98)) (fun _ h9 => h9) rfl hin rfl pd_I rfl rfl (by rw [nz_9]; exact Nat.le_of_ble_eq_true rfl) dX8_init_81 (fun H locs hP hD hS => ?_)
  have hP : va_P D vwCl ((h0, .inr (7, fz_9.set 18 (.ref q_10))) :: B10) H := hP
  have hD : va_D A ((h0, .inr (7, fz_9.set 18 (.ref q_10))) :: B10) := hD
  obtain ⟨fz_10, ez_10⟩ : ∃ Z : List Value, Z = fz_9.set 18 (.ref q_10) := ⟨_, rfl⟩
  rw [← ez_10] at hP hD
  have nz_10 : fz_10.length = 69 := by rw [ez_10, List.length_set]; exact nz_9
  refine lv_aload_n hx hb dX8_init_84 rfl (lv_at hl 0 rfl) ?_
  refine lv_bipush (v := 12) hx hb dX8_init_85 (by decide) ?_
  refine kn_a (atype := .int) (ty := .int) (a0 := (12, .inl (fun _ => 0))) (N' := 12) hx hb (hts (.arrayClass .int) (wm_c hw_267)) hE 0 rfl rfl (fun _ h => h) hP hD hS hA (fun cA => vp_cell_i cA 12 (fun _ => 0)) (by decide) (rfl) (by decide +kernel) (Nat.le_of_ble_eq_true rfl) (Nat.le_of_ble_eq_true rfl) dX8_init_87 (fun q_11 H hP hD hS => ?_)
  have hP : va_P D vwCl ((h0, .inr (7, fz_10)) :: (B10 ++ [(q_11, .inl (ak 0, 12, .inl (fun _ => 0)))])) H := hP
  have hD : va_D A ((h0, .inr (7, fz_10)) :: (B10 ++ [(q_11, .inl (ak 0, 12, .inl (fun _ => 0)))])) := hD
  obtain ⟨B11, eB11⟩ : ∃ Z : va_W, Z = B10 ++ [(q_11, .inl (ak 0, 12, .inl (fun _ => 0)))] := ⟨_, rfl⟩
  rw [← eB11] at hP hD
  refine W.widen (k := 11) (n := 1130) (Nat.le_of_ble_eq_true rfl) (Nat.le_of_ble_eq_true rfl) ?_
  refine vt_putF (D := D) (ci := 7) (v := .ref q_11) (ty := .array .int) (C := RX8) (T := TX8) (N := 69) hx hb hts (fun w h => wm_c (wc_X8 w h)) tyX8 tyX8_ok nmX8 hown hE.1 hP hD hS 0 rfl rfl 19 (by decide) tX8_19 (hts (.fieldLink RX8 41 "WornLinesModel" "inputCell" "[I") (wm_c hw_119)) (fun _ h9 => h9) rfl hin rfl pd_I rfl rfl (by rw [nz_10]; exact Nat.le_of_ble_eq_true rfl) dX8_init_89 (fun H locs hP hD hS => ?_)
  have hP : va_P D vwCl ((h0, .inr (7, fz_10.set 19 (.ref q_11))) :: B11) H := hP
  have hD : va_D A ((h0, .inr (7, fz_10.set 19 (.ref q_11))) :: B11) := hD
  obtain ⟨fz_11, ez_11⟩ : ∃ Z : List Value, Z = fz_10.set 19 (.ref q_11) := ⟨_, rfl⟩
  rw [← ez_11] at hP hD
  have nz_11 : fz_11.length = 69 := by rw [ez_11, List.length_set]; exact nz_10
  refine lv_aload_n hx hb dX8_init_92 rfl (lv_at hl 0 rfl) ?_
  refine lv_bipush (v := 12) hx hb dX8_init_93 (by decide) ?_
  refine kn_a (atype := .int) (ty := .int) (a0 := (12, .inl (fun _ => 0))) (N' := 12) hx hb (hts (.arrayClass .int) (wm_c hw_267)) hE 0 rfl rfl (fun _ h => h) hP hD hS hA (fun cA => vp_cell_i cA 12 (fun _ => 0)) (by decide) (rfl) (by decide +kernel) (Nat.le_of_ble_eq_true rfl) (Nat.le_of_ble_eq_true rfl) dX8_init_95 (fun q_12 H hP hD hS => ?_)
  have hP : va_P D vwCl ((h0, .inr (7, fz_11)) :: (B11 ++ [(q_12, .inl (ak 0, 12, .inl (fun _ => 0)))])) H := hP
  have hD : va_D A ((h0, .inr (7, fz_11)) :: (B11 ++ [(q_12, .inl (ak 0, 12, .inl (fun _ => 0)))])) := hD
  obtain ⟨B12, eB12⟩ : ∃ Z : va_W, Z = B11 ++ [(q_12, .inl (ak 0, 12, .inl (fun _ => 0)))] := ⟨_, rfl⟩
  rw [← eB12] at hP hD
  replace eB12 : B12 = [(q_1, .inl (ak 0, 1000, .inl (fun _ => 0))), (q_2, .inl (ak 0, 6, .inl (fun _ => 0))), (q_3, .inl (ak 0, 6, .inl (fun _ => 0))), (q_4, .inl (ak 0, 6, .inl (fun _ => 0))), (q_5, .inl (ak 0, 6, .inl (fun _ => 0))), (q_6, .inl (ak 1, 4, .inr (.inl (fun _ => 0)))), (q_7, .inl (ak 1, 6, .inr (.inl (fun _ => 0)))), (q_8, .inl (ak 0, 24, .inl (fun _ => 0))), (q_9, .inl (ak 0, 24, .inl (fun _ => 0))), (q_10, .inl (ak 0, 36, .inl (fun _ => 0))), (q_11, .inl (ak 0, 12, .inl (fun _ => 0))), (q_12, .inl (ak 0, 12, .inl (fun _ => 0)))] := by rw [eB12, eB11, eB10, eB9, eB8, eB7, eB6]; rfl
  refine W.widen (k := 12) (n := 1142) (Nat.le_of_ble_eq_true rfl) (Nat.le_of_ble_eq_true rfl) ?_
  refine vt_putF (D := D) (ci := 7) (v := .ref q_12) (ty := .array .int) (C := RX8) (T := TX8) (N := 69) hx hb hts (fun w h => wm_c (wc_X8 w h)) tyX8 tyX8_ok nmX8 hown hE.1 hP hD hS 0 rfl rfl 20 (by decide) tX8_20 (hts (.fieldLink RX8 44 "WornLinesModel" "inputLeast" "[I") (wm_c hw_117)) (fun _ h9 => h9) rfl hin rfl pd_I rfl rfl (by rw [nz_11]; exact Nat.le_of_ble_eq_true rfl) dX8_init_97 (fun H locs hP hD hS => ?_)
  have hP : va_P D vwCl ((h0, .inr (7, fz_11.set 20 (.ref q_12))) :: B12) H := hP
  have hD : va_D A ((h0, .inr (7, fz_11.set 20 (.ref q_12))) :: B12) := hD
  obtain ⟨fz_12, ez_12⟩ : ∃ Z : List Value, Z = fz_11.set 20 (.ref q_12) := ⟨_, rfl⟩
  rw [← ez_12] at hP hD
  have nz_12 : fz_12.length = 69 := by rw [ez_12, List.length_set]; exact nz_11
  replace ez_12 : fz_12 = [.int (0), .int (0), .ref q_1, .int (0), .int (0), .int (0), .int (0), .long (0), .int (0), .int (0), .ref q_2, .ref q_3, .ref q_4, .ref q_5, .ref q_6, .ref q_7, .ref q_8, .ref q_9, .ref q_10, .ref q_11, .ref q_12, .null, .null, .null, .null, .null, .null, .null, .null, .int (0), .null, .null, .null, .null, .null, .null, .null, .null, .null, .null, .null, .null, .int (0), .int (0), .int (0), .int (0), .int (0), .null, .null, .int (0), .null, .null, .null, .int (0), .int (0), .int (0), .int (0), .int (0), .null, .null, .null, .null, .null, .null, .null, .null, .null, .null, .int (0)] := by rw [ez_12, ez_11, ez_10, ez_9, ez_8, ez_7, ez_6]; rfl
  refine lv_aload_n hx hb dX8_init_100 rfl (lv_at hl 0 rfl) ?_
  refine lv_bipush (v := 12) hx hb dX8_init_101 (by decide) ?_
  refine kn_a (atype := .int) (ty := .int) (a0 := (12, .inl (fun _ => 0))) (N' := 12) hx hb (hts (.arrayClass .int) (wm_c hw_267)) hE 0 rfl rfl (fun _ h => h) hP hD hS hA (fun cA => vp_cell_i cA 12 (fun _ => 0)) (by decide) (rfl) (by decide +kernel) (Nat.le_of_ble_eq_true rfl) (Nat.le_of_ble_eq_true rfl) dX8_init_103 (fun q_13 H hP hD hS => ?_)
  have hP : va_P D vwCl ((h0, .inr (7, fz_12)) :: (B12 ++ [(q_13, .inl (ak 0, 12, .inl (fun _ => 0)))])) H := hP
  have hD : va_D A ((h0, .inr (7, fz_12)) :: (B12 ++ [(q_13, .inl (ak 0, 12, .inl (fun _ => 0)))])) := hD
  obtain ⟨B13, eB13⟩ : ∃ Z : va_W, Z = B12 ++ [(q_13, .inl (ak 0, 12, .inl (fun _ => 0)))] := ⟨_, rfl⟩
  rw [← eB13] at hP hD
  refine W.widen (k := 13) (n := 1154) (Nat.le_of_ble_eq_true rfl) (Nat.le_of_ble_eq_true rfl) ?_
  refine vt_putF (D := D) (ci := 7) (v := .ref q_13) (ty := .array .int) (C := RX8) (T := TX8) (N := 69) hx hb hts (fun w h => wm_c (wc_X8 w h)) tyX8 tyX8_ok nmX8 hown hE.1 hP hD hS 0 rfl rfl 21 (by decide) tX8_21 (hts (.fieldLink RX8 47 "WornLinesModel" "inputMost" "[I") (wm_c hw_118)) (fun _ h9 => h9) rfl hin rfl pd_I rfl rfl (by rw [nz_12]; exact Nat.le_of_ble_eq_true rfl) dX8_init_105 (fun H locs hP hD hS => ?_)
  have hP : va_P D vwCl ((h0, .inr (7, fz_12.set 21 (.ref q_13))) :: B13) H := hP
  have hD : va_D A ((h0, .inr (7, fz_12.set 21 (.ref q_13))) :: B13) := hD
  obtain ⟨fz_13, ez_13⟩ : ∃ Z : List Value, Z = fz_12.set 21 (.ref q_13) := ⟨_, rfl⟩
  rw [← ez_13] at hP hD
  have nz_13 : fz_13.length = 69 := by rw [ez_13, List.length_set]; exact nz_12
  refine lv_aload_n hx hb dX8_init_108 rfl (lv_at hl 0 rfl) ?_
  refine lv_bipush (v := 96) hx hb dX8_init_109 (by decide) ?_
  refine kn_a (atype := .int) (ty := .int) (a0 := (96, .inl (fun _ => 0))) (N' := 96) hx hb (hts (.arrayClass .int) (wm_c hw_267)) hE 0 rfl rfl (fun _ h => h) hP hD hS hA (fun cA => vp_cell_i cA 96 (fun _ => 0)) (by decide) (rfl) (by decide +kernel) (Nat.le_of_ble_eq_true rfl) (Nat.le_of_ble_eq_true rfl) dX8_init_111 (fun q_14 H hP hD hS => ?_)
  have hP : va_P D vwCl ((h0, .inr (7, fz_13)) :: (B13 ++ [(q_14, .inl (ak 0, 96, .inl (fun _ => 0)))])) H := hP
  have hD : va_D A ((h0, .inr (7, fz_13)) :: (B13 ++ [(q_14, .inl (ak 0, 96, .inl (fun _ => 0)))])) := hD
  obtain ⟨B14, eB14⟩ : ∃ Z : va_W, Z = B13 ++ [(q_14, .inl (ak 0, 96, .inl (fun _ => 0)))] := ⟨_, rfl⟩
  rw [← eB14] at hP hD
  refine W.widen (k := 14) (n := 1250) (Nat.le_of_ble_eq_true rfl) (Nat.le_of_ble_eq_true rfl) ?_
  refine vt_putF (D := D) (ci := 7) (v := .ref q_14) (ty := .array .int) (C := RX8) (T := TX8) (N := 69) hx hb hts (fun w h => wm_c (wc_X8 w h)) tyX8 tyX8_ok nmX8 hown hE.1 hP hD hS 0 rfl rfl 22 (by decide) tX8_22 (hts (.fieldLink RX8 50 "WornLinesModel" "act" "[I") (wm_c hw_121)) (fun _ h9 => h9) rfl hin rfl pd_I rfl rfl (by rw [nz_13]; exact Nat.le_of_ble_eq_true rfl) dX8_init_113 (fun H locs hP hD hS => ?_)
  have hP : va_P D vwCl ((h0, .inr (7, fz_13.set 22 (.ref q_14))) :: B14) H := hP
  have hD : va_D A ((h0, .inr (7, fz_13.set 22 (.ref q_14))) :: B14) := hD
  obtain ⟨fz_14, ez_14⟩ : ∃ Z : List Value, Z = fz_13.set 22 (.ref q_14) := ⟨_, rfl⟩
  rw [← ez_14] at hP hD
  have nz_14 : fz_14.length = 69 := by rw [ez_14, List.length_set]; exact nz_13
  refine lv_aload_n hx hb dX8_init_116 rfl (lv_at hl 0 rfl) ?_
  refine lv_bipush (v := 96) hx hb dX8_init_117 (by decide) ?_
  refine kn_a (atype := .int) (ty := .int) (a0 := (96, .inl (fun _ => 0))) (N' := 96) hx hb (hts (.arrayClass .int) (wm_c hw_267)) hE 0 rfl rfl (fun _ h => h) hP hD hS hA (fun cA => vp_cell_i cA 96 (fun _ => 0)) (by decide) (rfl) (by decide +kernel) (Nat.le_of_ble_eq_true rfl) (Nat.le_of_ble_eq_true rfl) dX8_init_119 (fun q_15 H hP hD hS => ?_)
  have hP : va_P D vwCl ((h0, .inr (7, fz_14)) :: (B14 ++ [(q_15, .inl (ak 0, 96, .inl (fun _ => 0)))])) H := hP
  have hD : va_D A ((h0, .inr (7, fz_14)) :: (B14 ++ [(q_15, .inl (ak 0, 96, .inl (fun _ => 0)))])) := hD
  obtain ⟨B15, eB15⟩ : ∃ Z : va_W, Z = B14 ++ [(q_15, .inl (ak 0, 96, .inl (fun _ => 0)))] := ⟨_, rfl⟩
  rw [← eB15] at hP hD
  refine W.widen (k := 15) (n := 1346) (Nat.le_of_ble_eq_true rfl) (Nat.le_of_ble_eq_true rfl) ?_
  refine vt_putF (D := D) (ci := 7) (v := .ref q_15) (ty := .array .int) (C := RX8) (T := TX8) (N := 69) hx hb hts (fun w h => wm_c (wc_X8 w h)) tyX8 tyX8_ok nmX8 hown hE.1 hP hD hS 0 rfl rfl 23 (by decide) tX8_23 (hts (.fieldLink RX8 53 "WornLinesModel" "actCell" "[I") (wm_c hw_120)) (fun _ h9 => h9) rfl hin rfl pd_I rfl rfl (by rw [nz_14]; exact Nat.le_of_ble_eq_true rfl) dX8_init_121 (fun H locs hP hD hS => ?_)
  have hP : va_P D vwCl ((h0, .inr (7, fz_14.set 23 (.ref q_15))) :: B15) H := hP
  have hD : va_D A ((h0, .inr (7, fz_14.set 23 (.ref q_15))) :: B15) := hD
  obtain ⟨fz_15, ez_15⟩ : ∃ Z : List Value, Z = fz_14.set 23 (.ref q_15) := ⟨_, rfl⟩
  rw [← ez_15] at hP hD
  have nz_15 : fz_15.length = 69 := by rw [ez_15, List.length_set]; exact nz_14
  refine lv_aload_n hx hb dX8_init_124 rfl (lv_at hl 0 rfl) ?_
  refine lv_bipush (v := 96) hx hb dX8_init_125 (by decide) ?_
  refine kn_a (atype := .int) (ty := .int) (a0 := (96, .inl (fun _ => 0))) (N' := 96) hx hb (hts (.arrayClass .int) (wm_c hw_267)) hE 0 rfl rfl (fun _ h => h) hP hD hS hA (fun cA => vp_cell_i cA 96 (fun _ => 0)) (by decide) (rfl) (by decide +kernel) (Nat.le_of_ble_eq_true rfl) (Nat.le_of_ble_eq_true rfl) dX8_init_127 (fun q_16 H hP hD hS => ?_)
  have hP : va_P D vwCl ((h0, .inr (7, fz_15)) :: (B15 ++ [(q_16, .inl (ak 0, 96, .inl (fun _ => 0)))])) H := hP
  have hD : va_D A ((h0, .inr (7, fz_15)) :: (B15 ++ [(q_16, .inl (ak 0, 96, .inl (fun _ => 0)))])) := hD
  obtain ⟨B16, eB16⟩ : ∃ Z : va_W, Z = B15 ++ [(q_16, .inl (ak 0, 96, .inl (fun _ => 0)))] := ⟨_, rfl⟩
  rw [← eB16] at hP hD
  refine W.widen (k := 16) (n := 1442) (Nat.le_of_ble_eq_true rfl) (Nat.le_of_ble_eq_true rfl) ?_
  refine vt_putF (D := D) (ci := 7) (v := .ref q_16) (ty := .array .int) (C := RX8) (T := TX8) (N := 69) hx hb hts (fun w h => wm_c (wc_X8 w h)) tyX8 tyX8_ok nmX8 hown hE.1 hP hD hS 0 rfl rfl 24 (by decide) tX8_24 (hts (.fieldLink RX8 56 "WornLinesModel" "lineStuff" "[I") (wm_c hw_122)) (fun _ h9 => h9) rfl hin rfl pd_I rfl rfl (by rw [nz_15]; exact Nat.le_of_ble_eq_true rfl) dX8_init_129 (fun H locs hP hD hS => ?_)
  have hP : va_P D vwCl ((h0, .inr (7, fz_15.set 24 (.ref q_16))) :: B16) H := hP
  have hD : va_D A ((h0, .inr (7, fz_15.set 24 (.ref q_16))) :: B16) := hD
  obtain ⟨fz_16, ez_16⟩ : ∃ Z : List Value, Z = fz_15.set 24 (.ref q_16) := ⟨_, rfl⟩
  rw [← ez_16] at hP hD
  have nz_16 : fz_16.length = 69 := by rw [ez_16, List.length_set]; exact nz_15
  refine lv_aload_n hx hb dX8_init_132 rfl (lv_at hl 0 rfl) ?_
  refine lv_bipush (v := 96) hx hb dX8_init_133 (by decide) ?_
  refine kn_a (atype := .int) (ty := .int) (a0 := (96, .inl (fun _ => 0))) (N' := 96) hx hb (hts (.arrayClass .int) (wm_c hw_267)) hE 0 rfl rfl (fun _ h => h) hP hD hS hA (fun cA => vp_cell_i cA 96 (fun _ => 0)) (by decide) (rfl) (by decide +kernel) (Nat.le_of_ble_eq_true rfl) (Nat.le_of_ble_eq_true rfl) dX8_init_135 (fun q_17 H hP hD hS => ?_)
  have hP : va_P D vwCl ((h0, .inr (7, fz_16)) :: (B16 ++ [(q_17, .inl (ak 0, 96, .inl (fun _ => 0)))])) H := hP
  have hD : va_D A ((h0, .inr (7, fz_16)) :: (B16 ++ [(q_17, .inl (ak 0, 96, .inl (fun _ => 0)))])) := hD
  obtain ⟨B17, eB17⟩ : ∃ Z : va_W, Z = B16 ++ [(q_17, .inl (ak 0, 96, .inl (fun _ => 0)))] := ⟨_, rfl⟩
  rw [← eB17] at hP hD
  refine W.widen (k := 17) (n := 1538) (Nat.le_of_ble_eq_true rfl) (Nat.le_of_ble_eq_true rfl) ?_
  refine vt_putF (D := D) (ci := 7) (v := .ref q_17) (ty := .array .int) (C := RX8) (T := TX8) (N := 69) hx hb hts (fun w h => wm_c (wc_X8 w h)) tyX8 tyX8_ok nmX8 hown hE.1 hP hD hS 0 rfl rfl 25 (by decide) tX8_25 (hts (.fieldLink RX8 59 "WornLinesModel" "twins" "[I") (wm_c hw_123)) (fun _ h9 => h9) rfl hin rfl pd_I rfl rfl (by rw [nz_16]; exact Nat.le_of_ble_eq_true rfl) dX8_init_137 (fun H locs hP hD hS => ?_)
  have hP : va_P D vwCl ((h0, .inr (7, fz_16.set 25 (.ref q_17))) :: B17) H := hP
  have hD : va_D A ((h0, .inr (7, fz_16.set 25 (.ref q_17))) :: B17) := hD
  obtain ⟨fz_17, ez_17⟩ : ∃ Z : List Value, Z = fz_16.set 25 (.ref q_17) := ⟨_, rfl⟩
  rw [← ez_17] at hP hD
  have nz_17 : fz_17.length = 69 := by rw [ez_17, List.length_set]; exact nz_16
  refine lv_aload_n hx hb dX8_init_140 rfl (lv_at hl 0 rfl) ?_
  refine lv_sipush (v := 192) hx hb dX8_init_141 (by decide) ?_
  refine kn_a (atype := .int) (ty := .int) (a0 := (192, .inl (fun _ => 0))) (N' := 192) hx hb (hts (.arrayClass .int) (wm_c hw_267)) hE 0 rfl rfl (fun _ h => h) hP hD hS hA (fun cA => vp_cell_i cA 192 (fun _ => 0)) (by decide) (rfl) (by decide +kernel) (Nat.le_of_ble_eq_true rfl) (Nat.le_of_ble_eq_true rfl) dX8_init_144 (fun q_18 H hP hD hS => ?_)
  have hP : va_P D vwCl ((h0, .inr (7, fz_17)) :: (B17 ++ [(q_18, .inl (ak 0, 192, .inl (fun _ => 0)))])) H := hP
  have hD : va_D A ((h0, .inr (7, fz_17)) :: (B17 ++ [(q_18, .inl (ak 0, 192, .inl (fun _ => 0)))])) := hD
  obtain ⟨B18, eB18⟩ : ∃ Z : va_W, Z = B17 ++ [(q_18, .inl (ak 0, 192, .inl (fun _ => 0)))] := ⟨_, rfl⟩
  rw [← eB18] at hP hD
  replace eB18 : B18 = [(q_1, .inl (ak 0, 1000, .inl (fun _ => 0))), (q_2, .inl (ak 0, 6, .inl (fun _ => 0))), (q_3, .inl (ak 0, 6, .inl (fun _ => 0))), (q_4, .inl (ak 0, 6, .inl (fun _ => 0))), (q_5, .inl (ak 0, 6, .inl (fun _ => 0))), (q_6, .inl (ak 1, 4, .inr (.inl (fun _ => 0)))), (q_7, .inl (ak 1, 6, .inr (.inl (fun _ => 0)))), (q_8, .inl (ak 0, 24, .inl (fun _ => 0))), (q_9, .inl (ak 0, 24, .inl (fun _ => 0))), (q_10, .inl (ak 0, 36, .inl (fun _ => 0))), (q_11, .inl (ak 0, 12, .inl (fun _ => 0))), (q_12, .inl (ak 0, 12, .inl (fun _ => 0))), (q_13, .inl (ak 0, 12, .inl (fun _ => 0))), (q_14, .inl (ak 0, 96, .inl (fun _ => 0))), (q_15, .inl (ak 0, 96, .inl (fun _ => 0))), (q_16, .inl (ak 0, 96, .inl (fun _ => 0))), (q_17, .inl (ak 0, 96, .inl (fun _ => 0))), (q_18, .inl (ak 0, 192, .inl (fun _ => 0)))] := by rw [eB18, eB17, eB16, eB15, eB14, eB13, eB12]; rfl
  refine W.widen (k := 18) (n := 1730) (Nat.le_of_ble_eq_true rfl) (Nat.le_of_ble_eq_true rfl) ?_
  refine vt_putF (D := D) (ci := 7) (v := .ref q_18) (ty := .array .int) (C := RX8) (T := TX8) (N := 69) hx hb hts (fun w h => wm_c (wc_X8 w h)) tyX8 tyX8_ok nmX8 hown hE.1 hP hD hS 0 rfl rfl 26 (by decide) tX8_26 (hts (.fieldLink RX8 62 "WornLinesModel" "lineFrom" "[I") (wm_c hw_45)) (fun _ h9 => h9) rfl hin rfl pd_I rfl rfl (by rw [nz_17]; exact Nat.le_of_ble_eq_true rfl) dX8_init_146 (fun H locs hP hD hS => ?_)
  have hP : va_P D vwCl ((h0, .inr (7, fz_17.set 26 (.ref q_18))) :: B18) H := hP
  have hD : va_D A ((h0, .inr (7, fz_17.set 26 (.ref q_18))) :: B18) := hD
  obtain ⟨fz_18, ez_18⟩ : ∃ Z : List Value, Z = fz_17.set 26 (.ref q_18) := ⟨_, rfl⟩
  rw [← ez_18] at hP hD
  have nz_18 : fz_18.length = 69 := by rw [ez_18, List.length_set]; exact nz_17
  replace ez_18 : fz_18 = [.int (0), .int (0), .ref q_1, .int (0), .int (0), .int (0), .int (0), .long (0), .int (0), .int (0), .ref q_2, .ref q_3, .ref q_4, .ref q_5, .ref q_6, .ref q_7, .ref q_8, .ref q_9, .ref q_10, .ref q_11, .ref q_12, .ref q_13, .ref q_14, .ref q_15, .ref q_16, .ref q_17, .ref q_18, .null, .null, .int (0), .null, .null, .null, .null, .null, .null, .null, .null, .null, .null, .null, .null, .int (0), .int (0), .int (0), .int (0), .int (0), .null, .null, .int (0), .null, .null, .null, .int (0), .int (0), .int (0), .int (0), .int (0), .null, .null, .null, .null, .null, .null, .null, .null, .null, .null, .int (0)] := by rw [ez_18, ez_17, ez_16, ez_15, ez_14, ez_13, ez_12]; rfl
  refine lv_aload_n hx hb dX8_init_149 rfl (lv_at hl 0 rfl) ?_
  refine lv_sipush (v := 192) hx hb dX8_init_150 (by decide) ?_
  refine kn_a (atype := .int) (ty := .int) (a0 := (192, .inl (fun _ => 0))) (N' := 192) hx hb (hts (.arrayClass .int) (wm_c hw_267)) hE 0 rfl rfl (fun _ h => h) hP hD hS hA (fun cA => vp_cell_i cA 192 (fun _ => 0)) (by decide) (rfl) (by decide +kernel) (Nat.le_of_ble_eq_true rfl) (Nat.le_of_ble_eq_true rfl) dX8_init_153 (fun q_19 H hP hD hS => ?_)
  have hP : va_P D vwCl ((h0, .inr (7, fz_18)) :: (B18 ++ [(q_19, .inl (ak 0, 192, .inl (fun _ => 0)))])) H := hP
  have hD : va_D A ((h0, .inr (7, fz_18)) :: (B18 ++ [(q_19, .inl (ak 0, 192, .inl (fun _ => 0)))])) := hD
  obtain ⟨B19, eB19⟩ : ∃ Z : va_W, Z = B18 ++ [(q_19, .inl (ak 0, 192, .inl (fun _ => 0)))] := ⟨_, rfl⟩
  rw [← eB19] at hP hD
  refine W.widen (k := 19) (n := 1922) (Nat.le_of_ble_eq_true rfl) (Nat.le_of_ble_eq_true rfl) ?_
  refine vt_putF (D := D) (ci := 7) (v := .ref q_19) (ty := .array .int) (C := RX8) (T := TX8) (N := 69) hx hb hts (fun w h => wm_c (wc_X8 w h)) tyX8 tyX8_ok nmX8 hown hE.1 hP hD hS 0 rfl rfl 27 (by decide) tX8_27 (hts (.fieldLink RX8 65 "WornLinesModel" "lineTo" "[I") (wm_c hw_43)) (fun _ h9 => h9) rfl hin rfl pd_I rfl rfl (by rw [nz_18]; exact Nat.le_of_ble_eq_true rfl) dX8_init_155 (fun H locs hP hD hS => ?_)
  have hP : va_P D vwCl ((h0, .inr (7, fz_18.set 27 (.ref q_19))) :: B19) H := hP
  have hD : va_D A ((h0, .inr (7, fz_18.set 27 (.ref q_19))) :: B19) := hD
  obtain ⟨fz_19, ez_19⟩ : ∃ Z : List Value, Z = fz_18.set 27 (.ref q_19) := ⟨_, rfl⟩
  rw [← ez_19] at hP hD
  have nz_19 : fz_19.length = 69 := by rw [ez_19, List.length_set]; exact nz_18
  refine lv_aload_n hx hb dX8_init_158 rfl (lv_at hl 0 rfl) ?_
  refine lv_sipush (v := 6000) hx hb dX8_init_159 (by decide) ?_
  refine kn_a (atype := .int) (ty := .int) (a0 := (6000, .inl (fun _ => 0))) (N' := 6000) hx hb (hts (.arrayClass .int) (wm_c hw_267)) hE 0 rfl rfl (fun _ h => h) hP hD hS hA (fun cA => vp_cell_i cA 6000 (fun _ => 0)) (by decide) (rfl) (by decide +kernel) (Nat.le_of_ble_eq_true rfl) (Nat.le_of_ble_eq_true rfl) dX8_init_162 (fun q_20 H hP hD hS => ?_)
  have hP : va_P D vwCl ((h0, .inr (7, fz_19)) :: (B19 ++ [(q_20, .inl (ak 0, 6000, .inl (fun _ => 0)))])) H := hP
  have hD : va_D A ((h0, .inr (7, fz_19)) :: (B19 ++ [(q_20, .inl (ak 0, 6000, .inl (fun _ => 0)))])) := hD
  obtain ⟨B20, eB20⟩ : ∃ Z : va_W, Z = B19 ++ [(q_20, .inl (ak 0, 6000, .inl (fun _ => 0)))] := ⟨_, rfl⟩
  rw [← eB20] at hP hD
  refine W.widen (k := 20) (n := 7922) (Nat.le_of_ble_eq_true rfl) (Nat.le_of_ble_eq_true rfl) ?_
  refine vt_putF (D := D) (ci := 7) (v := .ref q_20) (ty := .array .int) (C := RX8) (T := TX8) (N := 69) hx hb hts (fun w h => wm_c (wc_X8 w h)) tyX8 tyX8_ok nmX8 hown hE.1 hP hD hS 0 rfl rfl 28 (by decide) tX8_28 (hts (.fieldLink RX8 68 "WornLinesModel" "codes" "[I") (wm_c hw_17)) (fun _ h9 => h9) rfl hin rfl pd_I rfl rfl (by rw [nz_19]; exact Nat.le_of_ble_eq_true rfl) dX8_init_164 (fun H locs hP hD hS => ?_)
  have hP : va_P D vwCl ((h0, .inr (7, fz_19.set 28 (.ref q_20))) :: B20) H := hP
  have hD : va_D A ((h0, .inr (7, fz_19.set 28 (.ref q_20))) :: B20) := hD
  obtain ⟨fz_20, ez_20⟩ : ∃ Z : List Value, Z = fz_19.set 28 (.ref q_20) := ⟨_, rfl⟩
  rw [← ez_20] at hP hD
  have nz_20 : fz_20.length = 69 := by rw [ez_20, List.length_set]; exact nz_19
  refine lv_aload_n hx hb dX8_init_167 rfl (lv_at hl 0 rfl) ?_
  refine lv_bipush (v := 7) hx hb dX8_init_168 (by decide) ?_
  refine kn_a (atype := .int) (ty := .int) (a0 := (7, .inl (fun _ => 0))) (N' := 7) hx hb (hts (.arrayClass .int) (wm_c hw_267)) hE 0 rfl rfl (fun _ h => h) hP hD hS hA (fun cA => vp_cell_i cA 7 (fun _ => 0)) (by decide) (rfl) (by decide +kernel) (Nat.le_of_ble_eq_true rfl) (Nat.le_of_ble_eq_true rfl) dX8_init_170 (fun q_21 H hP hD hS => ?_)
  have hP : va_P D vwCl ((h0, .inr (7, fz_20)) :: (B20 ++ [(q_21, .inl (ak 0, 7, .inl (fun _ => 0)))])) H := hP
  have hD : va_D A ((h0, .inr (7, fz_20)) :: (B20 ++ [(q_21, .inl (ak 0, 7, .inl (fun _ => 0)))])) := hD
  obtain ⟨B21, eB21⟩ : ∃ Z : va_W, Z = B20 ++ [(q_21, .inl (ak 0, 7, .inl (fun _ => 0)))] := ⟨_, rfl⟩
  rw [← eB21] at hP hD
  refine W.widen (k := 21) (n := 7929) (Nat.le_of_ble_eq_true rfl) (Nat.le_of_ble_eq_true rfl) ?_
  refine vt_putF (D := D) (ci := 7) (v := .ref q_21) (ty := .array .int) (C := RX8) (T := TX8) (N := 69) hx hb hts (fun w h => wm_c (wc_X8 w h)) tyX8 tyX8_ok nmX8 hown hE.1 hP hD hS 0 rfl rfl 30 (by decide) tX8_30 (hts (.fieldLink RX8 71 "WornLinesModel" "opened" "[I") (wm_c hw_44)) (fun _ h9 => h9) rfl hin rfl pd_I rfl rfl (by rw [nz_20]; exact Nat.le_of_ble_eq_true rfl) dX8_init_172 (fun H locs hP hD hS => ?_)
  have hP : va_P D vwCl ((h0, .inr (7, fz_20.set 30 (.ref q_21))) :: B21) H := hP
  have hD : va_D A ((h0, .inr (7, fz_20.set 30 (.ref q_21))) :: B21) := hD
  obtain ⟨fz_21, ez_21⟩ : ∃ Z : List Value, Z = fz_20.set 30 (.ref q_21) := ⟨_, rfl⟩
  rw [← ez_21] at hP hD
  have nz_21 : fz_21.length = 69 := by rw [ez_21, List.length_set]; exact nz_20
  refine lv_aload_n hx hb dX8_init_175 rfl (lv_at hl 0 rfl) ?_
  refine lv_bipush (v := 7) hx hb dX8_init_176 (by decide) ?_
  refine kn_a (atype := .boolean) (ty := .boolean) (a0 := (7, .inl (fun _ => 0))) (N' := 7) hx hb (hts (.arrayClass .boolean) (wm_c hw_651)) hE 3 rfl rfl (fun _ h => h) hP hD hS hA (fun cA => vp_cell_i cA 7 (fun _ => 0)) (by decide) (rfl) (by decide +kernel) (Nat.le_of_ble_eq_true rfl) (Nat.le_of_ble_eq_true rfl) dX8_init_178 (fun q_22 H hP hD hS => ?_)
  have hP : va_P D vwCl ((h0, .inr (7, fz_21)) :: (B21 ++ [(q_22, .inl (ak 3, 7, .inl (fun _ => 0)))])) H := hP
  have hD : va_D A ((h0, .inr (7, fz_21)) :: (B21 ++ [(q_22, .inl (ak 3, 7, .inl (fun _ => 0)))])) := hD
  obtain ⟨B22, eB22⟩ : ∃ Z : va_W, Z = B21 ++ [(q_22, .inl (ak 3, 7, .inl (fun _ => 0)))] := ⟨_, rfl⟩
  rw [← eB22] at hP hD
  refine W.widen (k := 22) (n := 7936) (Nat.le_of_ble_eq_true rfl) (Nat.le_of_ble_eq_true rfl) ?_
  refine vt_putF (D := D) (ci := 7) (v := .ref q_22) (ty := .array .boolean) (C := RX8) (T := TX8) (N := 69) hx hb hts (fun w h => wm_c (wc_X8 w h)) tyX8 tyX8_ok nmX8 hown hE.1 hP hD hS 0 rfl rfl 31 (by decide) tX8_31 (hts (.fieldLink RX8 74 "WornLinesModel" "compared" "[Z") (wm_c hw_42)) (fun _ h9 => h9) rfl hin rfl pd_Z rfl rfl (by rw [nz_21]; exact Nat.le_of_ble_eq_true rfl) dX8_init_180 (fun H locs hP hD hS => ?_)
  have hP : va_P D vwCl ((h0, .inr (7, fz_21.set 31 (.ref q_22))) :: B22) H := hP
  have hD : va_D A ((h0, .inr (7, fz_21.set 31 (.ref q_22))) :: B22) := hD
  obtain ⟨fz_22, ez_22⟩ : ∃ Z : List Value, Z = fz_21.set 31 (.ref q_22) := ⟨_, rfl⟩
  rw [← ez_22] at hP hD
  have nz_22 : fz_22.length = 69 := by rw [ez_22, List.length_set]; exact nz_21
  refine lv_aload_n hx hb dX8_init_183 rfl (lv_at hl 0 rfl) ?_
  refine lv_bipush (v := 7) hx hb dX8_init_184 (by decide) ?_
  refine kn_a (atype := .int) (ty := .int) (a0 := (7, .inl (fun _ => 0))) (N' := 7) hx hb (hts (.arrayClass .int) (wm_c hw_267)) hE 0 rfl rfl (fun _ h => h) hP hD hS hA (fun cA => vp_cell_i cA 7 (fun _ => 0)) (by decide) (rfl) (by decide +kernel) (Nat.le_of_ble_eq_true rfl) (Nat.le_of_ble_eq_true rfl) dX8_init_186 (fun q_23 H hP hD hS => ?_)
  have hP : va_P D vwCl ((h0, .inr (7, fz_22)) :: (B22 ++ [(q_23, .inl (ak 0, 7, .inl (fun _ => 0)))])) H := hP
  have hD : va_D A ((h0, .inr (7, fz_22)) :: (B22 ++ [(q_23, .inl (ak 0, 7, .inl (fun _ => 0)))])) := hD
  obtain ⟨B23, eB23⟩ : ∃ Z : va_W, Z = B22 ++ [(q_23, .inl (ak 0, 7, .inl (fun _ => 0)))] := ⟨_, rfl⟩
  rw [← eB23] at hP hD
  refine W.widen (k := 23) (n := 7943) (Nat.le_of_ble_eq_true rfl) (Nat.le_of_ble_eq_true rfl) ?_
  refine vt_putF (D := D) (ci := 7) (v := .ref q_23) (ty := .array .int) (C := RX8) (T := TX8) (N := 69) hx hb hts (fun w h => wm_c (wc_X8 w h)) tyX8 tyX8_ok nmX8 hown hE.1 hP hD hS 0 rfl rfl 32 (by decide) tX8_32 (hts (.fieldLink RX8 78 "WornLinesModel" "kept" "[I") (wm_c hw_73)) (fun _ h9 => h9) rfl hin rfl pd_I rfl rfl (by rw [nz_22]; exact Nat.le_of_ble_eq_true rfl) dX8_init_188 (fun H locs hP hD hS => ?_)
  have hP : va_P D vwCl ((h0, .inr (7, fz_22.set 32 (.ref q_23))) :: B23) H := hP
  have hD : va_D A ((h0, .inr (7, fz_22.set 32 (.ref q_23))) :: B23) := hD
  obtain ⟨fz_23, ez_23⟩ : ∃ Z : List Value, Z = fz_22.set 32 (.ref q_23) := ⟨_, rfl⟩
  rw [← ez_23] at hP hD
  have nz_23 : fz_23.length = 69 := by rw [ez_23, List.length_set]; exact nz_22
  refine lv_aload_n hx hb dX8_init_191 rfl (lv_at hl 0 rfl) ?_
  refine lv_bipush (v := 7) hx hb dX8_init_192 (by decide) ?_
  refine kn_a (atype := .int) (ty := .int) (a0 := (7, .inl (fun _ => 0))) (N' := 7) hx hb (hts (.arrayClass .int) (wm_c hw_267)) hE 0 rfl rfl (fun _ h => h) hP hD hS hA (fun cA => vp_cell_i cA 7 (fun _ => 0)) (by decide) (rfl) (by decide +kernel) (Nat.le_of_ble_eq_true rfl) (Nat.le_of_ble_eq_true rfl) dX8_init_194 (fun q_24 H hP hD hS => ?_)
  have hP : va_P D vwCl ((h0, .inr (7, fz_23)) :: (B23 ++ [(q_24, .inl (ak 0, 7, .inl (fun _ => 0)))])) H := hP
  have hD : va_D A ((h0, .inr (7, fz_23)) :: (B23 ++ [(q_24, .inl (ak 0, 7, .inl (fun _ => 0)))])) := hD
  obtain ⟨B24, eB24⟩ : ∃ Z : va_W, Z = B23 ++ [(q_24, .inl (ak 0, 7, .inl (fun _ => 0)))] := ⟨_, rfl⟩
  rw [← eB24] at hP hD
  replace eB24 : B24 = [(q_1, .inl (ak 0, 1000, .inl (fun _ => 0))), (q_2, .inl (ak 0, 6, .inl (fun _ => 0))), (q_3, .inl (ak 0, 6, .inl (fun _ => 0))), (q_4, .inl (ak 0, 6, .inl (fun _ => 0))), (q_5, .inl (ak 0, 6, .inl (fun _ => 0))), (q_6, .inl (ak 1, 4, .inr (.inl (fun _ => 0)))), (q_7, .inl (ak 1, 6, .inr (.inl (fun _ => 0)))), (q_8, .inl (ak 0, 24, .inl (fun _ => 0))), (q_9, .inl (ak 0, 24, .inl (fun _ => 0))), (q_10, .inl (ak 0, 36, .inl (fun _ => 0))), (q_11, .inl (ak 0, 12, .inl (fun _ => 0))), (q_12, .inl (ak 0, 12, .inl (fun _ => 0))), (q_13, .inl (ak 0, 12, .inl (fun _ => 0))), (q_14, .inl (ak 0, 96, .inl (fun _ => 0))), (q_15, .inl (ak 0, 96, .inl (fun _ => 0))), (q_16, .inl (ak 0, 96, .inl (fun _ => 0))), (q_17, .inl (ak 0, 96, .inl (fun _ => 0))), (q_18, .inl (ak 0, 192, .inl (fun _ => 0))), (q_19, .inl (ak 0, 192, .inl (fun _ => 0))), (q_20, .inl (ak 0, 6000, .inl (fun _ => 0))), (q_21, .inl (ak 0, 7, .inl (fun _ => 0))), (q_22, .inl (ak 3, 7, .inl (fun _ => 0))), (q_23, .inl (ak 0, 7, .inl (fun _ => 0))), (q_24, .inl (ak 0, 7, .inl (fun _ => 0)))] := by rw [eB24, eB23, eB22, eB21, eB20, eB19, eB18]; rfl
  refine W.widen (k := 24) (n := 7950) (Nat.le_of_ble_eq_true rfl) (Nat.le_of_ble_eq_true rfl) ?_
  refine vt_putF (D := D) (ci := 7) (v := .ref q_24) (ty := .array .int) (C := RX8) (T := TX8) (N := 69) hx hb hts (fun w h => wm_c (wc_X8 w h)) tyX8 tyX8_ok nmX8 hown hE.1 hP hD hS 0 rfl rfl 33 (by decide) tX8_33 (hts (.fieldLink RX8 81 "WornLinesModel" "keptBy" "[I") (wm_c hw_67)) (fun _ h9 => h9) rfl hin rfl pd_I rfl rfl (by rw [nz_23]; exact Nat.le_of_ble_eq_true rfl) dX8_init_196 (fun H locs hP hD hS => ?_)
  have hP : va_P D vwCl ((h0, .inr (7, fz_23.set 33 (.ref q_24))) :: B24) H := hP
  have hD : va_D A ((h0, .inr (7, fz_23.set 33 (.ref q_24))) :: B24) := hD
  obtain ⟨fz_24, ez_24⟩ : ∃ Z : List Value, Z = fz_23.set 33 (.ref q_24) := ⟨_, rfl⟩
  rw [← ez_24] at hP hD
  have nz_24 : fz_24.length = 69 := by rw [ez_24, List.length_set]; exact nz_23
  replace ez_24 : fz_24 = [.int (0), .int (0), .ref q_1, .int (0), .int (0), .int (0), .int (0), .long (0), .int (0), .int (0), .ref q_2, .ref q_3, .ref q_4, .ref q_5, .ref q_6, .ref q_7, .ref q_8, .ref q_9, .ref q_10, .ref q_11, .ref q_12, .ref q_13, .ref q_14, .ref q_15, .ref q_16, .ref q_17, .ref q_18, .ref q_19, .ref q_20, .int (0), .ref q_21, .ref q_22, .ref q_23, .ref q_24, .null, .null, .null, .null, .null, .null, .null, .null, .int (0), .int (0), .int (0), .int (0), .int (0), .null, .null, .int (0), .null, .null, .null, .int (0), .int (0), .int (0), .int (0), .int (0), .null, .null, .null, .null, .null, .null, .null, .null, .null, .null, .int (0)] := by rw [ez_24, ez_23, ez_22, ez_21, ez_20, ez_19, ez_18]; rfl
  refine lv_aload_n hx hb dX8_init_199 rfl (lv_at hl 0 rfl) ?_
  refine lv_bipush (v := 7) hx hb dX8_init_200 (by decide) ?_
  refine kn_a (atype := .int) (ty := .int) (a0 := (7, .inl (fun _ => 0))) (N' := 7) hx hb (hts (.arrayClass .int) (wm_c hw_267)) hE 0 rfl rfl (fun _ h => h) hP hD hS hA (fun cA => vp_cell_i cA 7 (fun _ => 0)) (by decide) (rfl) (by decide +kernel) (Nat.le_of_ble_eq_true rfl) (Nat.le_of_ble_eq_true rfl) dX8_init_202 (fun q_25 H hP hD hS => ?_)
  have hP : va_P D vwCl ((h0, .inr (7, fz_24)) :: (B24 ++ [(q_25, .inl (ak 0, 7, .inl (fun _ => 0)))])) H := hP
  have hD : va_D A ((h0, .inr (7, fz_24)) :: (B24 ++ [(q_25, .inl (ak 0, 7, .inl (fun _ => 0)))])) := hD
  obtain ⟨B25, eB25⟩ : ∃ Z : va_W, Z = B24 ++ [(q_25, .inl (ak 0, 7, .inl (fun _ => 0)))] := ⟨_, rfl⟩
  rw [← eB25] at hP hD
  refine W.widen (k := 25) (n := 7957) (Nat.le_of_ble_eq_true rfl) (Nat.le_of_ble_eq_true rfl) ?_
  refine vt_putF (D := D) (ci := 7) (v := .ref q_25) (ty := .array .int) (C := RX8) (T := TX8) (N := 69) hx hb hts (fun w h => wm_c (wc_X8 w h)) tyX8 tyX8_ok nmX8 hown hE.1 hP hD hS 0 rfl rfl 34 (by decide) tX8_34 (hts (.fieldLink RX8 84 "WornLinesModel" "ahead" "[I") (wm_c hw_74)) (fun _ h9 => h9) rfl hin rfl pd_I rfl rfl (by rw [nz_24]; exact Nat.le_of_ble_eq_true rfl) dX8_init_204 (fun H locs hP hD hS => ?_)
  have hP : va_P D vwCl ((h0, .inr (7, fz_24.set 34 (.ref q_25))) :: B25) H := hP
  have hD : va_D A ((h0, .inr (7, fz_24.set 34 (.ref q_25))) :: B25) := hD
  obtain ⟨fz_25, ez_25⟩ : ∃ Z : List Value, Z = fz_24.set 34 (.ref q_25) := ⟨_, rfl⟩
  rw [← ez_25] at hP hD
  have nz_25 : fz_25.length = 69 := by rw [ez_25, List.length_set]; exact nz_24
  refine lv_aload_n hx hb dX8_init_207 rfl (lv_at hl 0 rfl) ?_
  refine lv_bipush (v := 7) hx hb dX8_init_208 (by decide) ?_
  refine kn_a (atype := .int) (ty := .int) (a0 := (7, .inl (fun _ => 0))) (N' := 7) hx hb (hts (.arrayClass .int) (wm_c hw_267)) hE 0 rfl rfl (fun _ h => h) hP hD hS hA (fun cA => vp_cell_i cA 7 (fun _ => 0)) (by decide) (rfl) (by decide +kernel) (Nat.le_of_ble_eq_true rfl) (Nat.le_of_ble_eq_true rfl) dX8_init_210 (fun q_26 H hP hD hS => ?_)
  have hP : va_P D vwCl ((h0, .inr (7, fz_25)) :: (B25 ++ [(q_26, .inl (ak 0, 7, .inl (fun _ => 0)))])) H := hP
  have hD : va_D A ((h0, .inr (7, fz_25)) :: (B25 ++ [(q_26, .inl (ak 0, 7, .inl (fun _ => 0)))])) := hD
  obtain ⟨B26, eB26⟩ : ∃ Z : va_W, Z = B25 ++ [(q_26, .inl (ak 0, 7, .inl (fun _ => 0)))] := ⟨_, rfl⟩
  rw [← eB26] at hP hD
  refine W.widen (k := 26) (n := 7964) (Nat.le_of_ble_eq_true rfl) (Nat.le_of_ble_eq_true rfl) ?_
  refine vt_putF (D := D) (ci := 7) (v := .ref q_26) (ty := .array .int) (C := RX8) (T := TX8) (N := 69) hx hb hts (fun w h => wm_c (wc_X8 w h)) tyX8 tyX8_ok nmX8 hown hE.1 hP hD hS 0 rfl rfl 35 (by decide) tX8_35 (hts (.fieldLink RX8 87 "WornLinesModel" "against" "[I") (wm_c hw_68)) (fun _ h9 => h9) rfl hin rfl pd_I rfl rfl (by rw [nz_25]; exact Nat.le_of_ble_eq_true rfl) dX8_init_212 (fun H locs hP hD hS => ?_)
  have hP : va_P D vwCl ((h0, .inr (7, fz_25.set 35 (.ref q_26))) :: B26) H := hP
  have hD : va_D A ((h0, .inr (7, fz_25.set 35 (.ref q_26))) :: B26) := hD
  obtain ⟨fz_26, ez_26⟩ : ∃ Z : List Value, Z = fz_25.set 35 (.ref q_26) := ⟨_, rfl⟩
  rw [← ez_26] at hP hD
  have nz_26 : fz_26.length = 69 := by rw [ez_26, List.length_set]; exact nz_25
  refine lv_aload_n hx hb dX8_init_215 rfl (lv_at hl 0 rfl) ?_
  refine lv_bipush (v := 7) hx hb dX8_init_216 (by decide) ?_
  refine kn_a (atype := .int) (ty := .int) (a0 := (7, .inl (fun _ => 0))) (N' := 7) hx hb (hts (.arrayClass .int) (wm_c hw_267)) hE 0 rfl rfl (fun _ h => h) hP hD hS hA (fun cA => vp_cell_i cA 7 (fun _ => 0)) (by decide) (rfl) (by decide +kernel) (Nat.le_of_ble_eq_true rfl) (Nat.le_of_ble_eq_true rfl) dX8_init_218 (fun q_27 H hP hD hS => ?_)
  have hP : va_P D vwCl ((h0, .inr (7, fz_26)) :: (B26 ++ [(q_27, .inl (ak 0, 7, .inl (fun _ => 0)))])) H := hP
  have hD : va_D A ((h0, .inr (7, fz_26)) :: (B26 ++ [(q_27, .inl (ak 0, 7, .inl (fun _ => 0)))])) := hD
  obtain ⟨B27, eB27⟩ : ∃ Z : va_W, Z = B26 ++ [(q_27, .inl (ak 0, 7, .inl (fun _ => 0)))] := ⟨_, rfl⟩
  rw [← eB27] at hP hD
  refine W.widen (k := 27) (n := 7971) (Nat.le_of_ble_eq_true rfl) (Nat.le_of_ble_eq_true rfl) ?_
  refine vt_putF (D := D) (ci := 7) (v := .ref q_27) (ty := .array .int) (C := RX8) (T := TX8) (N := 69) hx hb hts (fun w h => wm_c (wc_X8 w h)) tyX8 tyX8_ok nmX8 hown hE.1 hP hD hS 0 rfl rfl 36 (by decide) tX8_36 (hts (.fieldLink RX8 90 "WornLinesModel" "sum" "[I") (wm_c hw_69)) (fun _ h9 => h9) rfl hin rfl pd_I rfl rfl (by rw [nz_26]; exact Nat.le_of_ble_eq_true rfl) dX8_init_220 (fun H locs hP hD hS => ?_)
  have hP : va_P D vwCl ((h0, .inr (7, fz_26.set 36 (.ref q_27))) :: B27) H := hP
  have hD : va_D A ((h0, .inr (7, fz_26.set 36 (.ref q_27))) :: B27) := hD
  obtain ⟨fz_27, ez_27⟩ : ∃ Z : List Value, Z = fz_26.set 36 (.ref q_27) := ⟨_, rfl⟩
  rw [← ez_27] at hP hD
  have nz_27 : fz_27.length = 69 := by rw [ez_27, List.length_set]; exact nz_26
  refine lv_aload_n hx hb dX8_init_223 rfl (lv_at hl 0 rfl) ?_
  refine lv_bipush (v := 7) hx hb dX8_init_224 (by decide) ?_
  refine kn_a (atype := .int) (ty := .int) (a0 := (7, .inl (fun _ => 0))) (N' := 7) hx hb (hts (.arrayClass .int) (wm_c hw_267)) hE 0 rfl rfl (fun _ h => h) hP hD hS hA (fun cA => vp_cell_i cA 7 (fun _ => 0)) (by decide) (rfl) (by decide +kernel) (Nat.le_of_ble_eq_true rfl) (Nat.le_of_ble_eq_true rfl) dX8_init_226 (fun q_28 H hP hD hS => ?_)
  have hP : va_P D vwCl ((h0, .inr (7, fz_27)) :: (B27 ++ [(q_28, .inl (ak 0, 7, .inl (fun _ => 0)))])) H := hP
  have hD : va_D A ((h0, .inr (7, fz_27)) :: (B27 ++ [(q_28, .inl (ak 0, 7, .inl (fun _ => 0)))])) := hD
  obtain ⟨B28, eB28⟩ : ∃ Z : va_W, Z = B27 ++ [(q_28, .inl (ak 0, 7, .inl (fun _ => 0)))] := ⟨_, rfl⟩
  rw [← eB28] at hP hD
  refine W.widen (k := 28) (n := 7978) (Nat.le_of_ble_eq_true rfl) (Nat.le_of_ble_eq_true rfl) ?_
  refine vt_putF (D := D) (ci := 7) (v := .ref q_28) (ty := .array .int) (C := RX8) (T := TX8) (N := 69) hx hb hts (fun w h => wm_c (wc_X8 w h)) tyX8 tyX8_ok nmX8 hown hE.1 hP hD hS 0 rfl rfl 37 (by decide) tX8_37 (hts (.fieldLink RX8 93 "WornLinesModel" "sumBy" "[I") (wm_c hw_70)) (fun _ h9 => h9) rfl hin rfl pd_I rfl rfl (by rw [nz_27]; exact Nat.le_of_ble_eq_true rfl) dX8_init_228 (fun H locs hP hD hS => ?_)
  have hP : va_P D vwCl ((h0, .inr (7, fz_27.set 37 (.ref q_28))) :: B28) H := hP
  have hD : va_D A ((h0, .inr (7, fz_27.set 37 (.ref q_28))) :: B28) := hD
  obtain ⟨fz_28, ez_28⟩ : ∃ Z : List Value, Z = fz_27.set 37 (.ref q_28) := ⟨_, rfl⟩
  rw [← ez_28] at hP hD
  have nz_28 : fz_28.length = 69 := by rw [ez_28, List.length_set]; exact nz_27
  refine lv_aload_n hx hb dX8_init_231 rfl (lv_at hl 0 rfl) ?_
  refine lv_bipush (v := 7) hx hb dX8_init_232 (by decide) ?_
  refine kn_a (atype := .int) (ty := .int) (a0 := (7, .inl (fun _ => 0))) (N' := 7) hx hb (hts (.arrayClass .int) (wm_c hw_267)) hE 0 rfl rfl (fun _ h => h) hP hD hS hA (fun cA => vp_cell_i cA 7 (fun _ => 0)) (by decide) (rfl) (by decide +kernel) (Nat.le_of_ble_eq_true rfl) (Nat.le_of_ble_eq_true rfl) dX8_init_234 (fun q_29 H hP hD hS => ?_)
  have hP : va_P D vwCl ((h0, .inr (7, fz_28)) :: (B28 ++ [(q_29, .inl (ak 0, 7, .inl (fun _ => 0)))])) H := hP
  have hD : va_D A ((h0, .inr (7, fz_28)) :: (B28 ++ [(q_29, .inl (ak 0, 7, .inl (fun _ => 0)))])) := hD
  obtain ⟨B29, eB29⟩ : ∃ Z : va_W, Z = B28 ++ [(q_29, .inl (ak 0, 7, .inl (fun _ => 0)))] := ⟨_, rfl⟩
  rw [← eB29] at hP hD
  refine W.widen (k := 29) (n := 7985) (Nat.le_of_ble_eq_true rfl) (Nat.le_of_ble_eq_true rfl) ?_
  refine vt_putF (D := D) (ci := 7) (v := .ref q_29) (ty := .array .int) (C := RX8) (T := TX8) (N := 69) hx hb hts (fun w h => wm_c (wc_X8 w h)) tyX8 tyX8_ok nmX8 hown hE.1 hP hD hS 0 rfl rfl 38 (by decide) tX8_38 (hts (.fieldLink RX8 96 "WornLinesModel" "term" "[I") (wm_c hw_72)) (fun _ h9 => h9) rfl hin rfl pd_I rfl rfl (by rw [nz_28]; exact Nat.le_of_ble_eq_true rfl) dX8_init_236 (fun H locs hP hD hS => ?_)
  have hP : va_P D vwCl ((h0, .inr (7, fz_28.set 38 (.ref q_29))) :: B29) H := hP
  have hD : va_D A ((h0, .inr (7, fz_28.set 38 (.ref q_29))) :: B29) := hD
  obtain ⟨fz_29, ez_29⟩ : ∃ Z : List Value, Z = fz_28.set 38 (.ref q_29) := ⟨_, rfl⟩
  rw [← ez_29] at hP hD
  have nz_29 : fz_29.length = 69 := by rw [ez_29, List.length_set]; exact nz_28
  refine lv_aload_n hx hb dX8_init_239 rfl (lv_at hl 0 rfl) ?_
  refine lv_bipush (v := 7) hx hb dX8_init_240 (by decide) ?_
  refine kn_a (atype := .int) (ty := .int) (a0 := (7, .inl (fun _ => 0))) (N' := 7) hx hb (hts (.arrayClass .int) (wm_c hw_267)) hE 0 rfl rfl (fun _ h => h) hP hD hS hA (fun cA => vp_cell_i cA 7 (fun _ => 0)) (by decide) (rfl) (by decide +kernel) (Nat.le_of_ble_eq_true rfl) (Nat.le_of_ble_eq_true rfl) dX8_init_242 (fun q_30 H hP hD hS => ?_)
  have hP : va_P D vwCl ((h0, .inr (7, fz_29)) :: (B29 ++ [(q_30, .inl (ak 0, 7, .inl (fun _ => 0)))])) H := hP
  have hD : va_D A ((h0, .inr (7, fz_29)) :: (B29 ++ [(q_30, .inl (ak 0, 7, .inl (fun _ => 0)))])) := hD
  obtain ⟨B30, eB30⟩ : ∃ Z : va_W, Z = B29 ++ [(q_30, .inl (ak 0, 7, .inl (fun _ => 0)))] := ⟨_, rfl⟩
  rw [← eB30] at hP hD
  replace eB30 : B30 = [(q_1, .inl (ak 0, 1000, .inl (fun _ => 0))), (q_2, .inl (ak 0, 6, .inl (fun _ => 0))), (q_3, .inl (ak 0, 6, .inl (fun _ => 0))), (q_4, .inl (ak 0, 6, .inl (fun _ => 0))), (q_5, .inl (ak 0, 6, .inl (fun _ => 0))), (q_6, .inl (ak 1, 4, .inr (.inl (fun _ => 0)))), (q_7, .inl (ak 1, 6, .inr (.inl (fun _ => 0)))), (q_8, .inl (ak 0, 24, .inl (fun _ => 0))), (q_9, .inl (ak 0, 24, .inl (fun _ => 0))), (q_10, .inl (ak 0, 36, .inl (fun _ => 0))), (q_11, .inl (ak 0, 12, .inl (fun _ => 0))), (q_12, .inl (ak 0, 12, .inl (fun _ => 0))), (q_13, .inl (ak 0, 12, .inl (fun _ => 0))), (q_14, .inl (ak 0, 96, .inl (fun _ => 0))), (q_15, .inl (ak 0, 96, .inl (fun _ => 0))), (q_16, .inl (ak 0, 96, .inl (fun _ => 0))), (q_17, .inl (ak 0, 96, .inl (fun _ => 0))), (q_18, .inl (ak 0, 192, .inl (fun _ => 0))), (q_19, .inl (ak 0, 192, .inl (fun _ => 0))), (q_20, .inl (ak 0, 6000, .inl (fun _ => 0))), (q_21, .inl (ak 0, 7, .inl (fun _ => 0))), (q_22, .inl (ak 3, 7, .inl (fun _ => 0))), (q_23, .inl (ak 0, 7, .inl (fun _ => 0))), (q_24, .inl (ak 0, 7, .inl (fun _ => 0))), (q_25, .inl (ak 0, 7, .inl (fun _ => 0))), (q_26, .inl (ak 0, 7, .inl (fun _ => 0))), (q_27, .inl (ak 0, 7, .inl (fun _ => 0))), (q_28, .inl (ak 0, 7, .inl (fun _ => 0))), (q_29, .inl (ak 0, 7, .inl (fun _ => 0))), (q_30, .inl (ak 0, 7, .inl (fun _ => 0)))] := by rw [eB30, eB29, eB28, eB27, eB26, eB25, eB24]; rfl
  refine W.widen (k := 30) (n := 7992) (Nat.le_of_ble_eq_true rfl) (Nat.le_of_ble_eq_true rfl) ?_
  refine vt_putF (D := D) (ci := 7) (v := .ref q_30) (ty := .array .int) (C := RX8) (T := TX8) (N := 69) hx hb hts (fun w h => wm_c (wc_X8 w h)) tyX8 tyX8_ok nmX8 hown hE.1 hP hD hS 0 rfl rfl 39 (by decide) tX8_39 (hts (.fieldLink RX8 99 "WornLinesModel" "termBy" "[I") (wm_c hw_71)) (fun _ h9 => h9) rfl hin rfl pd_I rfl rfl (by rw [nz_29]; exact Nat.le_of_ble_eq_true rfl) dX8_init_244 (fun H locs hP hD hS => ?_)
  have hP : va_P D vwCl ((h0, .inr (7, fz_29.set 39 (.ref q_30))) :: B30) H := hP
  have hD : va_D A ((h0, .inr (7, fz_29.set 39 (.ref q_30))) :: B30) := hD
  obtain ⟨fz_30, ez_30⟩ : ∃ Z : List Value, Z = fz_29.set 39 (.ref q_30) := ⟨_, rfl⟩
  rw [← ez_30] at hP hD
  have nz_30 : fz_30.length = 69 := by rw [ez_30, List.length_set]; exact nz_29
  replace ez_30 : fz_30 = [.int (0), .int (0), .ref q_1, .int (0), .int (0), .int (0), .int (0), .long (0), .int (0), .int (0), .ref q_2, .ref q_3, .ref q_4, .ref q_5, .ref q_6, .ref q_7, .ref q_8, .ref q_9, .ref q_10, .ref q_11, .ref q_12, .ref q_13, .ref q_14, .ref q_15, .ref q_16, .ref q_17, .ref q_18, .ref q_19, .ref q_20, .int (0), .ref q_21, .ref q_22, .ref q_23, .ref q_24, .ref q_25, .ref q_26, .ref q_27, .ref q_28, .ref q_29, .ref q_30, .null, .null, .int (0), .int (0), .int (0), .int (0), .int (0), .null, .null, .int (0), .null, .null, .null, .int (0), .int (0), .int (0), .int (0), .int (0), .null, .null, .null, .null, .null, .null, .null, .null, .null, .null, .int (0)] := by rw [ez_30, ez_29, ez_28, ez_27, ez_26, ez_25, ez_24]; rfl
  refine lv_aload_n hx hb dX8_init_247 rfl (lv_at hl 0 rfl) ?_
  refine lv_bipush (v := 7) hx hb dX8_init_248 (by decide) ?_
  refine kn_a (atype := .int) (ty := .int) (a0 := (7, .inl (fun _ => 0))) (N' := 7) hx hb (hts (.arrayClass .int) (wm_c hw_267)) hE 0 rfl rfl (fun _ h => h) hP hD hS hA (fun cA => vp_cell_i cA 7 (fun _ => 0)) (by decide) (rfl) (by decide +kernel) (Nat.le_of_ble_eq_true rfl) (Nat.le_of_ble_eq_true rfl) dX8_init_250 (fun q_31 H hP hD hS => ?_)
  have hP : va_P D vwCl ((h0, .inr (7, fz_30)) :: (B30 ++ [(q_31, .inl (ak 0, 7, .inl (fun _ => 0)))])) H := hP
  have hD : va_D A ((h0, .inr (7, fz_30)) :: (B30 ++ [(q_31, .inl (ak 0, 7, .inl (fun _ => 0)))])) := hD
  obtain ⟨B31, eB31⟩ : ∃ Z : va_W, Z = B30 ++ [(q_31, .inl (ak 0, 7, .inl (fun _ => 0)))] := ⟨_, rfl⟩
  rw [← eB31] at hP hD
  refine W.widen (k := 31) (n := 7999) (Nat.le_of_ble_eq_true rfl) (Nat.le_of_ble_eq_true rfl) ?_
  refine vt_putF (D := D) (ci := 7) (v := .ref q_31) (ty := .array .int) (C := RX8) (T := TX8) (N := 69) hx hb hts (fun w h => wm_c (wc_X8 w h)) tyX8 tyX8_ok nmX8 hown hE.1 hP hD hS 0 rfl rfl 40 (by decide) tX8_40 (hts (.fieldLink RX8 102 "WornLinesModel" "byNot" "[I") (wm_c hw_85)) (fun _ h9 => h9) rfl hin rfl pd_I rfl rfl (by rw [nz_30]; exact Nat.le_of_ble_eq_true rfl) dX8_init_252 (fun H locs hP hD hS => ?_)
  have hP : va_P D vwCl ((h0, .inr (7, fz_30.set 40 (.ref q_31))) :: B31) H := hP
  have hD : va_D A ((h0, .inr (7, fz_30.set 40 (.ref q_31))) :: B31) := hD
  obtain ⟨fz_31, ez_31⟩ : ∃ Z : List Value, Z = fz_30.set 40 (.ref q_31) := ⟨_, rfl⟩
  rw [← ez_31] at hP hD
  have nz_31 : fz_31.length = 69 := by rw [ez_31, List.length_set]; exact nz_30
  refine lv_aload_n hx hb dX8_init_255 rfl (lv_at hl 0 rfl) ?_
  refine lv_bipush (v := 20) hx hb dX8_init_256 (by decide) ?_
  refine kn_a (atype := .int) (ty := .int) (a0 := (20, .inl (fun _ => 0))) (N' := 20) hx hb (hts (.arrayClass .int) (wm_c hw_267)) hE 0 rfl rfl (fun _ h => h) hP hD hS hA (fun cA => vp_cell_i cA 20 (fun _ => 0)) (by decide) (rfl) (by decide +kernel) (Nat.le_of_ble_eq_true rfl) (Nat.le_of_ble_eq_true rfl) dX8_init_258 (fun q_32 H hP hD hS => ?_)
  have hP : va_P D vwCl ((h0, .inr (7, fz_31)) :: (B31 ++ [(q_32, .inl (ak 0, 20, .inl (fun _ => 0)))])) H := hP
  have hD : va_D A ((h0, .inr (7, fz_31)) :: (B31 ++ [(q_32, .inl (ak 0, 20, .inl (fun _ => 0)))])) := hD
  obtain ⟨B32, eB32⟩ : ∃ Z : va_W, Z = B31 ++ [(q_32, .inl (ak 0, 20, .inl (fun _ => 0)))] := ⟨_, rfl⟩
  rw [← eB32] at hP hD
  refine W.widen (k := 32) (n := 8019) (Nat.le_of_ble_eq_true rfl) (Nat.le_of_ble_eq_true rfl) ?_
  refine vt_putF (D := D) (ci := 7) (v := .ref q_32) (ty := .array .int) (C := RX8) (T := TX8) (N := 69) hx hb hts (fun w h => wm_c (wc_X8 w h)) tyX8 tyX8_ok nmX8 hown hE.1 hP hD hS 0 rfl rfl 41 (by decide) tX8_41 (hts (.fieldLink RX8 105 "WornLinesModel" "valueOf" "[I") (wm_c hw_86)) (fun _ h9 => h9) rfl hin rfl pd_I rfl rfl (by rw [nz_31]; exact Nat.le_of_ble_eq_true rfl) dX8_init_260 (fun H locs hP hD hS => ?_)
  have hP : va_P D vwCl ((h0, .inr (7, fz_31.set 41 (.ref q_32))) :: B32) H := hP
  have hD : va_D A ((h0, .inr (7, fz_31.set 41 (.ref q_32))) :: B32) := hD
  obtain ⟨fz_32, ez_32⟩ : ∃ Z : List Value, Z = fz_31.set 41 (.ref q_32) := ⟨_, rfl⟩
  rw [← ez_32] at hP hD
  have nz_32 : fz_32.length = 69 := by rw [ez_32, List.length_set]; exact nz_31
  refine lv_aload_n hx hb dX8_init_263 rfl (lv_at hl 0 rfl) ?_
  refine lv_bipush (v := 6) hx hb dX8_init_264 (by decide) ?_
  refine kn_a (atype := .int) (ty := .int) (a0 := (6, .inl (fun _ => 0))) (N' := 6) hx hb (hts (.arrayClass .int) (wm_c hw_267)) hE 0 rfl rfl (fun _ h => h) hP hD hS hA (fun cA => vp_cell_i cA 6 (fun _ => 0)) (by decide) (rfl) (by decide +kernel) (Nat.le_of_ble_eq_true rfl) (Nat.le_of_ble_eq_true rfl) dX8_init_266 (fun q_33 H hP hD hS => ?_)
  have hP : va_P D vwCl ((h0, .inr (7, fz_32)) :: (B32 ++ [(q_33, .inl (ak 0, 6, .inl (fun _ => 0)))])) H := hP
  have hD : va_D A ((h0, .inr (7, fz_32)) :: (B32 ++ [(q_33, .inl (ak 0, 6, .inl (fun _ => 0)))])) := hD
  obtain ⟨B33, eB33⟩ : ∃ Z : va_W, Z = B32 ++ [(q_33, .inl (ak 0, 6, .inl (fun _ => 0)))] := ⟨_, rfl⟩
  rw [← eB33] at hP hD
  refine W.widen (k := 33) (n := 8025) (Nat.le_of_ble_eq_true rfl) (Nat.le_of_ble_eq_true rfl) ?_
  refine vt_putF (D := D) (ci := 7) (v := .ref q_33) (ty := .array .int) (C := RX8) (T := TX8) (N := 69) hx hb hts (fun w h => wm_c (wc_X8 w h)) tyX8 tyX8_ok nmX8 hown hE.1 hP hD hS 0 rfl rfl 47 (by decide) tX8_47 (hts (.fieldLink RX8 108 "WornLinesModel" "here" "[I") (wm_c hw_179)) (fun _ h9 => h9) rfl hin rfl pd_I rfl rfl (by rw [nz_32]; exact Nat.le_of_ble_eq_true rfl) dX8_init_268 (fun H locs hP hD hS => ?_)
  have hP : va_P D vwCl ((h0, .inr (7, fz_32.set 47 (.ref q_33))) :: B33) H := hP
  have hD : va_D A ((h0, .inr (7, fz_32.set 47 (.ref q_33))) :: B33) := hD
  obtain ⟨fz_33, ez_33⟩ : ∃ Z : List Value, Z = fz_32.set 47 (.ref q_33) := ⟨_, rfl⟩
  rw [← ez_33] at hP hD
  have nz_33 : fz_33.length = 69 := by rw [ez_33, List.length_set]; exact nz_32
  refine lv_aload_n hx hb dX8_init_271 rfl (lv_at hl 0 rfl) ?_
  refine lv_bipush (v := 16) hx hb dX8_init_272 (by decide) ?_
  refine kn_a (atype := .int) (ty := .int) (a0 := (16, .inl (fun _ => 0))) (N' := 16) hx hb (hts (.arrayClass .int) (wm_c hw_267)) hE 0 rfl rfl (fun _ h => h) hP hD hS hA (fun cA => vp_cell_i cA 16 (fun _ => 0)) (by decide) (rfl) (by decide +kernel) (Nat.le_of_ble_eq_true rfl) (Nat.le_of_ble_eq_true rfl) dX8_init_274 (fun q_34 H hP hD hS => ?_)
  have hP : va_P D vwCl ((h0, .inr (7, fz_33)) :: (B33 ++ [(q_34, .inl (ak 0, 16, .inl (fun _ => 0)))])) H := hP
  have hD : va_D A ((h0, .inr (7, fz_33)) :: (B33 ++ [(q_34, .inl (ak 0, 16, .inl (fun _ => 0)))])) := hD
  obtain ⟨B34, eB34⟩ : ∃ Z : va_W, Z = B33 ++ [(q_34, .inl (ak 0, 16, .inl (fun _ => 0)))] := ⟨_, rfl⟩
  rw [← eB34] at hP hD
  refine W.widen (k := 34) (n := 8041) (Nat.le_of_ble_eq_true rfl) (Nat.le_of_ble_eq_true rfl) ?_
  refine vt_putF (D := D) (ci := 7) (v := .ref q_34) (ty := .array .int) (C := RX8) (T := TX8) (N := 69) hx hb hts (fun w h => wm_c (wc_X8 w h)) tyX8 tyX8_ok nmX8 hown hE.1 hP hD hS 0 rfl rfl 48 (by decide) tX8_48 (hts (.fieldLink RX8 111 "WornLinesModel" "wear" "[I") (wm_c hw_78)) (fun _ h9 => h9) rfl hin rfl pd_I rfl rfl (by rw [nz_33]; exact Nat.le_of_ble_eq_true rfl) dX8_init_276 (fun H locs hP hD hS => ?_)
  have hP : va_P D vwCl ((h0, .inr (7, fz_33.set 48 (.ref q_34))) :: B34) H := hP
  have hD : va_D A ((h0, .inr (7, fz_33.set 48 (.ref q_34))) :: B34) := hD
  obtain ⟨fz_34, ez_34⟩ : ∃ Z : List Value, Z = fz_33.set 48 (.ref q_34) := ⟨_, rfl⟩
  rw [← ez_34] at hP hD
  have nz_34 : fz_34.length = 69 := by rw [ez_34, List.length_set]; exact nz_33
  refine lv_aload_n hx hb dX8_init_279 rfl (lv_at hl 0 rfl) ?_
  refine lv_sipush (v := 1001) hx hb dX8_init_280 (by decide) ?_
  refine kn_a (atype := .int) (ty := .int) (a0 := (1001, .inl (fun _ => 0))) (N' := 1001) hx hb (hts (.arrayClass .int) (wm_c hw_267)) hE 0 rfl rfl (fun _ h => h) hP hD hS hA (fun cA => vp_cell_i cA 1001 (fun _ => 0)) (by decide) (rfl) (by decide +kernel) (Nat.le_of_ble_eq_true rfl) (Nat.le_of_ble_eq_true rfl) dX8_init_283 (fun q_35 H hP hD hS => ?_)
  have hP : va_P D vwCl ((h0, .inr (7, fz_34)) :: (B34 ++ [(q_35, .inl (ak 0, 1001, .inl (fun _ => 0)))])) H := hP
  have hD : va_D A ((h0, .inr (7, fz_34)) :: (B34 ++ [(q_35, .inl (ak 0, 1001, .inl (fun _ => 0)))])) := hD
  obtain ⟨B35, eB35⟩ : ∃ Z : va_W, Z = B34 ++ [(q_35, .inl (ak 0, 1001, .inl (fun _ => 0)))] := ⟨_, rfl⟩
  rw [← eB35] at hP hD
  refine W.widen (k := 35) (n := 9042) (Nat.le_of_ble_eq_true rfl) (Nat.le_of_ble_eq_true rfl) ?_
  refine vt_putF (D := D) (ci := 7) (v := .ref q_35) (ty := .array .int) (C := RX8) (T := TX8) (N := 69) hx hb hts (fun w h => wm_c (wc_X8 w h)) tyX8 tyX8_ok nmX8 hown hE.1 hP hD hS 0 rfl rfl 50 (by decide) tX8_50 (hts (.fieldLink RX8 114 "WornLinesModel" "strip" "[I") (wm_c hw_187)) (fun _ h9 => h9) rfl hin rfl pd_I rfl rfl (by rw [nz_34]; exact Nat.le_of_ble_eq_true rfl) dX8_init_285 (fun H locs hP hD hS => ?_)
  have hP : va_P D vwCl ((h0, .inr (7, fz_34.set 50 (.ref q_35))) :: B35) H := hP
  have hD : va_D A ((h0, .inr (7, fz_34.set 50 (.ref q_35))) :: B35) := hD
  obtain ⟨fz_35, ez_35⟩ : ∃ Z : List Value, Z = fz_34.set 50 (.ref q_35) := ⟨_, rfl⟩
  rw [← ez_35] at hP hD
  have nz_35 : fz_35.length = 69 := by rw [ez_35, List.length_set]; exact nz_34
  refine lv_aload_n hx hb dX8_init_288 rfl (lv_at hl 0 rfl) ?_
  refine lv_bipush (v := 16) hx hb dX8_init_289 (by decide) ?_
  refine kn_a (atype := .int) (ty := .int) (a0 := (16, .inl (fun _ => 0))) (N' := 16) hx hb (hts (.arrayClass .int) (wm_c hw_267)) hE 0 rfl rfl (fun _ h => h) hP hD hS hA (fun cA => vp_cell_i cA 16 (fun _ => 0)) (by decide) (rfl) (by decide +kernel) (Nat.le_of_ble_eq_true rfl) (Nat.le_of_ble_eq_true rfl) dX8_init_291 (fun q_36 H hP hD hS => ?_)
  have hP : va_P D vwCl ((h0, .inr (7, fz_35)) :: (B35 ++ [(q_36, .inl (ak 0, 16, .inl (fun _ => 0)))])) H := hP
  have hD : va_D A ((h0, .inr (7, fz_35)) :: (B35 ++ [(q_36, .inl (ak 0, 16, .inl (fun _ => 0)))])) := hD
  obtain ⟨B36, eB36⟩ : ∃ Z : va_W, Z = B35 ++ [(q_36, .inl (ak 0, 16, .inl (fun _ => 0)))] := ⟨_, rfl⟩
  rw [← eB36] at hP hD
  replace eB36 : B36 = [(q_1, .inl (ak 0, 1000, .inl (fun _ => 0))), (q_2, .inl (ak 0, 6, .inl (fun _ => 0))), (q_3, .inl (ak 0, 6, .inl (fun _ => 0))), (q_4, .inl (ak 0, 6, .inl (fun _ => 0))), (q_5, .inl (ak 0, 6, .inl (fun _ => 0))), (q_6, .inl (ak 1, 4, .inr (.inl (fun _ => 0)))), (q_7, .inl (ak 1, 6, .inr (.inl (fun _ => 0)))), (q_8, .inl (ak 0, 24, .inl (fun _ => 0))), (q_9, .inl (ak 0, 24, .inl (fun _ => 0))), (q_10, .inl (ak 0, 36, .inl (fun _ => 0))), (q_11, .inl (ak 0, 12, .inl (fun _ => 0))), (q_12, .inl (ak 0, 12, .inl (fun _ => 0))), (q_13, .inl (ak 0, 12, .inl (fun _ => 0))), (q_14, .inl (ak 0, 96, .inl (fun _ => 0))), (q_15, .inl (ak 0, 96, .inl (fun _ => 0))), (q_16, .inl (ak 0, 96, .inl (fun _ => 0))), (q_17, .inl (ak 0, 96, .inl (fun _ => 0))), (q_18, .inl (ak 0, 192, .inl (fun _ => 0))), (q_19, .inl (ak 0, 192, .inl (fun _ => 0))), (q_20, .inl (ak 0, 6000, .inl (fun _ => 0))), (q_21, .inl (ak 0, 7, .inl (fun _ => 0))), (q_22, .inl (ak 3, 7, .inl (fun _ => 0))), (q_23, .inl (ak 0, 7, .inl (fun _ => 0))), (q_24, .inl (ak 0, 7, .inl (fun _ => 0))), (q_25, .inl (ak 0, 7, .inl (fun _ => 0))), (q_26, .inl (ak 0, 7, .inl (fun _ => 0))), (q_27, .inl (ak 0, 7, .inl (fun _ => 0))), (q_28, .inl (ak 0, 7, .inl (fun _ => 0))), (q_29, .inl (ak 0, 7, .inl (fun _ => 0))), (q_30, .inl (ak 0, 7, .inl (fun _ => 0))), (q_31, .inl (ak 0, 7, .inl (fun _ => 0))), (q_32, .inl (ak 0, 20, .inl (fun _ => 0))), (q_33, .inl (ak 0, 6, .inl (fun _ => 0))), (q_34, .inl (ak 0, 16, .inl (fun _ => 0))), (q_35, .inl (ak 0, 1001, .inl (fun _ => 0))), (q_36, .inl (ak 0, 16, .inl (fun _ => 0)))] := by rw [eB36, eB35, eB34, eB33, eB32, eB31, eB30]; rfl
  refine W.widen (k := 36) (n := 9058) (Nat.le_of_ble_eq_true rfl) (Nat.le_of_ble_eq_true rfl) ?_
  refine vt_putF (D := D) (ci := 7) (v := .ref q_36) (ty := .array .int) (C := RX8) (T := TX8) (N := 69) hx hb hts (fun w h => wm_c (wc_X8 w h)) tyX8 tyX8_ok nmX8 hown hE.1 hP hD hS 0 rfl rfl 51 (by decide) tX8_51 (hts (.fieldLink RX8 117 "WornLinesModel" "gone" "[I") (wm_c hw_196)) (fun _ h9 => h9) rfl hin rfl pd_I rfl rfl (by rw [nz_35]; exact Nat.le_of_ble_eq_true rfl) dX8_init_293 (fun H locs hP hD hS => ?_)
  have hP : va_P D vwCl ((h0, .inr (7, fz_35.set 51 (.ref q_36))) :: B36) H := hP
  have hD : va_D A ((h0, .inr (7, fz_35.set 51 (.ref q_36))) :: B36) := hD
  obtain ⟨fz_36, ez_36⟩ : ∃ Z : List Value, Z = fz_35.set 51 (.ref q_36) := ⟨_, rfl⟩
  rw [← ez_36] at hP hD
  have nz_36 : fz_36.length = 69 := by rw [ez_36, List.length_set]; exact nz_35
  replace ez_36 : fz_36 = [.int (0), .int (0), .ref q_1, .int (0), .int (0), .int (0), .int (0), .long (0), .int (0), .int (0), .ref q_2, .ref q_3, .ref q_4, .ref q_5, .ref q_6, .ref q_7, .ref q_8, .ref q_9, .ref q_10, .ref q_11, .ref q_12, .ref q_13, .ref q_14, .ref q_15, .ref q_16, .ref q_17, .ref q_18, .ref q_19, .ref q_20, .int (0), .ref q_21, .ref q_22, .ref q_23, .ref q_24, .ref q_25, .ref q_26, .ref q_27, .ref q_28, .ref q_29, .ref q_30, .ref q_31, .ref q_32, .int (0), .int (0), .int (0), .int (0), .int (0), .ref q_33, .ref q_34, .int (0), .ref q_35, .ref q_36, .null, .int (0), .int (0), .int (0), .int (0), .int (0), .null, .null, .null, .null, .null, .null, .null, .null, .null, .null, .int (0)] := by rw [ez_36, ez_35, ez_34, ez_33, ez_32, ez_31, ez_30]; rfl
  refine lv_aload_n hx hb dX8_init_296 rfl (lv_at hl 0 rfl) ?_
  refine lv_bipush (v := 16) hx hb dX8_init_297 (by decide) ?_
  refine kn_a (atype := .int) (ty := .int) (a0 := (16, .inl (fun _ => 0))) (N' := 16) hx hb (hts (.arrayClass .int) (wm_c hw_267)) hE 0 rfl rfl (fun _ h => h) hP hD hS hA (fun cA => vp_cell_i cA 16 (fun _ => 0)) (by decide) (rfl) (by decide +kernel) (Nat.le_of_ble_eq_true rfl) (Nat.le_of_ble_eq_true rfl) dX8_init_299 (fun q_37 H hP hD hS => ?_)
  have hP : va_P D vwCl ((h0, .inr (7, fz_36)) :: (B36 ++ [(q_37, .inl (ak 0, 16, .inl (fun _ => 0)))])) H := hP
  have hD : va_D A ((h0, .inr (7, fz_36)) :: (B36 ++ [(q_37, .inl (ak 0, 16, .inl (fun _ => 0)))])) := hD
  obtain ⟨B37, eB37⟩ : ∃ Z : va_W, Z = B36 ++ [(q_37, .inl (ak 0, 16, .inl (fun _ => 0)))] := ⟨_, rfl⟩
  rw [← eB37] at hP hD
  refine W.widen (k := 37) (n := 9074) (Nat.le_of_ble_eq_true rfl) (Nat.le_of_ble_eq_true rfl) ?_
  refine vt_putF (D := D) (ci := 7) (v := .ref q_37) (ty := .array .int) (C := RX8) (T := TX8) (N := 69) hx hb hts (fun w h => wm_c (wc_X8 w h)) tyX8 tyX8_ok nmX8 hown hE.1 hP hD hS 0 rfl rfl 52 (by decide) tX8_52 (hts (.fieldLink RX8 120 "WornLinesModel" "peak" "[I") (wm_c hw_197)) (fun _ h9 => h9) rfl hin rfl pd_I rfl rfl (by rw [nz_36]; exact Nat.le_of_ble_eq_true rfl) dX8_init_301 (fun H locs hP hD hS => ?_)
  have hP : va_P D vwCl ((h0, .inr (7, fz_36.set 52 (.ref q_37))) :: B37) H := hP
  have hD : va_D A ((h0, .inr (7, fz_36.set 52 (.ref q_37))) :: B37) := hD
  obtain ⟨fz_37, ez_37⟩ : ∃ Z : List Value, Z = fz_36.set 52 (.ref q_37) := ⟨_, rfl⟩
  rw [← ez_37] at hP hD
  have nz_37 : fz_37.length = 69 := by rw [ez_37, List.length_set]; exact nz_36
  refine lv_aload_n hx hb dX8_init_304 rfl (lv_at hl 0 rfl) ?_
  refine lv_bipush (v := 6) hx hb dX8_init_305 (by decide) ?_
  refine kn_a (atype := .int) (ty := .int) (a0 := (6, .inl (fun _ => 0))) (N' := 6) hx hb (hts (.arrayClass .int) (wm_c hw_267)) hE 0 rfl rfl (fun _ h => h) hP hD hS hA (fun cA => vp_cell_i cA 6 (fun _ => 0)) (by decide) (rfl) (by decide +kernel) (Nat.le_of_ble_eq_true rfl) (Nat.le_of_ble_eq_true rfl) dX8_init_307 (fun q_38 H hP hD hS => ?_)
  have hP : va_P D vwCl ((h0, .inr (7, fz_37)) :: (B37 ++ [(q_38, .inl (ak 0, 6, .inl (fun _ => 0)))])) H := hP
  have hD : va_D A ((h0, .inr (7, fz_37)) :: (B37 ++ [(q_38, .inl (ak 0, 6, .inl (fun _ => 0)))])) := hD
  obtain ⟨B38, eB38⟩ : ∃ Z : va_W, Z = B37 ++ [(q_38, .inl (ak 0, 6, .inl (fun _ => 0)))] := ⟨_, rfl⟩
  rw [← eB38] at hP hD
  refine W.widen (k := 38) (n := 9080) (Nat.le_of_ble_eq_true rfl) (Nat.le_of_ble_eq_true rfl) ?_
  refine vt_putF (D := D) (ci := 7) (v := .ref q_38) (ty := .array .int) (C := RX8) (T := TX8) (N := 69) hx hb hts (fun w h => wm_c (wc_X8 w h)) tyX8 tyX8_ok nmX8 hown hE.1 hP hD hS 0 rfl rfl 58 (by decide) tX8_58 (hts (.fieldLink RX8 123 "WornLinesModel" "handCell" "[I") (wm_c hw_198)) (fun _ h9 => h9) rfl hin rfl pd_I rfl rfl (by rw [nz_37]; exact Nat.le_of_ble_eq_true rfl) dX8_init_309 (fun H locs hP hD hS => ?_)
  have hP : va_P D vwCl ((h0, .inr (7, fz_37.set 58 (.ref q_38))) :: B38) H := hP
  have hD : va_D A ((h0, .inr (7, fz_37.set 58 (.ref q_38))) :: B38) := hD
  obtain ⟨fz_38, ez_38⟩ : ∃ Z : List Value, Z = fz_37.set 58 (.ref q_38) := ⟨_, rfl⟩
  rw [← ez_38] at hP hD
  have nz_38 : fz_38.length = 69 := by rw [ez_38, List.length_set]; exact nz_37
  refine lv_aload_n hx hb dX8_init_312 rfl (lv_at hl 0 rfl) ?_
  refine lv_bipush (v := 16) hx hb dX8_init_313 (by decide) ?_
  refine kn_a (atype := .int) (ty := .int) (a0 := (16, .inl (fun _ => 0))) (N' := 16) hx hb (hts (.arrayClass .int) (wm_c hw_267)) hE 0 rfl rfl (fun _ h => h) hP hD hS hA (fun cA => vp_cell_i cA 16 (fun _ => 0)) (by decide) (rfl) (by decide +kernel) (Nat.le_of_ble_eq_true rfl) (Nat.le_of_ble_eq_true rfl) dX8_init_315 (fun q_39 H hP hD hS => ?_)
  have hP : va_P D vwCl ((h0, .inr (7, fz_38)) :: (B38 ++ [(q_39, .inl (ak 0, 16, .inl (fun _ => 0)))])) H := hP
  have hD : va_D A ((h0, .inr (7, fz_38)) :: (B38 ++ [(q_39, .inl (ak 0, 16, .inl (fun _ => 0)))])) := hD
  obtain ⟨B39, eB39⟩ : ∃ Z : va_W, Z = B38 ++ [(q_39, .inl (ak 0, 16, .inl (fun _ => 0)))] := ⟨_, rfl⟩
  rw [← eB39] at hP hD
  refine W.widen (k := 39) (n := 9096) (Nat.le_of_ble_eq_true rfl) (Nat.le_of_ble_eq_true rfl) ?_
  refine vt_putF (D := D) (ci := 7) (v := .ref q_39) (ty := .array .int) (C := RX8) (T := TX8) (N := 69) hx hb hts (fun w h => wm_c (wc_X8 w h)) tyX8 tyX8_ok nmX8 hown hE.1 hP hD hS 0 rfl rfl 59 (by decide) tX8_59 (hts (.fieldLink RX8 126 "WornLinesModel" "worn" "[I") (wm_c hw_150)) (fun _ h9 => h9) rfl hin rfl pd_I rfl rfl (by rw [nz_38]; exact Nat.le_of_ble_eq_true rfl) dX8_init_317 (fun H locs hP hD hS => ?_)
  have hP : va_P D vwCl ((h0, .inr (7, fz_38.set 59 (.ref q_39))) :: B39) H := hP
  have hD : va_D A ((h0, .inr (7, fz_38.set 59 (.ref q_39))) :: B39) := hD
  obtain ⟨fz_39, ez_39⟩ : ∃ Z : List Value, Z = fz_38.set 59 (.ref q_39) := ⟨_, rfl⟩
  rw [← ez_39] at hP hD
  have nz_39 : fz_39.length = 69 := by rw [ez_39, List.length_set]; exact nz_38
  refine lv_aload_n hx hb dX8_init_320 rfl (lv_at hl 0 rfl) ?_
  refine lv_sipush (v := 200) hx hb dX8_init_321 (by decide) ?_
  refine kn_a (atype := .int) (ty := .int) (a0 := (200, .inl (fun _ => 0))) (N' := 200) hx hb (hts (.arrayClass .int) (wm_c hw_267)) hE 0 rfl rfl (fun _ h => h) hP hD hS hA (fun cA => vp_cell_i cA 200 (fun _ => 0)) (by decide) (rfl) (by decide +kernel) (Nat.le_of_ble_eq_true rfl) (Nat.le_of_ble_eq_true rfl) dX8_init_324 (fun q_40 H hP hD hS => ?_)
  have hP : va_P D vwCl ((h0, .inr (7, fz_39)) :: (B39 ++ [(q_40, .inl (ak 0, 200, .inl (fun _ => 0)))])) H := hP
  have hD : va_D A ((h0, .inr (7, fz_39)) :: (B39 ++ [(q_40, .inl (ak 0, 200, .inl (fun _ => 0)))])) := hD
  obtain ⟨B40, eB40⟩ : ∃ Z : va_W, Z = B39 ++ [(q_40, .inl (ak 0, 200, .inl (fun _ => 0)))] := ⟨_, rfl⟩
  rw [← eB40] at hP hD
  refine W.widen (k := 40) (n := 9296) (Nat.le_of_ble_eq_true rfl) (Nat.le_of_ble_eq_true rfl) ?_
  refine vt_putF (D := D) (ci := 7) (v := .ref q_40) (ty := .array .int) (C := RX8) (T := TX8) (N := 69) hx hb hts (fun w h => wm_c (wc_X8 w h)) tyX8 tyX8_ok nmX8 hown hE.1 hP hD hS 0 rfl rfl 60 (by decide) tX8_60 (hts (.fieldLink RX8 129 "WornLinesModel" "handStrip" "[I") (wm_c hw_215)) (fun _ h9 => h9) rfl hin rfl pd_I rfl rfl (by rw [nz_39]; exact Nat.le_of_ble_eq_true rfl) dX8_init_326 (fun H locs hP hD hS => ?_)
  have hP : va_P D vwCl ((h0, .inr (7, fz_39.set 60 (.ref q_40))) :: B40) H := hP
  have hD : va_D A ((h0, .inr (7, fz_39.set 60 (.ref q_40))) :: B40) := hD
  obtain ⟨fz_40, ez_40⟩ : ∃ Z : List Value, Z = fz_39.set 60 (.ref q_40) := ⟨_, rfl⟩
  rw [← ez_40] at hP hD
  have nz_40 : fz_40.length = 69 := by rw [ez_40, List.length_set]; exact nz_39
  refine lv_aload_n hx hb dX8_init_329 rfl (lv_at hl 0 rfl) ?_
  refine lv_bipush (v := 16) hx hb dX8_init_330 (by decide) ?_
  refine kn_a (atype := .int) (ty := .int) (a0 := (16, .inl (fun _ => 0))) (N' := 16) hx hb (hts (.arrayClass .int) (wm_c hw_267)) hE 0 rfl rfl (fun _ h => h) hP hD hS hA (fun cA => vp_cell_i cA 16 (fun _ => 0)) (by decide) (rfl) (by decide +kernel) (Nat.le_of_ble_eq_true rfl) (Nat.le_of_ble_eq_true rfl) dX8_init_332 (fun q_41 H hP hD hS => ?_)
  have hP : va_P D vwCl ((h0, .inr (7, fz_40)) :: (B40 ++ [(q_41, .inl (ak 0, 16, .inl (fun _ => 0)))])) H := hP
  have hD : va_D A ((h0, .inr (7, fz_40)) :: (B40 ++ [(q_41, .inl (ak 0, 16, .inl (fun _ => 0)))])) := hD
  obtain ⟨B41, eB41⟩ : ∃ Z : va_W, Z = B40 ++ [(q_41, .inl (ak 0, 16, .inl (fun _ => 0)))] := ⟨_, rfl⟩
  rw [← eB41] at hP hD
  refine W.widen (k := 41) (n := 9312) (Nat.le_of_ble_eq_true rfl) (Nat.le_of_ble_eq_true rfl) ?_
  refine vt_putF (D := D) (ci := 7) (v := .ref q_41) (ty := .array .int) (C := RX8) (T := TX8) (N := 69) hx hb hts (fun w h => wm_c (wc_X8 w h)) tyX8 tyX8_ok nmX8 hown hE.1 hP hD hS 0 rfl rfl 61 (by decide) tX8_61 (hts (.fieldLink RX8 132 "WornLinesModel" "mostGone" "[I") (wm_c hw_232)) (fun _ h9 => h9) rfl hin rfl pd_I rfl rfl (by rw [nz_40]; exact Nat.le_of_ble_eq_true rfl) dX8_init_334 (fun H locs hP hD hS => ?_)
  have hP : va_P D vwCl ((h0, .inr (7, fz_40.set 61 (.ref q_41))) :: B41) H := hP
  have hD : va_D A ((h0, .inr (7, fz_40.set 61 (.ref q_41))) :: B41) := hD
  obtain ⟨fz_41, ez_41⟩ : ∃ Z : List Value, Z = fz_40.set 61 (.ref q_41) := ⟨_, rfl⟩
  rw [← ez_41] at hP hD
  have nz_41 : fz_41.length = 69 := by rw [ez_41, List.length_set]; exact nz_40
  refine lv_aload_n hx hb dX8_init_337 rfl (lv_at hl 0 rfl) ?_
  refine lv_bipush (v := 16) hx hb dX8_init_338 (by decide) ?_
  refine kn_a (atype := .int) (ty := .int) (a0 := (16, .inl (fun _ => 0))) (N' := 16) hx hb (hts (.arrayClass .int) (wm_c hw_267)) hE 0 rfl rfl (fun _ h => h) hP hD hS hA (fun cA => vp_cell_i cA 16 (fun _ => 0)) (by decide) (rfl) (by decide +kernel) (Nat.le_of_ble_eq_true rfl) (Nat.le_of_ble_eq_true rfl) dX8_init_340 (fun q_42 H hP hD hS => ?_)
  have hP : va_P D vwCl ((h0, .inr (7, fz_41)) :: (B41 ++ [(q_42, .inl (ak 0, 16, .inl (fun _ => 0)))])) H := hP
  have hD : va_D A ((h0, .inr (7, fz_41)) :: (B41 ++ [(q_42, .inl (ak 0, 16, .inl (fun _ => 0)))])) := hD
  obtain ⟨B42, eB42⟩ : ∃ Z : va_W, Z = B41 ++ [(q_42, .inl (ak 0, 16, .inl (fun _ => 0)))] := ⟨_, rfl⟩
  rw [← eB42] at hP hD
  replace eB42 : B42 = [(q_1, .inl (ak 0, 1000, .inl (fun _ => 0))), (q_2, .inl (ak 0, 6, .inl (fun _ => 0))), (q_3, .inl (ak 0, 6, .inl (fun _ => 0))), (q_4, .inl (ak 0, 6, .inl (fun _ => 0))), (q_5, .inl (ak 0, 6, .inl (fun _ => 0))), (q_6, .inl (ak 1, 4, .inr (.inl (fun _ => 0)))), (q_7, .inl (ak 1, 6, .inr (.inl (fun _ => 0)))), (q_8, .inl (ak 0, 24, .inl (fun _ => 0))), (q_9, .inl (ak 0, 24, .inl (fun _ => 0))), (q_10, .inl (ak 0, 36, .inl (fun _ => 0))), (q_11, .inl (ak 0, 12, .inl (fun _ => 0))), (q_12, .inl (ak 0, 12, .inl (fun _ => 0))), (q_13, .inl (ak 0, 12, .inl (fun _ => 0))), (q_14, .inl (ak 0, 96, .inl (fun _ => 0))), (q_15, .inl (ak 0, 96, .inl (fun _ => 0))), (q_16, .inl (ak 0, 96, .inl (fun _ => 0))), (q_17, .inl (ak 0, 96, .inl (fun _ => 0))), (q_18, .inl (ak 0, 192, .inl (fun _ => 0))), (q_19, .inl (ak 0, 192, .inl (fun _ => 0))), (q_20, .inl (ak 0, 6000, .inl (fun _ => 0))), (q_21, .inl (ak 0, 7, .inl (fun _ => 0))), (q_22, .inl (ak 3, 7, .inl (fun _ => 0))), (q_23, .inl (ak 0, 7, .inl (fun _ => 0))), (q_24, .inl (ak 0, 7, .inl (fun _ => 0))), (q_25, .inl (ak 0, 7, .inl (fun _ => 0))), (q_26, .inl (ak 0, 7, .inl (fun _ => 0))), (q_27, .inl (ak 0, 7, .inl (fun _ => 0))), (q_28, .inl (ak 0, 7, .inl (fun _ => 0))), (q_29, .inl (ak 0, 7, .inl (fun _ => 0))), (q_30, .inl (ak 0, 7, .inl (fun _ => 0))), (q_31, .inl (ak 0, 7, .inl (fun _ => 0))), (q_32, .inl (ak 0, 20, .inl (fun _ => 0))), (q_33, .inl (ak 0, 6, .inl (fun _ => 0))), (q_34, .inl (ak 0, 16, .inl (fun _ => 0))), (q_35, .inl (ak 0, 1001, .inl (fun _ => 0))), (q_36, .inl (ak 0, 16, .inl (fun _ => 0))), (q_37, .inl (ak 0, 16, .inl (fun _ => 0))), (q_38, .inl (ak 0, 6, .inl (fun _ => 0))), (q_39, .inl (ak 0, 16, .inl (fun _ => 0))), (q_40, .inl (ak 0, 200, .inl (fun _ => 0))), (q_41, .inl (ak 0, 16, .inl (fun _ => 0))), (q_42, .inl (ak 0, 16, .inl (fun _ => 0)))] := by rw [eB42, eB41, eB40, eB39, eB38, eB37, eB36]; rfl
  refine W.widen (k := 42) (n := 9328) (Nat.le_of_ble_eq_true rfl) (Nat.le_of_ble_eq_true rfl) ?_
  refine vt_putF (D := D) (ci := 7) (v := .ref q_42) (ty := .array .int) (C := RX8) (T := TX8) (N := 69) hx hb hts (fun w h => wm_c (wc_X8 w h)) tyX8 tyX8_ok nmX8 hown hE.1 hP hD hS 0 rfl rfl 62 (by decide) tX8_62 (hts (.fieldLink RX8 135 "WornLinesModel" "mostBy" "[I") (wm_c hw_233)) (fun _ h9 => h9) rfl hin rfl pd_I rfl rfl (by rw [nz_41]; exact Nat.le_of_ble_eq_true rfl) dX8_init_342 (fun H locs hP hD hS => ?_)
  have hP : va_P D vwCl ((h0, .inr (7, fz_41.set 62 (.ref q_42))) :: B42) H := hP
  have hD : va_D A ((h0, .inr (7, fz_41.set 62 (.ref q_42))) :: B42) := hD
  obtain ⟨fz_42, ez_42⟩ : ∃ Z : List Value, Z = fz_41.set 62 (.ref q_42) := ⟨_, rfl⟩
  rw [← ez_42] at hP hD
  have nz_42 : fz_42.length = 69 := by rw [ez_42, List.length_set]; exact nz_41
  replace ez_42 : fz_42 = [.int (0), .int (0), .ref q_1, .int (0), .int (0), .int (0), .int (0), .long (0), .int (0), .int (0), .ref q_2, .ref q_3, .ref q_4, .ref q_5, .ref q_6, .ref q_7, .ref q_8, .ref q_9, .ref q_10, .ref q_11, .ref q_12, .ref q_13, .ref q_14, .ref q_15, .ref q_16, .ref q_17, .ref q_18, .ref q_19, .ref q_20, .int (0), .ref q_21, .ref q_22, .ref q_23, .ref q_24, .ref q_25, .ref q_26, .ref q_27, .ref q_28, .ref q_29, .ref q_30, .ref q_31, .ref q_32, .int (0), .int (0), .int (0), .int (0), .int (0), .ref q_33, .ref q_34, .int (0), .ref q_35, .ref q_36, .ref q_37, .int (0), .int (0), .int (0), .int (0), .int (0), .ref q_38, .ref q_39, .ref q_40, .ref q_41, .ref q_42, .null, .null, .null, .null, .null, .int (0)] := by rw [ez_42, ez_41, ez_40, ez_39, ez_38, ez_37, ez_36]; rfl
  refine lv_aload_n hx hb dX8_init_345 rfl (lv_at hl 0 rfl) ?_
  refine lv_bipush (v := 16) hx hb dX8_init_346 (by decide) ?_
  refine kn_a (atype := .int) (ty := .int) (a0 := (16, .inl (fun _ => 0))) (N' := 16) hx hb (hts (.arrayClass .int) (wm_c hw_267)) hE 0 rfl rfl (fun _ h => h) hP hD hS hA (fun cA => vp_cell_i cA 16 (fun _ => 0)) (by decide) (rfl) (by decide +kernel) (Nat.le_of_ble_eq_true rfl) (Nat.le_of_ble_eq_true rfl) dX8_init_348 (fun q_43 H hP hD hS => ?_)
  have hP : va_P D vwCl ((h0, .inr (7, fz_42)) :: (B42 ++ [(q_43, .inl (ak 0, 16, .inl (fun _ => 0)))])) H := hP
  have hD : va_D A ((h0, .inr (7, fz_42)) :: (B42 ++ [(q_43, .inl (ak 0, 16, .inl (fun _ => 0)))])) := hD
  obtain ⟨B43, eB43⟩ : ∃ Z : va_W, Z = B42 ++ [(q_43, .inl (ak 0, 16, .inl (fun _ => 0)))] := ⟨_, rfl⟩
  rw [← eB43] at hP hD
  refine W.widen (k := 43) (n := 9344) (Nat.le_of_ble_eq_true rfl) (Nat.le_of_ble_eq_true rfl) ?_
  refine vt_putF (D := D) (ci := 7) (v := .ref q_43) (ty := .array .int) (C := RX8) (T := TX8) (N := 69) hx hb hts (fun w h => wm_c (wc_X8 w h)) tyX8 tyX8_ok nmX8 hown hE.1 hP hD hS 0 rfl rfl 63 (by decide) tX8_63 (hts (.fieldLink RX8 138 "WornLinesModel" "mostPeak" "[I") (wm_c hw_231)) (fun _ h9 => h9) rfl hin rfl pd_I rfl rfl (by rw [nz_42]; exact Nat.le_of_ble_eq_true rfl) dX8_init_350 (fun H locs hP hD hS => ?_)
  have hP : va_P D vwCl ((h0, .inr (7, fz_42.set 63 (.ref q_43))) :: B43) H := hP
  have hD : va_D A ((h0, .inr (7, fz_42.set 63 (.ref q_43))) :: B43) := hD
  obtain ⟨fz_43, ez_43⟩ : ∃ Z : List Value, Z = fz_42.set 63 (.ref q_43) := ⟨_, rfl⟩
  rw [← ez_43] at hP hD
  have nz_43 : fz_43.length = 69 := by rw [ez_43, List.length_set]; exact nz_42
  refine lv_aload_n hx hb dX8_init_353 rfl (lv_at hl 0 rfl) ?_
  refine lv_sipush (v := 1001) hx hb dX8_init_354 (by decide) ?_
  refine kn_a (atype := .int) (ty := .int) (a0 := (1001, .inl (fun _ => 0))) (N' := 1001) hx hb (hts (.arrayClass .int) (wm_c hw_267)) hE 0 rfl rfl (fun _ h => h) hP hD hS hA (fun cA => vp_cell_i cA 1001 (fun _ => 0)) (by decide) (rfl) (by decide +kernel) (Nat.le_of_ble_eq_true rfl) (Nat.le_of_ble_eq_true rfl) dX8_init_357 (fun q_44 H hP hD hS => ?_)
  have hP : va_P D vwCl ((h0, .inr (7, fz_43)) :: (B43 ++ [(q_44, .inl (ak 0, 1001, .inl (fun _ => 0)))])) H := hP
  have hD : va_D A ((h0, .inr (7, fz_43)) :: (B43 ++ [(q_44, .inl (ak 0, 1001, .inl (fun _ => 0)))])) := hD
  obtain ⟨B44, eB44⟩ : ∃ Z : va_W, Z = B43 ++ [(q_44, .inl (ak 0, 1001, .inl (fun _ => 0)))] := ⟨_, rfl⟩
  rw [← eB44] at hP hD
  refine W.widen (k := 44) (n := 10345) (Nat.le_of_ble_eq_true rfl) (Nat.le_of_ble_eq_true rfl) ?_
  refine vt_putF (D := D) (ci := 7) (v := .ref q_44) (ty := .array .int) (C := RX8) (T := TX8) (N := 69) hx hb hts (fun w h => wm_c (wc_X8 w h)) tyX8 tyX8_ok nmX8 hown hE.1 hP hD hS 0 rfl rfl 64 (by decide) tX8_64 (hts (.fieldLink RX8 141 "WornLinesModel" "other" "[I") (wm_c hw_237)) (fun _ h9 => h9) rfl hin rfl pd_I rfl rfl (by rw [nz_43]; exact Nat.le_of_ble_eq_true rfl) dX8_init_359 (fun H locs hP hD hS => ?_)
  have hP : va_P D vwCl ((h0, .inr (7, fz_43.set 64 (.ref q_44))) :: B44) H := hP
  have hD : va_D A ((h0, .inr (7, fz_43.set 64 (.ref q_44))) :: B44) := hD
  obtain ⟨fz_44, ez_44⟩ : ∃ Z : List Value, Z = fz_43.set 64 (.ref q_44) := ⟨_, rfl⟩
  rw [← ez_44] at hP hD
  have nz_44 : fz_44.length = 69 := by rw [ez_44, List.length_set]; exact nz_43
  refine lv_aload_n hx hb dX8_init_362 rfl (lv_at hl 0 rfl) ?_
  refine lv_sipush (v := 1105) hx hb dX8_init_363 (by decide) ?_
  refine kn_a (atype := .int) (ty := .int) (a0 := (1105, .inl (fun _ => 0))) (N' := 1105) hx hb (hts (.arrayClass .int) (wm_c hw_267)) hE 0 rfl rfl (fun _ h => h) hP hD hS hA (fun cA => vp_cell_i cA 1105 (fun _ => 0)) (by decide) (rfl) (by decide +kernel) (Nat.le_of_ble_eq_true rfl) (Nat.le_of_ble_eq_true rfl) dX8_init_366 (fun q_45 H hP hD hS => ?_)
  have hP : va_P D vwCl ((h0, .inr (7, fz_44)) :: (B44 ++ [(q_45, .inl (ak 0, 1105, .inl (fun _ => 0)))])) H := hP
  have hD : va_D A ((h0, .inr (7, fz_44)) :: (B44 ++ [(q_45, .inl (ak 0, 1105, .inl (fun _ => 0)))])) := hD
  obtain ⟨B45, eB45⟩ : ∃ Z : va_W, Z = B44 ++ [(q_45, .inl (ak 0, 1105, .inl (fun _ => 0)))] := ⟨_, rfl⟩
  rw [← eB45] at hP hD
  refine W.widen (k := 45) (n := 11450) (Nat.le_of_ble_eq_true rfl) (Nat.le_of_ble_eq_true rfl) ?_
  refine vt_putF (D := D) (ci := 7) (v := .ref q_45) (ty := .array .int) (C := RX8) (T := TX8) (N := 69) hx hb hts (fun w h => wm_c (wc_X8 w h)) tyX8 tyX8_ok nmX8 hown hE.1 hP hD hS 0 rfl rfl 65 (by decide) tX8_65 (hts (.fieldLink RX8 144 "WornLinesModel" "least" "[I") (wm_c hw_241)) (fun _ h9 => h9) rfl hin rfl pd_I rfl rfl (by rw [nz_44]; exact Nat.le_of_ble_eq_true rfl) dX8_init_368 (fun H locs hP hD hS => ?_)
  have hP : va_P D vwCl ((h0, .inr (7, fz_44.set 65 (.ref q_45))) :: B45) H := hP
  have hD : va_D A ((h0, .inr (7, fz_44.set 65 (.ref q_45))) :: B45) := hD
  obtain ⟨fz_45, ez_45⟩ : ∃ Z : List Value, Z = fz_44.set 65 (.ref q_45) := ⟨_, rfl⟩
  rw [← ez_45] at hP hD
  have nz_45 : fz_45.length = 69 := by rw [ez_45, List.length_set]; exact nz_44
  refine lv_aload_n hx hb dX8_init_371 rfl (lv_at hl 0 rfl) ?_
  refine lv_iconst (v := 4) hx hb dX8_init_372 (by decide) ?_
  refine kn_a (atype := .boolean) (ty := .boolean) (a0 := (4, .inl (fun _ => 0))) (N' := 4) hx hb (hts (.arrayClass .boolean) (wm_c hw_651)) hE 3 rfl rfl (fun _ h => h) hP hD hS hA (fun cA => vp_cell_i cA 4 (fun _ => 0)) (by decide) (rfl) (by decide +kernel) (Nat.le_of_ble_eq_true rfl) (Nat.le_of_ble_eq_true rfl) dX8_init_373 (fun q_46 H hP hD hS => ?_)
  have hP : va_P D vwCl ((h0, .inr (7, fz_45)) :: (B45 ++ [(q_46, .inl (ak 3, 4, .inl (fun _ => 0)))])) H := hP
  have hD : va_D A ((h0, .inr (7, fz_45)) :: (B45 ++ [(q_46, .inl (ak 3, 4, .inl (fun _ => 0)))])) := hD
  obtain ⟨B46, eB46⟩ : ∃ Z : va_W, Z = B45 ++ [(q_46, .inl (ak 3, 4, .inl (fun _ => 0)))] := ⟨_, rfl⟩
  rw [← eB46] at hP hD
  refine W.widen (k := 46) (n := 11454) (Nat.le_of_ble_eq_true rfl) (Nat.le_of_ble_eq_true rfl) ?_
  refine vt_putF (D := D) (ci := 7) (v := .ref q_46) (ty := .array .boolean) (C := RX8) (T := TX8) (N := 69) hx hb hts (fun w h => wm_c (wc_X8 w h)) tyX8 tyX8_ok nmX8 hown hE.1 hP hD hS 0 rfl rfl 66 (by decide) tX8_66 (hts (.fieldLink RX8 147 "WornLinesModel" "isLaid" "[Z") (wm_c hw_253)) (fun _ h9 => h9) rfl hin rfl pd_Z rfl rfl (by rw [nz_45]; exact Nat.le_of_ble_eq_true rfl) dX8_init_375 (fun H locs hP hD hS => ?_)
  have hP : va_P D vwCl ((h0, .inr (7, fz_45.set 66 (.ref q_46))) :: B46) H := hP
  have hD : va_D A ((h0, .inr (7, fz_45.set 66 (.ref q_46))) :: B46) := hD
  obtain ⟨fz_46, ez_46⟩ : ∃ Z : List Value, Z = fz_45.set 66 (.ref q_46) := ⟨_, rfl⟩
  rw [← ez_46] at hP hD
  have nz_46 : fz_46.length = 69 := by rw [ez_46, List.length_set]; exact nz_45
  refine lv_aload_n hx hb dX8_init_378 rfl (lv_at hl 0 rfl) ?_
  refine lv_sipush (v := 1200) hx hb dX8_init_379 (by decide) ?_
  refine kn_a (atype := .int) (ty := .int) (a0 := (1200, .inl (fun _ => 0))) (N' := 1200) hx hb (hts (.arrayClass .int) (wm_c hw_267)) hE 0 rfl rfl (fun _ h => h) hP hD hS hA (fun cA => vp_cell_i cA 1200 (fun _ => 0)) (by decide) (rfl) (by decide +kernel) (Nat.le_of_ble_eq_true rfl) (Nat.le_of_ble_eq_true rfl) dX8_init_382 (fun q_47 H hP hD hS => ?_)
  have hP : va_P D vwCl ((h0, .inr (7, fz_46)) :: (B46 ++ [(q_47, .inl (ak 0, 1200, .inl (fun _ => 0)))])) H := hP
  have hD : va_D A ((h0, .inr (7, fz_46)) :: (B46 ++ [(q_47, .inl (ak 0, 1200, .inl (fun _ => 0)))])) := hD
  obtain ⟨B47, eB47⟩ : ∃ Z : va_W, Z = B46 ++ [(q_47, .inl (ak 0, 1200, .inl (fun _ => 0)))] := ⟨_, rfl⟩
  rw [← eB47] at hP hD
  replace eB47 : B47 = [(q_1, .inl (ak 0, 1000, .inl (fun _ => 0))), (q_2, .inl (ak 0, 6, .inl (fun _ => 0))), (q_3, .inl (ak 0, 6, .inl (fun _ => 0))), (q_4, .inl (ak 0, 6, .inl (fun _ => 0))), (q_5, .inl (ak 0, 6, .inl (fun _ => 0))), (q_6, .inl (ak 1, 4, .inr (.inl (fun _ => 0)))), (q_7, .inl (ak 1, 6, .inr (.inl (fun _ => 0)))), (q_8, .inl (ak 0, 24, .inl (fun _ => 0))), (q_9, .inl (ak 0, 24, .inl (fun _ => 0))), (q_10, .inl (ak 0, 36, .inl (fun _ => 0))), (q_11, .inl (ak 0, 12, .inl (fun _ => 0))), (q_12, .inl (ak 0, 12, .inl (fun _ => 0))), (q_13, .inl (ak 0, 12, .inl (fun _ => 0))), (q_14, .inl (ak 0, 96, .inl (fun _ => 0))), (q_15, .inl (ak 0, 96, .inl (fun _ => 0))), (q_16, .inl (ak 0, 96, .inl (fun _ => 0))), (q_17, .inl (ak 0, 96, .inl (fun _ => 0))), (q_18, .inl (ak 0, 192, .inl (fun _ => 0))), (q_19, .inl (ak 0, 192, .inl (fun _ => 0))), (q_20, .inl (ak 0, 6000, .inl (fun _ => 0))), (q_21, .inl (ak 0, 7, .inl (fun _ => 0))), (q_22, .inl (ak 3, 7, .inl (fun _ => 0))), (q_23, .inl (ak 0, 7, .inl (fun _ => 0))), (q_24, .inl (ak 0, 7, .inl (fun _ => 0))), (q_25, .inl (ak 0, 7, .inl (fun _ => 0))), (q_26, .inl (ak 0, 7, .inl (fun _ => 0))), (q_27, .inl (ak 0, 7, .inl (fun _ => 0))), (q_28, .inl (ak 0, 7, .inl (fun _ => 0))), (q_29, .inl (ak 0, 7, .inl (fun _ => 0))), (q_30, .inl (ak 0, 7, .inl (fun _ => 0))), (q_31, .inl (ak 0, 7, .inl (fun _ => 0))), (q_32, .inl (ak 0, 20, .inl (fun _ => 0))), (q_33, .inl (ak 0, 6, .inl (fun _ => 0))), (q_34, .inl (ak 0, 16, .inl (fun _ => 0))), (q_35, .inl (ak 0, 1001, .inl (fun _ => 0))), (q_36, .inl (ak 0, 16, .inl (fun _ => 0))), (q_37, .inl (ak 0, 16, .inl (fun _ => 0))), (q_38, .inl (ak 0, 6, .inl (fun _ => 0))), (q_39, .inl (ak 0, 16, .inl (fun _ => 0))), (q_40, .inl (ak 0, 200, .inl (fun _ => 0))), (q_41, .inl (ak 0, 16, .inl (fun _ => 0))), (q_42, .inl (ak 0, 16, .inl (fun _ => 0))), (q_43, .inl (ak 0, 16, .inl (fun _ => 0))), (q_44, .inl (ak 0, 1001, .inl (fun _ => 0))), (q_45, .inl (ak 0, 1105, .inl (fun _ => 0))), (q_46, .inl (ak 3, 4, .inl (fun _ => 0))), (q_47, .inl (ak 0, 1200, .inl (fun _ => 0)))] := by rw [eB47, eB46, eB45, eB44, eB43, eB42]; rfl
  refine W.widen (k := 47) (n := 12654) (Nat.le_of_ble_eq_true rfl) (Nat.le_of_ble_eq_true rfl) ?_
  refine vt_putF (D := D) (ci := 7) (v := .ref q_47) (ty := .array .int) (C := RX8) (T := TX8) (N := 69) hx hb hts (fun w h => wm_c (wc_X8 w h)) tyX8 tyX8_ok nmX8 hown hE.1 hP hD hS 0 rfl rfl 67 (by decide) tX8_67 (hts (.fieldLink RX8 150 "WornLinesModel" "marked" "[I") (wm_c hw_252)) (fun _ h9 => h9) rfl hin rfl pd_I rfl rfl (by rw [nz_46]; exact Nat.le_of_ble_eq_true rfl) dX8_init_384 (fun H locs hP hD hS => ?_)
  have hP : va_P D vwCl ((h0, .inr (7, fz_46.set 67 (.ref q_47))) :: B47) H := hP
  have hD : va_D A ((h0, .inr (7, fz_46.set 67 (.ref q_47))) :: B47) := hD
  obtain ⟨fz_47, ez_47⟩ : ∃ Z : List Value, Z = fz_46.set 67 (.ref q_47) := ⟨_, rfl⟩
  rw [← ez_47] at hP hD
  have nz_47 : fz_47.length = 69 := by rw [ez_47, List.length_set]; exact nz_46
  replace ez_47 : fz_47 = [.int (0), .int (0), .ref q_1, .int (0), .int (0), .int (0), .int (0), .long (0), .int (0), .int (0), .ref q_2, .ref q_3, .ref q_4, .ref q_5, .ref q_6, .ref q_7, .ref q_8, .ref q_9, .ref q_10, .ref q_11, .ref q_12, .ref q_13, .ref q_14, .ref q_15, .ref q_16, .ref q_17, .ref q_18, .ref q_19, .ref q_20, .int (0), .ref q_21, .ref q_22, .ref q_23, .ref q_24, .ref q_25, .ref q_26, .ref q_27, .ref q_28, .ref q_29, .ref q_30, .ref q_31, .ref q_32, .int (0), .int (0), .int (0), .int (0), .int (0), .ref q_33, .ref q_34, .int (0), .ref q_35, .ref q_36, .ref q_37, .int (0), .int (0), .int (0), .int (0), .int (0), .ref q_38, .ref q_39, .ref q_40, .ref q_41, .ref q_42, .ref q_43, .ref q_44, .ref q_45, .ref q_46, .ref q_47, .int (0)] := by rw [ez_47, ez_46, ez_45, ez_44, ez_43, ez_42]; rfl
  obtain ⟨am, ea0, ea1, ea2, ea3, ea4, ea5, ea6, ea7, ea8, ea9, ea10, ea11, ea12, ea13, ea14, ea15, ea16, ea17, ea18, ea19, ea20, ea21, ea22, ea23, ea24, ea25, ea26, ea27, ea28, ea29, ea30, ea31, ea32, ea33, ea34, ea35, ea36, ea37, ea38, ea39, ea40, ea41, ea42, ea43, ea44, ea45, ea46⟩ : ∃ f : Nat → Nat, f 0 = q_1 ∧ f 1 = q_2 ∧ f 2 = q_3 ∧ f 3 = q_4 ∧ f 4 = q_5 ∧ f 5 = q_6 ∧ f 6 = q_7 ∧ f 7 = q_8 ∧ f 8 = q_9 ∧ f 9 = q_10 ∧ f 10 = q_11 ∧ f 11 = q_12 ∧ f 12 = q_13 ∧ f 13 = q_14 ∧ f 14 = q_15 ∧ f 15 = q_16 ∧ f 16 = q_17 ∧ f 17 = q_18 ∧ f 18 = q_19 ∧ f 19 = q_20 ∧ f 20 = q_21 ∧ f 21 = q_22 ∧ f 22 = q_23 ∧ f 23 = q_24 ∧ f 24 = q_25 ∧ f 25 = q_26 ∧ f 26 = q_27 ∧ f 27 = q_28 ∧ f 28 = q_29 ∧ f 29 = q_30 ∧ f 30 = q_31 ∧ f 31 = q_32 ∧ f 32 = q_33 ∧ f 33 = q_34 ∧ f 34 = q_35 ∧ f 35 = q_36 ∧ f 36 = q_37 ∧ f 37 = q_38 ∧ f 38 = q_39 ∧ f 39 = q_40 ∧ f 40 = q_41 ∧ f 41 = q_42 ∧ f 42 = q_43 ∧ f 43 = q_44 ∧ f 44 = q_45 ∧ f 45 = q_46 ∧ f 46 = q_47 := ⟨(fun k => match k with | 0 => q_1 | 1 => q_2 | 2 => q_3 | 3 => q_4 | 4 => q_5 | 5 => q_6 | 6 => q_7 | 7 => q_8 | 8 => q_9 | 9 => q_10 | 10 => q_11 | 11 => q_12 | 12 => q_13 | 13 => q_14 | 14 => q_15 | 15 => q_16 | 16 => q_17 | 17 => q_18 | 18 => q_19 | 19 => q_20 | 20 => q_21 | 21 => q_22 | 22 => q_23 | 23 => q_24 | 24 => q_25 | 25 => q_26 | 26 => q_27 | 27 => q_28 | 28 => q_29 | 29 => q_30 | 30 => q_31 | 31 => q_32 | 32 => q_33 | 33 => q_34 | 34 => q_35 | 35 => q_36 | 36 => q_37 | 37 => q_38 | 38 => q_39 | 39 => q_40 | 40 => q_41 | 41 => q_42 | 42 => q_43 | 43 => q_44 | 44 => q_45 | 45 => q_46 | _ => q_47), rfl, rfl, rfl, rfl, rfl, rfl, rfl, rfl, rfl, rfl, rfl, rfl, rfl, rfl, rfl, rfl, rfl, rfl, rfl, rfl, rfl, rfl, rfl, rfl, rfl, rfl, rfl, rfl, rfl, rfl, rfl, rfl, rfl, rfl, rfl, rfl, rfl, rfl, rfl, rfl, rfl, rfl, rfl, rfl, rfl, rfl, rfl⟩
  have eL : (h0, .inr (7, fz_47)) :: B47 = ML ak h0 am 0 (fun _ => 0) 0 (fun _ _ => 0) (fun _ _ => 0) := by
    rw [eB47, ez_47]
    exact ml_cells ak h0 am q_1 q_2 q_3 q_4 q_5 q_6 q_7 q_8 q_9 q_10 q_11 q_12 q_13 q_14 q_15 q_16 q_17 q_18 q_19 q_20 q_21 q_22 q_23 q_24 q_25 q_26 q_27 q_28 q_29 q_30 q_31 q_32 q_33 q_34 q_35 q_36 q_37 q_38 q_39 q_40 q_41 q_42 q_43 q_44 q_45 q_46 q_47 ea0 ea1 ea2 ea3 ea4 ea5 ea6 ea7 ea8 ea9 ea10 ea11 ea12 ea13 ea14 ea15 ea16 ea17 ea18 ea19 ea20 ea21 ea22 ea23 ea24 ea25 ea26 ea27 ea28 ea29 ea30 ea31 ea32 ea33 ea34 ea35 ea36 ea37 ea38 ea39 ea40 ea41 ea42 ea43 ea44 ea45 ea46
  rw [eL] at hP hD
  refine W.widen (k := 47) (n := 12654) (Nat.le_of_ble_eq_true rfl) (Nat.le_of_ble_eq_true rfl) ?_
  exact W.vret hx hb hr (fun t ht hW => ⟨⟨ML ak h0 am 0 (fun _ => 0) 0 (fun _ _ => 0) (fun _ _ => 0), rfl, im_zero, by rw [ht]; exact hP, by rw [hAe]; exact hD⟩, by rw [hAe]; exact hS.F ht⟩) hS.2.2 dX8_init_387
