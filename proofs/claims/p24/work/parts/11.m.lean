section
theorem dX8_nextToken_345 : decode cX8_nextToken 345 = .ok (.iload_n 1, 1) := by decide +kernel
theorem dX8_nextToken_346 : decode cX8_nextToken 346 = .ok (.bipush 45, 2) := by decide +kernel
theorem dX8_nextToken_348 : decode cX8_nextToken 348 = .ok (.if_icmp .eq 15, 3) := by decide +kernel
theorem dX8_nextToken_363 : decode cX8_nextToken 363 = .ok (.iconst 3, 1) := by decide +kernel
theorem dX8_nextToken_364 : decode cX8_nextToken 364 = .ok (.goto 4, 3) := by decide +kernel
theorem dX8_nextToken_368 : decode cX8_nextToken 368 = .ok (.putfield 178, 3) := by decide +kernel
theorem dX8_nextToken_351 : decode cX8_nextToken 351 = .ok (.iload_n 1, 1) := by decide +kernel
theorem dX8_nextToken_352 : decode cX8_nextToken 352 = .ok (.bipush 59, 2) := by decide +kernel
theorem dX8_nextToken_354 : decode cX8_nextToken 354 = .ok (.if_icmp .lt 13, 3) := by decide +kernel
theorem dX8_nextToken_367 : decode cX8_nextToken 367 = .ok (.iconst 4, 1) := by decide +kernel
theorem dX8_nextToken_357 : decode cX8_nextToken 357 = .ok (.iload_n 1, 1) := by decide +kernel
theorem dX8_nextToken_358 : decode cX8_nextToken 358 = .ok (.bipush 61, 2) := by decide +kernel
theorem dX8_nextToken_360 : decode cX8_nextToken 360 = .ok (.if_icmp .gt 7, 3) := by decide +kernel
theorem dX8_nextToken_322 : decode cX8_nextToken 322 = .ok (.aload_n 0, 1) := by decide +kernel
theorem dX8_nextToken_323 : decode cX8_nextToken 323 = .ok (.dup, 1) := by decide +kernel
theorem dX8_nextToken_324 : decode cX8_nextToken 324 = .ok (.getfield 165, 3) := by decide +kernel
theorem dX8_nextToken_327 : decode cX8_nextToken 327 = .ok (.iconst 1, 1) := by decide +kernel
theorem dX8_nextToken_328 : decode cX8_nextToken 328 = .ok (.iadd, 1) := by decide +kernel
theorem dX8_nextToken_329 : decode cX8_nextToken 329 = .ok (.putfield 165, 3) := by decide +kernel
theorem dX8_nextToken_332 : decode cX8_nextToken 332 = .ok (.aload_n 0, 1) := by decide +kernel
theorem dX8_nextToken_333 : decode cX8_nextToken 333 = .ok (.iload_n 1, 1) := by decide +kernel
theorem dX8_nextToken_334 : decode cX8_nextToken 334 = .ok (.bipush 40, 2) := by decide +kernel
theorem dX8_nextToken_336 : decode cX8_nextToken 336 = .ok (.if_icmp .lt 9, 3) := by decide +kernel
theorem dX8_nextToken_339 : decode cX8_nextToken 339 = .ok (.iload_n 1, 1) := by decide +kernel
theorem dX8_nextToken_340 : decode cX8_nextToken 340 = .ok (.bipush 43, 2) := by decide +kernel
theorem dX8_nextToken_342 : decode cX8_nextToken 342 = .ok (.if_icmp .le 21, 3) := by decide +kernel
theorem dX8_nextToken_299 : decode cX8_nextToken 299 = .ok (.aload_n 0, 1) := by decide +kernel
theorem dX8_nextToken_300 : decode cX8_nextToken 300 = .ok (.aload_n 0, 1) := by decide +kernel
theorem dX8_nextToken_301 : decode cX8_nextToken 301 = .ok (.getfield 165, 3) := by decide +kernel
theorem dX8_nextToken_304 : decode cX8_nextToken 304 = .ok (.aload_n 0, 1) := by decide +kernel
theorem dX8_nextToken_305 : decode cX8_nextToken 305 = .ok (.getfield 168, 3) := by decide +kernel
theorem dX8_nextToken_308 : decode cX8_nextToken 308 = .ok (.isub, 1) := by decide +kernel
theorem dX8_nextToken_309 : decode cX8_nextToken 309 = .ok (.iconst 4, 1) := by decide +kernel
theorem dX8_nextToken_310 : decode cX8_nextToken 310 = .ok (.if_icmp .le 7, 3) := by decide +kernel
theorem dX8_nextToken_317 : decode cX8_nextToken 317 = .ok (.iconst 2, 1) := by decide +kernel
theorem dX8_nextToken_318 : decode cX8_nextToken 318 = .ok (.putfield 178, 3) := by decide +kernel
theorem dX8_nextToken_313 : decode cX8_nextToken 313 = .ok (.iconst 4, 1) := by decide +kernel
theorem dX8_nextToken_314 : decode cX8_nextToken 314 = .ok (.goto 4, 3) := by decide +kernel
theorem dX8_nextToken_224 : decode cX8_nextToken 224 = .ok (.aload_n 0, 1) := by decide +kernel
theorem dX8_nextToken_225 : decode cX8_nextToken 225 = .ok (.aload_n 0, 1) := by decide +kernel
theorem dX8_nextToken_226 : decode cX8_nextToken 226 = .ok (.getfield 165, 3) := by decide +kernel
set_option maxRecDepth 20000 in
theorem ggX8_nextToken_X8_signAt : GoodIn wsX8_nextToken wsX8_signAt := gup gc_X8_signAt
set_option maxRecDepth 20000 in
theorem gX8_nextToken_X8_signAt : GoodIn wsX8_nextToken (wsV RX8 181 RX8 yX8_signAt wsX8_signAt) := gup (glV hw_12 hw_13 hw_14 hw_15 gc_X8_signAt)
theorem dX8_nextToken_229 : decode cX8_nextToken 229 = .ok (.invokevirtual 181, 3) := by decide +kernel
theorem dX8_nextToken_232 : decode cX8_nextToken 232 = .ok (.bipush 48, 2) := by decide +kernel
theorem dX8_nextToken_234 : decode cX8_nextToken 234 = .ok (.if_icmp .lt 65, 3) := by decide +kernel
theorem dX8_nextToken_237 : decode cX8_nextToken 237 = .ok (.aload_n 0, 1) := by decide +kernel
theorem dX8_nextToken_238 : decode cX8_nextToken 238 = .ok (.aload_n 0, 1) := by decide +kernel
theorem dX8_nextToken_239 : decode cX8_nextToken 239 = .ok (.getfield 165, 3) := by decide +kernel
theorem dX8_nextToken_242 : decode cX8_nextToken 242 = .ok (.invokevirtual 181, 3) := by decide +kernel
theorem dX8_nextToken_245 : decode cX8_nextToken 245 = .ok (.bipush 57, 2) := by decide +kernel
theorem dX8_nextToken_247 : decode cX8_nextToken 247 = .ok (.if_icmp .gt 52, 3) := by decide +kernel
theorem dX8_nextToken_250 : decode cX8_nextToken 250 = .ok (.aload_n 0, 1) := by decide +kernel
theorem dX8_nextToken_251 : decode cX8_nextToken 251 = .ok (.getfield 165, 3) := by decide +kernel
theorem dX8_nextToken_254 : decode cX8_nextToken 254 = .ok (.aload_n 0, 1) := by decide +kernel
theorem dX8_nextToken_255 : decode cX8_nextToken 255 = .ok (.getfield 168, 3) := by decide +kernel
theorem dX8_nextToken_258 : decode cX8_nextToken 258 = .ok (.isub, 1) := by decide +kernel
theorem dX8_nextToken_259 : decode cX8_nextToken 259 = .ok (.iconst 4, 1) := by decide +kernel
theorem dX8_nextToken_260 : decode cX8_nextToken 260 = .ok (.if_icmp .ge 26, 3) := by decide +kernel
theorem dX8_nextToken_286 : decode cX8_nextToken 286 = .ok (.aload_n 0, 1) := by decide +kernel
theorem dX8_nextToken_287 : decode cX8_nextToken 287 = .ok (.dup, 1) := by decide +kernel
theorem dX8_nextToken_288 : decode cX8_nextToken 288 = .ok (.getfield 165, 3) := by decide +kernel
theorem dX8_nextToken_291 : decode cX8_nextToken 291 = .ok (.iconst 1, 1) := by decide +kernel
theorem dX8_nextToken_292 : decode cX8_nextToken 292 = .ok (.iadd, 1) := by decide +kernel
theorem dX8_nextToken_293 : decode cX8_nextToken 293 = .ok (.putfield 165, 3) := by decide +kernel
theorem dX8_nextToken_296 : decode cX8_nextToken 296 = .ok (.goto (-72), 3) := by decide +kernel
theorem dX8_nextToken_263 : decode cX8_nextToken 263 = .ok (.aload_n 0, 1) := by decide +kernel
theorem dX8_nextToken_264 : decode cX8_nextToken 264 = .ok (.aload_n 0, 1) := by decide +kernel
theorem dX8_nextToken_265 : decode cX8_nextToken 265 = .ok (.getfield 175, 3) := by decide +kernel
theorem dX8_nextToken_268 : decode cX8_nextToken 268 = .ok (.bipush 10, 2) := by decide +kernel
theorem dX8_nextToken_270 : decode cX8_nextToken 270 = .ok (.imul, 1) := by decide +kernel
theorem dX8_nextToken_271 : decode cX8_nextToken 271 = .ok (.aload_n 0, 1) := by decide +kernel
theorem dX8_nextToken_272 : decode cX8_nextToken 272 = .ok (.aload_n 0, 1) := by decide +kernel
theorem dX8_nextToken_273 : decode cX8_nextToken 273 = .ok (.getfield 165, 3) := by decide +kernel
theorem dX8_nextToken_276 : decode cX8_nextToken 276 = .ok (.invokevirtual 181, 3) := by decide +kernel
theorem dX8_nextToken_279 : decode cX8_nextToken 279 = .ok (.iadd, 1) := by decide +kernel
theorem dX8_nextToken_280 : decode cX8_nextToken 280 = .ok (.bipush 48, 2) := by decide +kernel
theorem dX8_nextToken_282 : decode cX8_nextToken 282 = .ok (.isub, 1) := by decide +kernel
theorem dX8_nextToken_283 : decode cX8_nextToken 283 = .ok (.putfield 175, 3) := by decide +kernel
theorem dX8_nextToken_212 : decode cX8_nextToken 212 = .ok (.iload_n 1, 1) := by decide +kernel
theorem dX8_nextToken_213 : decode cX8_nextToken 213 = .ok (.bipush 48, 2) := by decide +kernel
theorem dX8_nextToken_215 : decode cX8_nextToken 215 = .ok (.if_icmp .lt 107, 3) := by decide +kernel
theorem dX8_nextToken_218 : decode cX8_nextToken 218 = .ok (.iload_n 1, 1) := by decide +kernel
theorem dX8_nextToken_219 : decode cX8_nextToken 219 = .ok (.bipush 57, 2) := by decide +kernel
theorem dX8_nextToken_221 : decode cX8_nextToken 221 = .ok (.if_icmp .gt 101, 3) := by decide +kernel
theorem dX8_nextToken_188 : decode cX8_nextToken 188 = .ok (.aload_n 0, 1) := by decide +kernel
theorem dX8_nextToken_189 : decode cX8_nextToken 189 = .ok (.aload_n 0, 1) := by decide +kernel
theorem dX8_nextToken_190 : decode cX8_nextToken 190 = .ok (.getfield 165, 3) := by decide +kernel
theorem dX8_nextToken_193 : decode cX8_nextToken 193 = .ok (.aload_n 0, 1) := by decide +kernel
theorem dX8_nextToken_194 : decode cX8_nextToken 194 = .ok (.getfield 168, 3) := by decide +kernel
theorem dX8_nextToken_197 : decode cX8_nextToken 197 = .ok (.isub, 1) := by decide +kernel
theorem dX8_nextToken_198 : decode cX8_nextToken 198 = .ok (.bipush 8, 2) := by decide +kernel
theorem dX8_nextToken_200 : decode cX8_nextToken 200 = .ok (.if_icmp .le 7, 3) := by decide +kernel
theorem dX8_nextToken_207 : decode cX8_nextToken 207 = .ok (.iconst 1, 1) := by decide +kernel
theorem dX8_nextToken_208 : decode cX8_nextToken 208 = .ok (.putfield 178, 3) := by decide +kernel
theorem dX8_nextToken_203 : decode cX8_nextToken 203 = .ok (.iconst 4, 1) := by decide +kernel
theorem dX8_nextToken_204 : decode cX8_nextToken 204 = .ok (.goto 4, 3) := by decide +kernel
theorem dX8_nextToken_109 : decode cX8_nextToken 109 = .ok (.aload_n 0, 1) := by decide +kernel
theorem dX8_nextToken_110 : decode cX8_nextToken 110 = .ok (.aload_n 0, 1) := by decide +kernel
theorem dX8_nextToken_111 : decode cX8_nextToken 111 = .ok (.getfield 165, 3) := by decide +kernel
theorem dX8_nextToken_114 : decode cX8_nextToken 114 = .ok (.invokevirtual 181, 3) := by decide +kernel
theorem dX8_nextToken_117 : decode cX8_nextToken 117 = .ok (.bipush 97, 2) := by decide +kernel
theorem dX8_nextToken_119 : decode cX8_nextToken 119 = .ok (.if_icmp .lt 69, 3) := by decide +kernel
theorem dX8_nextToken_122 : decode cX8_nextToken 122 = .ok (.aload_n 0, 1) := by decide +kernel
theorem dX8_nextToken_123 : decode cX8_nextToken 123 = .ok (.aload_n 0, 1) := by decide +kernel
theorem dX8_nextToken_124 : decode cX8_nextToken 124 = .ok (.getfield 165, 3) := by decide +kernel
theorem dX8_nextToken_127 : decode cX8_nextToken 127 = .ok (.invokevirtual 181, 3) := by decide +kernel
theorem dX8_nextToken_130 : decode cX8_nextToken 130 = .ok (.bipush 122, 2) := by decide +kernel
theorem dX8_nextToken_132 : decode cX8_nextToken 132 = .ok (.if_icmp .gt 56, 3) := by decide +kernel
theorem dX8_nextToken_135 : decode cX8_nextToken 135 = .ok (.aload_n 0, 1) := by decide +kernel
theorem dX8_nextToken_136 : decode cX8_nextToken 136 = .ok (.getfield 165, 3) := by decide +kernel
theorem dX8_nextToken_139 : decode cX8_nextToken 139 = .ok (.aload_n 0, 1) := by decide +kernel
theorem dX8_nextToken_140 : decode cX8_nextToken 140 = .ok (.getfield 168, 3) := by decide +kernel
theorem dX8_nextToken_143 : decode cX8_nextToken 143 = .ok (.isub, 1) := by decide +kernel
theorem dX8_nextToken_144 : decode cX8_nextToken 144 = .ok (.bipush 8, 2) := by decide +kernel
theorem dX8_nextToken_146 : decode cX8_nextToken 146 = .ok (.if_icmp .ge 29, 3) := by decide +kernel
theorem dX8_nextToken_175 : decode cX8_nextToken 175 = .ok (.aload_n 0, 1) := by decide +kernel
theorem dX8_nextToken_176 : decode cX8_nextToken 176 = .ok (.dup, 1) := by decide +kernel
theorem dX8_nextToken_177 : decode cX8_nextToken 177 = .ok (.getfield 165, 3) := by decide +kernel
theorem dX8_nextToken_180 : decode cX8_nextToken 180 = .ok (.iconst 1, 1) := by decide +kernel
theorem dX8_nextToken_181 : decode cX8_nextToken 181 = .ok (.iadd, 1) := by decide +kernel
theorem dX8_nextToken_182 : decode cX8_nextToken 182 = .ok (.putfield 165, 3) := by decide +kernel
theorem dX8_nextToken_185 : decode cX8_nextToken 185 = .ok (.goto (-76), 3) := by decide +kernel
theorem dX8_nextToken_149 : decode cX8_nextToken 149 = .ok (.aload_n 0, 1) := by decide +kernel
theorem dX8_nextToken_150 : decode cX8_nextToken 150 = .ok (.aload_n 0, 1) := by decide +kernel
theorem dX8_nextToken_151 : decode cX8_nextToken 151 = .ok (.getfield 171, 3) := by decide +kernel
theorem dX8_nextToken_154 : decode cX8_nextToken 154 = .ok (.ldc2_w 185, 3) := by decide +kernel
theorem dX8_nextToken_157 : decode cX8_nextToken 157 = .ok (.lmul, 1) := by decide +kernel
theorem dX8_nextToken_158 : decode cX8_nextToken 158 = .ok (.aload_n 0, 1) := by decide +kernel
theorem dX8_nextToken_159 : decode cX8_nextToken 159 = .ok (.aload_n 0, 1) := by decide +kernel
theorem dX8_nextToken_160 : decode cX8_nextToken 160 = .ok (.getfield 165, 3) := by decide +kernel
theorem dX8_nextToken_163 : decode cX8_nextToken 163 = .ok (.invokevirtual 181, 3) := by decide +kernel
theorem dX8_nextToken_166 : decode cX8_nextToken 166 = .ok (.i2l, 1) := by decide +kernel
theorem dX8_nextToken_167 : decode cX8_nextToken 167 = .ok (.ladd, 1) := by decide +kernel
theorem dX8_nextToken_168 : decode cX8_nextToken 168 = .ok (.ldc2_w 187, 3) := by decide +kernel
theorem dX8_nextToken_171 : decode cX8_nextToken 171 = .ok (.lsub, 1) := by decide +kernel
theorem dX8_nextToken_172 : decode cX8_nextToken 172 = .ok (.putfield 171, 3) := by decide +kernel
theorem dX8_nextToken_52 : decode cX8_nextToken 52 = .ok (.aload_n 0, 1) := by decide +kernel
theorem dX8_nextToken_53 : decode cX8_nextToken 53 = .ok (.aload_n 0, 1) := by decide +kernel
theorem dX8_nextToken_54 : decode cX8_nextToken 54 = .ok (.getfield 165, 3) := by decide +kernel
theorem dX8_nextToken_57 : decode cX8_nextToken 57 = .ok (.putfield 168, 3) := by decide +kernel
theorem dX8_nextToken_60 : decode cX8_nextToken 60 = .ok (.aload_n 0, 1) := by decide +kernel
theorem dX8_nextToken_61 : decode cX8_nextToken 61 = .ok (.lconst 0, 1) := by decide +kernel
theorem dX8_nextToken_62 : decode cX8_nextToken 62 = .ok (.putfield 171, 3) := by decide +kernel
theorem dX8_nextToken_65 : decode cX8_nextToken 65 = .ok (.aload_n 0, 1) := by decide +kernel
theorem dX8_nextToken_66 : decode cX8_nextToken 66 = .ok (.iconst 0, 1) := by decide +kernel
theorem dX8_nextToken_67 : decode cX8_nextToken 67 = .ok (.putfield 175, 3) := by decide +kernel
theorem dX8_nextToken_70 : decode cX8_nextToken 70 = .ok (.aload_n 0, 1) := by decide +kernel
theorem dX8_nextToken_71 : decode cX8_nextToken 71 = .ok (.getfield 165, 3) := by decide +kernel
theorem dX8_nextToken_74 : decode cX8_nextToken 74 = .ok (.aload_n 0, 1) := by decide +kernel
theorem dX8_nextToken_75 : decode cX8_nextToken 75 = .ok (.getfield 162, 3) := by decide +kernel
theorem dX8_nextToken_78 : decode cX8_nextToken 78 = .ok (.if_icmp .ne 9, 3) := by decide +kernel
theorem dX8_nextToken_87 : decode cX8_nextToken 87 = .ok (.aload_n 0, 1) := by decide +kernel
theorem dX8_nextToken_88 : decode cX8_nextToken 88 = .ok (.getfield 7, 3) := by decide +kernel
theorem dX8_nextToken_91 : decode cX8_nextToken 91 = .ok (.aload_n 0, 1) := by decide +kernel
theorem dX8_nextToken_92 : decode cX8_nextToken 92 = .ok (.getfield 165, 3) := by decide +kernel
theorem dX8_nextToken_95 : decode cX8_nextToken 95 = .ok (.iaload, 1) := by decide +kernel
theorem dX8_nextToken_96 : decode cX8_nextToken 96 = .ok (.istore_n 1, 1) := by decide +kernel
theorem dX8_nextToken_97 : decode cX8_nextToken 97 = .ok (.iload_n 1, 1) := by decide +kernel
theorem dX8_nextToken_98 : decode cX8_nextToken 98 = .ok (.bipush 97, 2) := by decide +kernel
theorem dX8_nextToken_100 : decode cX8_nextToken 100 = .ok (.if_icmp .lt 112, 3) := by decide +kernel
theorem dX8_nextToken_103 : decode cX8_nextToken 103 = .ok (.iload_n 1, 1) := by decide +kernel
theorem dX8_nextToken_104 : decode cX8_nextToken 104 = .ok (.bipush 122, 2) := by decide +kernel
theorem dX8_nextToken_106 : decode cX8_nextToken 106 = .ok (.if_icmp .gt 106, 3) := by decide +kernel
theorem dX8_nextToken_81 : decode cX8_nextToken 81 = .ok (.aload_n 0, 1) := by decide +kernel
theorem dX8_nextToken_82 : decode cX8_nextToken 82 = .ok (.iconst 0, 1) := by decide +kernel
theorem dX8_nextToken_83 : decode cX8_nextToken 83 = .ok (.putfield 178, 3) := by decide +kernel
theorem dX8_nextToken_0 : decode cX8_nextToken 0 = .ok (.aload_n 0, 1) := by decide +kernel
theorem dX8_nextToken_1 : decode cX8_nextToken 1 = .ok (.getfield 165, 3) := by decide +kernel
theorem dX8_nextToken_4 : decode cX8_nextToken 4 = .ok (.aload_n 0, 1) := by decide +kernel
theorem dX8_nextToken_5 : decode cX8_nextToken 5 = .ok (.getfield 162, 3) := by decide +kernel
theorem dX8_nextToken_8 : decode cX8_nextToken 8 = .ok (.if_icmp .ge 44, 3) := by decide +kernel
theorem dX8_nextToken_11 : decode cX8_nextToken 11 = .ok (.aload_n 0, 1) := by decide +kernel
theorem dX8_nextToken_12 : decode cX8_nextToken 12 = .ok (.getfield 7, 3) := by decide +kernel
theorem dX8_nextToken_15 : decode cX8_nextToken 15 = .ok (.aload_n 0, 1) := by decide +kernel
theorem dX8_nextToken_16 : decode cX8_nextToken 16 = .ok (.getfield 165, 3) := by decide +kernel
theorem dX8_nextToken_19 : decode cX8_nextToken 19 = .ok (.iaload, 1) := by decide +kernel
theorem dX8_nextToken_20 : decode cX8_nextToken 20 = .ok (.bipush 32, 2) := by decide +kernel
theorem dX8_nextToken_22 : decode cX8_nextToken 22 = .ok (.if_icmp .eq 17, 3) := by decide +kernel
theorem dX8_nextToken_39 : decode cX8_nextToken 39 = .ok (.aload_n 0, 1) := by decide +kernel
theorem dX8_nextToken_40 : decode cX8_nextToken 40 = .ok (.dup, 1) := by decide +kernel
theorem dX8_nextToken_41 : decode cX8_nextToken 41 = .ok (.getfield 165, 3) := by decide +kernel
theorem dX8_nextToken_44 : decode cX8_nextToken 44 = .ok (.iconst 1, 1) := by decide +kernel
theorem dX8_nextToken_45 : decode cX8_nextToken 45 = .ok (.iadd, 1) := by decide +kernel
theorem dX8_nextToken_46 : decode cX8_nextToken 46 = .ok (.putfield 165, 3) := by decide +kernel
theorem dX8_nextToken_49 : decode cX8_nextToken 49 = .ok (.goto (-49), 3) := by decide +kernel
theorem dX8_nextToken_25 : decode cX8_nextToken 25 = .ok (.aload_n 0, 1) := by decide +kernel
theorem dX8_nextToken_26 : decode cX8_nextToken 26 = .ok (.getfield 7, 3) := by decide +kernel
theorem dX8_nextToken_29 : decode cX8_nextToken 29 = .ok (.aload_n 0, 1) := by decide +kernel
theorem dX8_nextToken_30 : decode cX8_nextToken 30 = .ok (.getfield 165, 3) := by decide +kernel
theorem dX8_nextToken_33 : decode cX8_nextToken 33 = .ok (.iaload, 1) := by decide +kernel
theorem dX8_nextToken_34 : decode cX8_nextToken 34 = .ok (.bipush 10, 2) := by decide +kernel
theorem dX8_nextToken_36 : decode cX8_nextToken 36 = .ok (.if_icmp .ne 16, 3) := by decide +kernel
theorem dX8_nextToken_86 : decode cX8_nextToken 86 = .ok (.return_, 1) := by decide +kernel
theorem dX8_nextToken_211 : decode cX8_nextToken 211 = .ok (.return_, 1) := by decide +kernel
theorem dX8_nextToken_321 : decode cX8_nextToken 321 = .ok (.return_, 1) := by decide +kernel
theorem dX8_nextToken_371 : decode cX8_nextToken 371 = .ok (.return_, 1) := by decide +kernel
def wW_X8_nextToken (ak : Nat → ClassId) (ad : Nat → Nat) (h : Nat) (am : Nat → Nat) (Fthrown : Int32) (Ftaped : Int32) (Fsize : Int32) (Fplace : Int32) (Fbegin : Int32) (Ftoken : Int32) (Fword : Int64) (Ftold : Int32) (Fwrong : Int32) (Fcode : Int32) (Fat : Int32) (Fway : Int32) (Fnext : Int32) (FisEnd : Int32) (FisFallen : Int32) (Fwritten : Int32) (Fmade : Int32) (Fstate : Int32) (FhandNext : Int32) (FhandSteps : Int32) (FhandWritten : Int32) (FmarkAt : Int32) (Atape : Nat → Int32) : va_W := [(h, .inr (7, mob am (Fthrown) (Ftaped) (Fsize) (Fplace) (Fbegin) (Ftoken) (Fword) (Ftold) (Fwrong) (Fcode) (Fat) (Fway) (Fnext) (FisEnd) (FisFallen) (Fwritten) (Fmade) (Fstate) (FhandNext) (FhandSteps) (FhandWritten) (FmarkAt))), ((am 0), .inl (ak 0, 1000, .inl (Atape)))]
def kf_X8_nextToken_345 (Fsize : Int32) (Atape : Nat → Int32)  (Φ : Int32 → Int32 → Int32 → Int64 → Int32 → Prop) (Fplace : Int32) (Fbegin : Int32) (Ftoken : Int32) (Fword : Int64) (Ftold : Int32) (l1 : Int32) : Prop := (l1 = 45 → Φ Fplace Fbegin 3 Fword Ftold) ∧ (¬ l1 = 45 → (l1 < 59 → Φ Fplace Fbegin 4 Fword Ftold) ∧ (¬ l1 < 59 → (61 < l1 → Φ Fplace Fbegin 4 Fword Ftold) ∧ (¬ 61 < l1 → Φ Fplace Fbegin 3 Fword Ftold)))
set_option maxHeartbeats 4000000 in
set_option maxRecDepth 100000 in
theorem kj_X8_nextToken_345 {p : Program} {l : Launch} {e : Env} {R : Room} {s : State} {m : MethodId} {args : Array Value} {below : List Frame} {meth : Method} {c : Code} {cells slots : Nat} {Q : State → Prop} {A : Nat → Prop} {D : va_G} {ak : Nat → ClassId} {ad : Nat → Nat} (hx : p.tables.exec = Jvm.exec) (hb : c.code = cX8_nextToken) (hown : s.vm.findClass RX8 = some m.cls) (hts : ∀ w ∈ wsX8_nextToken, w.before args s = true) (hml : c.maxLocals = 2) (hE : EV D ak s) (hT : ST D ak ad A s s.heap) (hA : ∀ q, s.heap.size ≤ q → A q) (hRf : 1 ≤ R.frames) (hRl : 21 ≤ R.locals) (hRc : cells ≤ R.cells ∧ slots ≤ R.slots) (h : Nat) (am : Nat → Nat) (Fthrown : Int32) (Ftaped : Int32) (Fsize : Int32) (Fwrong : Int32) (Fcode : Int32) (Fat : Int32) (Fway : Int32) (Fnext : Int32) (FisEnd : Int32) (FisFallen : Int32) (Fwritten : Int32) (Fmade : Int32) (Fstate : Int32) (FhandNext : Int32) (FhandSteps : Int32) (FhandWritten : Int32) (FmarkAt : Int32) (Atape : Nat → Int32)  (Φ : Int32 → Int32 → Int32 → Int64 → Int32 → Prop)
    (kR86 : ∀ (Fplace : Int32) (Fbegin : Int32) (Ftoken : Int32) (Fword : Int64) (Ftold : Int32) (H : Heap) (locs : List Loc) (ls : Array Slot), Φ Fplace Fbegin Ftoken Fword Ftold → va_P D vwCl (wW_X8_nextToken ak ad h am Fthrown Ftaped Fsize Fplace Fbegin Ftoken Fword Ftold Fwrong Fcode Fat Fway Fnext FisEnd FisFallen Fwritten Fmade Fstate FhandNext FhandSteps FhandWritten FmarkAt Atape) H → va_D A (wW_X8_nextToken ak ad h am Fthrown Ftaped Fsize Fplace Fbegin Ftoken Fword Ftold Fwrong Fcode Fat Fway Fnext FisEnd FisFallen Fwritten Fmade Fstate FhandNext FhandSteps FhandWritten FmarkAt Atape) → va_S A s.heap H locs → W p l e R s m args below meth c H locs cells slots Q (F0 m 86 ls []))
    (kR211 : ∀ (Fplace : Int32) (Fbegin : Int32) (Ftoken : Int32) (Fword : Int64) (Ftold : Int32) (H : Heap) (locs : List Loc) (ls : Array Slot), Φ Fplace Fbegin Ftoken Fword Ftold → va_P D vwCl (wW_X8_nextToken ak ad h am Fthrown Ftaped Fsize Fplace Fbegin Ftoken Fword Ftold Fwrong Fcode Fat Fway Fnext FisEnd FisFallen Fwritten Fmade Fstate FhandNext FhandSteps FhandWritten FmarkAt Atape) H → va_D A (wW_X8_nextToken ak ad h am Fthrown Ftaped Fsize Fplace Fbegin Ftoken Fword Ftold Fwrong Fcode Fat Fway Fnext FisEnd FisFallen Fwritten Fmade Fstate FhandNext FhandSteps FhandWritten FmarkAt Atape) → va_S A s.heap H locs → W p l e R s m args below meth c H locs cells slots Q (F0 m 211 ls []))
    (kR321 : ∀ (Fplace : Int32) (Fbegin : Int32) (Ftoken : Int32) (Fword : Int64) (Ftold : Int32) (H : Heap) (locs : List Loc) (ls : Array Slot), Φ Fplace Fbegin Ftoken Fword Ftold → va_P D vwCl (wW_X8_nextToken ak ad h am Fthrown Ftaped Fsize Fplace Fbegin Ftoken Fword Ftold Fwrong Fcode Fat Fway Fnext FisEnd FisFallen Fwritten Fmade Fstate FhandNext FhandSteps FhandWritten FmarkAt Atape) H → va_D A (wW_X8_nextToken ak ad h am Fthrown Ftaped Fsize Fplace Fbegin Ftoken Fword Ftold Fwrong Fcode Fat Fway Fnext FisEnd FisFallen Fwritten Fmade Fstate FhandNext FhandSteps FhandWritten FmarkAt Atape) → va_S A s.heap H locs → W p l e R s m args below meth c H locs cells slots Q (F0 m 321 ls []))
    (kR371 : ∀ (Fplace : Int32) (Fbegin : Int32) (Ftoken : Int32) (Fword : Int64) (Ftold : Int32) (H : Heap) (locs : List Loc) (ls : Array Slot), Φ Fplace Fbegin Ftoken Fword Ftold → va_P D vwCl (wW_X8_nextToken ak ad h am Fthrown Ftaped Fsize Fplace Fbegin Ftoken Fword Ftold Fwrong Fcode Fat Fway Fnext FisEnd FisFallen Fwritten Fmade Fstate FhandNext FhandSteps FhandWritten FmarkAt Atape) H → va_D A (wW_X8_nextToken ak ad h am Fthrown Ftaped Fsize Fplace Fbegin Ftoken Fword Ftold Fwrong Fcode Fat Fway Fnext FisEnd FisFallen Fwritten Fmade Fstate FhandNext FhandSteps FhandWritten FmarkAt Atape) → va_S A s.heap H locs → W p l e R s m args below meth c H locs cells slots Q (F0 m 371 ls []))
    : ∀ (Fplace : Int32) (Fbegin : Int32) (Ftoken : Int32) (Fword : Int64) (Ftold : Int32) (l1 : Int32) (H : Heap) (locs : List Loc) (ls : Array Slot), kf_X8_nextToken_345 Fsize Atape  Φ Fplace Fbegin Ftoken Fword Ftold l1 → va_P D vwCl (wW_X8_nextToken ak ad h am Fthrown Ftaped Fsize Fplace Fbegin Ftoken Fword Ftold Fwrong Fcode Fat Fway Fnext FisEnd FisFallen Fwritten Fmade Fstate FhandNext FhandSteps FhandWritten FmarkAt Atape) H → va_D A (wW_X8_nextToken ak ad h am Fthrown Ftaped Fsize Fplace Fbegin Ftoken Fword Ftold Fwrong Fcode Fat Fway Fnext FisEnd FisFallen Fwritten Fmade Fstate FhandNext FhandSteps FhandWritten FmarkAt Atape) → va_S A s.heap H locs → lv_has ls 2 [(1, .int (l1))] → W p l e R s m args below meth c H locs cells slots Q (F0 m 345 ls (.ref h :: [])) := by
  intro Fplace Fbegin Ftoken Fword Ftold l1 H locs ls hw hP hD hS hl
  delta kf_X8_nextToken_345 at hw
  refine lv_iload_n hx hb dX8_nextToken_345 rfl (lv_at hl 0 rfl) ?_
  refine lv_bipush (v := 45) hx hb dX8_nextToken_346 (by decide) ?_
  refine lv_icmp_eq (tgt := 363) hx hb dX8_nextToken_348 (by decide) (fun c_7 => ?_) (fun c_7 => ?_)
  · replace hw := hw.1 c_7
    refine lv_iconst (v := 3) hx hb dX8_nextToken_363 (by decide) ?_
    refine lv_goto (tgt := 368) hx hb dX8_nextToken_364 (by decide) ?_
    refine vt_put (D := D) (ci := 7) (v := .int (3)) (ty := .int) (C := RX8) (T := TX8) (N := 69) hx hb hts (fun w h => wm_c (wc_X8 w h)) tyX8 tyX8_ok nmX8 hown hE.1 hP hD hS 0 rfl rfl 6 (by decide) tX8_6 (hts (.fieldLink RX8 178 "WornLinesModel" "token" "I") (wm_c hw_5)) (fun _ h9 => h9) rfl pf_0 (rfl) rfl (Nat.le_of_ble_eq_true rfl) dX8_nextToken_368 (fun H locs hP hD hS => ?_)
    have hP : va_P D vwCl (wW_X8_nextToken ak ad h am Fthrown Ftaped Fsize Fplace Fbegin 3 Fword Ftold Fwrong Fcode Fat Fway Fnext FisEnd FisFallen Fwritten Fmade Fstate FhandNext FhandSteps FhandWritten FmarkAt Atape) H := hP
    have hD : va_D A (wW_X8_nextToken ak ad h am Fthrown Ftaped Fsize Fplace Fbegin 3 Fword Ftold Fwrong Fcode Fat Fway Fnext FisEnd FisFallen Fwritten Fmade Fstate FhandNext FhandSteps FhandWritten FmarkAt Atape) := hD
    exact kR371 Fplace Fbegin 3 Fword Ftold _ _ _ hw hP hD hS
  · replace hw := hw.2 c_7
    refine lv_iload_n hx hb dX8_nextToken_351 rfl (lv_at hl 0 rfl) ?_
    refine lv_bipush (v := 59) hx hb dX8_nextToken_352 (by decide) ?_
    refine lv_icmp_lt (tgt := 367) hx hb dX8_nextToken_354 (by decide) (fun c_8 => ?_) (fun c_8 => ?_)
    · replace hw := hw.1 c_8
      refine lv_iconst (v := 4) hx hb dX8_nextToken_367 (by decide) ?_
      refine vt_put (D := D) (ci := 7) (v := .int (4)) (ty := .int) (C := RX8) (T := TX8) (N := 69) hx hb hts (fun w h => wm_c (wc_X8 w h)) tyX8 tyX8_ok nmX8 hown hE.1 hP hD hS 0 rfl rfl 6 (by decide) tX8_6 (hts (.fieldLink RX8 178 "WornLinesModel" "token" "I") (wm_c hw_5)) (fun _ h9 => h9) rfl pf_0 (rfl) rfl (Nat.le_of_ble_eq_true rfl) dX8_nextToken_368 (fun H locs hP hD hS => ?_)
      have hP : va_P D vwCl (wW_X8_nextToken ak ad h am Fthrown Ftaped Fsize Fplace Fbegin 4 Fword Ftold Fwrong Fcode Fat Fway Fnext FisEnd FisFallen Fwritten Fmade Fstate FhandNext FhandSteps FhandWritten FmarkAt Atape) H := hP
      have hD : va_D A (wW_X8_nextToken ak ad h am Fthrown Ftaped Fsize Fplace Fbegin 4 Fword Ftold Fwrong Fcode Fat Fway Fnext FisEnd FisFallen Fwritten Fmade Fstate FhandNext FhandSteps FhandWritten FmarkAt Atape) := hD
      exact kR371 Fplace Fbegin 4 Fword Ftold _ _ _ hw hP hD hS
    · replace hw := hw.2 c_8
      refine lv_iload_n hx hb dX8_nextToken_357 rfl (lv_at hl 0 rfl) ?_
      refine lv_bipush (v := 61) hx hb dX8_nextToken_358 (by decide) ?_
      refine lv_icmp_gt (tgt := 367) hx hb dX8_nextToken_360 (by decide) (fun c_9 => ?_) (fun c_9 => ?_)
      · replace hw := hw.1 c_9
        refine lv_iconst (v := 4) hx hb dX8_nextToken_367 (by decide) ?_
        refine vt_put (D := D) (ci := 7) (v := .int (4)) (ty := .int) (C := RX8) (T := TX8) (N := 69) hx hb hts (fun w h => wm_c (wc_X8 w h)) tyX8 tyX8_ok nmX8 hown hE.1 hP hD hS 0 rfl rfl 6 (by decide) tX8_6 (hts (.fieldLink RX8 178 "WornLinesModel" "token" "I") (wm_c hw_5)) (fun _ h9 => h9) rfl pf_0 (rfl) rfl (Nat.le_of_ble_eq_true rfl) dX8_nextToken_368 (fun H locs hP hD hS => ?_)
        have hP : va_P D vwCl (wW_X8_nextToken ak ad h am Fthrown Ftaped Fsize Fplace Fbegin 4 Fword Ftold Fwrong Fcode Fat Fway Fnext FisEnd FisFallen Fwritten Fmade Fstate FhandNext FhandSteps FhandWritten FmarkAt Atape) H := hP
        have hD : va_D A (wW_X8_nextToken ak ad h am Fthrown Ftaped Fsize Fplace Fbegin 4 Fword Ftold Fwrong Fcode Fat Fway Fnext FisEnd FisFallen Fwritten Fmade Fstate FhandNext FhandSteps FhandWritten FmarkAt Atape) := hD
        exact kR371 Fplace Fbegin 4 Fword Ftold _ _ _ hw hP hD hS
      · replace hw := hw.2 c_9
        refine lv_iconst (v := 3) hx hb dX8_nextToken_363 (by decide) ?_
        refine lv_goto (tgt := 368) hx hb dX8_nextToken_364 (by decide) ?_
        refine vt_put (D := D) (ci := 7) (v := .int (3)) (ty := .int) (C := RX8) (T := TX8) (N := 69) hx hb hts (fun w h => wm_c (wc_X8 w h)) tyX8 tyX8_ok nmX8 hown hE.1 hP hD hS 0 rfl rfl 6 (by decide) tX8_6 (hts (.fieldLink RX8 178 "WornLinesModel" "token" "I") (wm_c hw_5)) (fun _ h9 => h9) rfl pf_0 (rfl) rfl (Nat.le_of_ble_eq_true rfl) dX8_nextToken_368 (fun H locs hP hD hS => ?_)
        have hP : va_P D vwCl (wW_X8_nextToken ak ad h am Fthrown Ftaped Fsize Fplace Fbegin 3 Fword Ftold Fwrong Fcode Fat Fway Fnext FisEnd FisFallen Fwritten Fmade Fstate FhandNext FhandSteps FhandWritten FmarkAt Atape) H := hP
        have hD : va_D A (wW_X8_nextToken ak ad h am Fthrown Ftaped Fsize Fplace Fbegin 3 Fword Ftold Fwrong Fcode Fat Fway Fnext FisEnd FisFallen Fwritten Fmade Fstate FhandNext FhandSteps FhandWritten FmarkAt Atape) := hD
        exact kR371 Fplace Fbegin 3 Fword Ftold _ _ _ hw hP hD hS

def kf_X8_nextToken_322 (Fsize : Int32) (Atape : Nat → Int32)  (Φ : Int32 → Int32 → Int32 → Int64 → Int32 → Prop) (Fplace : Int32) (Fbegin : Int32) (Ftoken : Int32) (Fword : Int64) (Ftold : Int32) (l1 : Int32) : Prop := (l1 < 40 → kf_X8_nextToken_345 Fsize Atape  Φ (Fplace + 1) Fbegin Ftoken Fword Ftold l1) ∧ (¬ l1 < 40 → (l1 ≤ 43 → Φ (Fplace + 1) Fbegin 3 Fword Ftold) ∧ (¬ l1 ≤ 43 → kf_X8_nextToken_345 Fsize Atape  Φ (Fplace + 1) Fbegin Ftoken Fword Ftold l1))
set_option maxHeartbeats 4000000 in
set_option maxRecDepth 100000 in
theorem kj_X8_nextToken_322 {p : Program} {l : Launch} {e : Env} {R : Room} {s : State} {m : MethodId} {args : Array Value} {below : List Frame} {meth : Method} {c : Code} {cells slots : Nat} {Q : State → Prop} {A : Nat → Prop} {D : va_G} {ak : Nat → ClassId} {ad : Nat → Nat} (hx : p.tables.exec = Jvm.exec) (hb : c.code = cX8_nextToken) (hown : s.vm.findClass RX8 = some m.cls) (hts : ∀ w ∈ wsX8_nextToken, w.before args s = true) (hml : c.maxLocals = 2) (hE : EV D ak s) (hT : ST D ak ad A s s.heap) (hA : ∀ q, s.heap.size ≤ q → A q) (hRf : 1 ≤ R.frames) (hRl : 21 ≤ R.locals) (hRc : cells ≤ R.cells ∧ slots ≤ R.slots) (h : Nat) (am : Nat → Nat) (Fthrown : Int32) (Ftaped : Int32) (Fsize : Int32) (Fwrong : Int32) (Fcode : Int32) (Fat : Int32) (Fway : Int32) (Fnext : Int32) (FisEnd : Int32) (FisFallen : Int32) (Fwritten : Int32) (Fmade : Int32) (Fstate : Int32) (FhandNext : Int32) (FhandSteps : Int32) (FhandWritten : Int32) (FmarkAt : Int32) (Atape : Nat → Int32)  (Φ : Int32 → Int32 → Int32 → Int64 → Int32 → Prop)
    (kR86 : ∀ (Fplace : Int32) (Fbegin : Int32) (Ftoken : Int32) (Fword : Int64) (Ftold : Int32) (H : Heap) (locs : List Loc) (ls : Array Slot), Φ Fplace Fbegin Ftoken Fword Ftold → va_P D vwCl (wW_X8_nextToken ak ad h am Fthrown Ftaped Fsize Fplace Fbegin Ftoken Fword Ftold Fwrong Fcode Fat Fway Fnext FisEnd FisFallen Fwritten Fmade Fstate FhandNext FhandSteps FhandWritten FmarkAt Atape) H → va_D A (wW_X8_nextToken ak ad h am Fthrown Ftaped Fsize Fplace Fbegin Ftoken Fword Ftold Fwrong Fcode Fat Fway Fnext FisEnd FisFallen Fwritten Fmade Fstate FhandNext FhandSteps FhandWritten FmarkAt Atape) → va_S A s.heap H locs → W p l e R s m args below meth c H locs cells slots Q (F0 m 86 ls []))
    (kR211 : ∀ (Fplace : Int32) (Fbegin : Int32) (Ftoken : Int32) (Fword : Int64) (Ftold : Int32) (H : Heap) (locs : List Loc) (ls : Array Slot), Φ Fplace Fbegin Ftoken Fword Ftold → va_P D vwCl (wW_X8_nextToken ak ad h am Fthrown Ftaped Fsize Fplace Fbegin Ftoken Fword Ftold Fwrong Fcode Fat Fway Fnext FisEnd FisFallen Fwritten Fmade Fstate FhandNext FhandSteps FhandWritten FmarkAt Atape) H → va_D A (wW_X8_nextToken ak ad h am Fthrown Ftaped Fsize Fplace Fbegin Ftoken Fword Ftold Fwrong Fcode Fat Fway Fnext FisEnd FisFallen Fwritten Fmade Fstate FhandNext FhandSteps FhandWritten FmarkAt Atape) → va_S A s.heap H locs → W p l e R s m args below meth c H locs cells slots Q (F0 m 211 ls []))
    (kR321 : ∀ (Fplace : Int32) (Fbegin : Int32) (Ftoken : Int32) (Fword : Int64) (Ftold : Int32) (H : Heap) (locs : List Loc) (ls : Array Slot), Φ Fplace Fbegin Ftoken Fword Ftold → va_P D vwCl (wW_X8_nextToken ak ad h am Fthrown Ftaped Fsize Fplace Fbegin Ftoken Fword Ftold Fwrong Fcode Fat Fway Fnext FisEnd FisFallen Fwritten Fmade Fstate FhandNext FhandSteps FhandWritten FmarkAt Atape) H → va_D A (wW_X8_nextToken ak ad h am Fthrown Ftaped Fsize Fplace Fbegin Ftoken Fword Ftold Fwrong Fcode Fat Fway Fnext FisEnd FisFallen Fwritten Fmade Fstate FhandNext FhandSteps FhandWritten FmarkAt Atape) → va_S A s.heap H locs → W p l e R s m args below meth c H locs cells slots Q (F0 m 321 ls []))
    (kR371 : ∀ (Fplace : Int32) (Fbegin : Int32) (Ftoken : Int32) (Fword : Int64) (Ftold : Int32) (H : Heap) (locs : List Loc) (ls : Array Slot), Φ Fplace Fbegin Ftoken Fword Ftold → va_P D vwCl (wW_X8_nextToken ak ad h am Fthrown Ftaped Fsize Fplace Fbegin Ftoken Fword Ftold Fwrong Fcode Fat Fway Fnext FisEnd FisFallen Fwritten Fmade Fstate FhandNext FhandSteps FhandWritten FmarkAt Atape) H → va_D A (wW_X8_nextToken ak ad h am Fthrown Ftaped Fsize Fplace Fbegin Ftoken Fword Ftold Fwrong Fcode Fat Fway Fnext FisEnd FisFallen Fwritten Fmade Fstate FhandNext FhandSteps FhandWritten FmarkAt Atape) → va_S A s.heap H locs → W p l e R s m args below meth c H locs cells slots Q (F0 m 371 ls []))
    : ∀ (Fplace : Int32) (Fbegin : Int32) (Ftoken : Int32) (Fword : Int64) (Ftold : Int32) (l1 : Int32) (H : Heap) (locs : List Loc) (ls : Array Slot), kf_X8_nextToken_322 Fsize Atape  Φ Fplace Fbegin Ftoken Fword Ftold l1 → va_P D vwCl (wW_X8_nextToken ak ad h am Fthrown Ftaped Fsize Fplace Fbegin Ftoken Fword Ftold Fwrong Fcode Fat Fway Fnext FisEnd FisFallen Fwritten Fmade Fstate FhandNext FhandSteps FhandWritten FmarkAt Atape) H → va_D A (wW_X8_nextToken ak ad h am Fthrown Ftaped Fsize Fplace Fbegin Ftoken Fword Ftold Fwrong Fcode Fat Fway Fnext FisEnd FisFallen Fwritten Fmade Fstate FhandNext FhandSteps FhandWritten FmarkAt Atape) → va_S A s.heap H locs → lv_has ls 2 [(0, .ref h), (1, .int (l1))] → W p l e R s m args below meth c H locs cells slots Q (F0 m 322 ls ([])) := by
  intro Fplace Fbegin Ftoken Fword Ftold l1 H locs ls hw hP hD hS hl
  delta kf_X8_nextToken_322 at hw
  refine lv_aload_n hx hb dX8_nextToken_322 rfl (lv_at hl 0 rfl) ?_
  refine lv_dup hx hb dX8_nextToken_323 rfl ?_
  refine vt_get (D := D) (ci := 7) (v := .int (Fplace)) (C := RX8) (T := TX8) (N := 69) hx hb hts (fun w h => wm_c (wc_X8 w h)) hown hE.1 hP 0 rfl rfl 4 (by decide) tX8_4 (hts (.fieldLink RX8 165 "WornLinesModel" "place" "I") (wm_c hw_6)) (fun _ h9 => h9) rfl dX8_nextToken_324 ?_
  refine lv_iconst (v := 1) hx hb dX8_nextToken_327 (by decide) ?_
  refine lv_iadd hx hb dX8_nextToken_328 ?_
  refine vt_put (D := D) (ci := 7) (v := .int (Fplace + 1)) (ty := .int) (C := RX8) (T := TX8) (N := 69) hx hb hts (fun w h => wm_c (wc_X8 w h)) tyX8 tyX8_ok nmX8 hown hE.1 hP hD hS 0 rfl rfl 4 (by decide) tX8_4 (hts (.fieldLink RX8 165 "WornLinesModel" "place" "I") (wm_c hw_6)) (fun _ h9 => h9) rfl pf_0 (rfl) rfl (Nat.le_of_ble_eq_true rfl) dX8_nextToken_329 (fun H locs hP hD hS => ?_)
  have hP : va_P D vwCl (wW_X8_nextToken ak ad h am Fthrown Ftaped Fsize (Fplace + 1) Fbegin Ftoken Fword Ftold Fwrong Fcode Fat Fway Fnext FisEnd FisFallen Fwritten Fmade Fstate FhandNext FhandSteps FhandWritten FmarkAt Atape) H := hP
  have hD : va_D A (wW_X8_nextToken ak ad h am Fthrown Ftaped Fsize (Fplace + 1) Fbegin Ftoken Fword Ftold Fwrong Fcode Fat Fway Fnext FisEnd FisFallen Fwritten Fmade Fstate FhandNext FhandSteps FhandWritten FmarkAt Atape) := hD
  refine lv_aload_n hx hb dX8_nextToken_332 rfl (lv_at hl 0 rfl) ?_
  refine lv_iload_n hx hb dX8_nextToken_333 rfl (lv_at hl 1 rfl) ?_
  refine lv_bipush (v := 40) hx hb dX8_nextToken_334 (by decide) ?_
  refine lv_icmp_lt (tgt := 345) hx hb dX8_nextToken_336 (by decide) (fun c_6 => ?_) (fun c_6 => ?_)
  · replace hw := hw.1 c_6
    exact kj_X8_nextToken_345 hx hb hown hts hml hE hT hA hRf hRl hRc h am Fthrown Ftaped Fsize Fwrong Fcode Fat Fway Fnext FisEnd FisFallen Fwritten Fmade Fstate FhandNext FhandSteps FhandWritten FmarkAt Atape  Φ  kR86 kR211 kR321 kR371 (Fplace + 1) Fbegin Ftoken Fword Ftold l1 _ _ _ hw hP hD hS (lv_sub hl [1] rfl)
  · replace hw := hw.2 c_6
    refine lv_iload_n hx hb dX8_nextToken_339 rfl (lv_at hl 1 rfl) ?_
    refine lv_bipush (v := 43) hx hb dX8_nextToken_340 (by decide) ?_
    refine lv_icmp_le (tgt := 363) hx hb dX8_nextToken_342 (by decide) (fun c_10 => ?_) (fun c_10 => ?_)
    · replace hw := hw.1 c_10
      refine lv_iconst (v := 3) hx hb dX8_nextToken_363 (by decide) ?_
      refine lv_goto (tgt := 368) hx hb dX8_nextToken_364 (by decide) ?_
      refine vt_put (D := D) (ci := 7) (v := .int (3)) (ty := .int) (C := RX8) (T := TX8) (N := 69) hx hb hts (fun w h => wm_c (wc_X8 w h)) tyX8 tyX8_ok nmX8 hown hE.1 hP hD hS 0 rfl rfl 6 (by decide) tX8_6 (hts (.fieldLink RX8 178 "WornLinesModel" "token" "I") (wm_c hw_5)) (fun _ h9 => h9) rfl pf_0 (rfl) rfl (Nat.le_of_ble_eq_true rfl) dX8_nextToken_368 (fun H locs hP hD hS => ?_)
      have hP : va_P D vwCl (wW_X8_nextToken ak ad h am Fthrown Ftaped Fsize (Fplace + 1) Fbegin 3 Fword Ftold Fwrong Fcode Fat Fway Fnext FisEnd FisFallen Fwritten Fmade Fstate FhandNext FhandSteps FhandWritten FmarkAt Atape) H := hP
      have hD : va_D A (wW_X8_nextToken ak ad h am Fthrown Ftaped Fsize (Fplace + 1) Fbegin 3 Fword Ftold Fwrong Fcode Fat Fway Fnext FisEnd FisFallen Fwritten Fmade Fstate FhandNext FhandSteps FhandWritten FmarkAt Atape) := hD
      exact kR371 (Fplace + 1) Fbegin 3 Fword Ftold _ _ _ hw hP hD hS
    · replace hw := hw.2 c_10
      exact kj_X8_nextToken_345 hx hb hown hts hml hE hT hA hRf hRl hRc h am Fthrown Ftaped Fsize Fwrong Fcode Fat Fway Fnext FisEnd FisFallen Fwritten Fmade Fstate FhandNext FhandSteps FhandWritten FmarkAt Atape  Φ  kR86 kR211 kR321 kR371 (Fplace + 1) Fbegin Ftoken Fword Ftold l1 _ _ _ hw hP hD hS (lv_sub hl [1] rfl)

def kf_X8_nextToken_299 (Fsize : Int32) (Atape : Nat → Int32)  (Φ : Int32 → Int32 → Int32 → Int64 → Int32 → Prop) (Fplace : Int32) (Fbegin : Int32) (Ftoken : Int32) (Fword : Int64) (Ftold : Int32) : Prop := ((Fplace - Fbegin) ≤ 4 → Φ Fplace Fbegin 2 Fword Ftold) ∧ (¬ (Fplace - Fbegin) ≤ 4 → Φ Fplace Fbegin 4 Fword Ftold)
set_option maxHeartbeats 4000000 in
set_option maxRecDepth 100000 in
theorem kj_X8_nextToken_299 {p : Program} {l : Launch} {e : Env} {R : Room} {s : State} {m : MethodId} {args : Array Value} {below : List Frame} {meth : Method} {c : Code} {cells slots : Nat} {Q : State → Prop} {A : Nat → Prop} {D : va_G} {ak : Nat → ClassId} {ad : Nat → Nat} (hx : p.tables.exec = Jvm.exec) (hb : c.code = cX8_nextToken) (hown : s.vm.findClass RX8 = some m.cls) (hts : ∀ w ∈ wsX8_nextToken, w.before args s = true) (hml : c.maxLocals = 2) (hE : EV D ak s) (hT : ST D ak ad A s s.heap) (hA : ∀ q, s.heap.size ≤ q → A q) (hRf : 1 ≤ R.frames) (hRl : 21 ≤ R.locals) (hRc : cells ≤ R.cells ∧ slots ≤ R.slots) (h : Nat) (am : Nat → Nat) (Fthrown : Int32) (Ftaped : Int32) (Fsize : Int32) (Fwrong : Int32) (Fcode : Int32) (Fat : Int32) (Fway : Int32) (Fnext : Int32) (FisEnd : Int32) (FisFallen : Int32) (Fwritten : Int32) (Fmade : Int32) (Fstate : Int32) (FhandNext : Int32) (FhandSteps : Int32) (FhandWritten : Int32) (FmarkAt : Int32) (Atape : Nat → Int32)  (Φ : Int32 → Int32 → Int32 → Int64 → Int32 → Prop)
    (kR86 : ∀ (Fplace : Int32) (Fbegin : Int32) (Ftoken : Int32) (Fword : Int64) (Ftold : Int32) (H : Heap) (locs : List Loc) (ls : Array Slot), Φ Fplace Fbegin Ftoken Fword Ftold → va_P D vwCl (wW_X8_nextToken ak ad h am Fthrown Ftaped Fsize Fplace Fbegin Ftoken Fword Ftold Fwrong Fcode Fat Fway Fnext FisEnd FisFallen Fwritten Fmade Fstate FhandNext FhandSteps FhandWritten FmarkAt Atape) H → va_D A (wW_X8_nextToken ak ad h am Fthrown Ftaped Fsize Fplace Fbegin Ftoken Fword Ftold Fwrong Fcode Fat Fway Fnext FisEnd FisFallen Fwritten Fmade Fstate FhandNext FhandSteps FhandWritten FmarkAt Atape) → va_S A s.heap H locs → W p l e R s m args below meth c H locs cells slots Q (F0 m 86 ls []))
    (kR211 : ∀ (Fplace : Int32) (Fbegin : Int32) (Ftoken : Int32) (Fword : Int64) (Ftold : Int32) (H : Heap) (locs : List Loc) (ls : Array Slot), Φ Fplace Fbegin Ftoken Fword Ftold → va_P D vwCl (wW_X8_nextToken ak ad h am Fthrown Ftaped Fsize Fplace Fbegin Ftoken Fword Ftold Fwrong Fcode Fat Fway Fnext FisEnd FisFallen Fwritten Fmade Fstate FhandNext FhandSteps FhandWritten FmarkAt Atape) H → va_D A (wW_X8_nextToken ak ad h am Fthrown Ftaped Fsize Fplace Fbegin Ftoken Fword Ftold Fwrong Fcode Fat Fway Fnext FisEnd FisFallen Fwritten Fmade Fstate FhandNext FhandSteps FhandWritten FmarkAt Atape) → va_S A s.heap H locs → W p l e R s m args below meth c H locs cells slots Q (F0 m 211 ls []))
    (kR321 : ∀ (Fplace : Int32) (Fbegin : Int32) (Ftoken : Int32) (Fword : Int64) (Ftold : Int32) (H : Heap) (locs : List Loc) (ls : Array Slot), Φ Fplace Fbegin Ftoken Fword Ftold → va_P D vwCl (wW_X8_nextToken ak ad h am Fthrown Ftaped Fsize Fplace Fbegin Ftoken Fword Ftold Fwrong Fcode Fat Fway Fnext FisEnd FisFallen Fwritten Fmade Fstate FhandNext FhandSteps FhandWritten FmarkAt Atape) H → va_D A (wW_X8_nextToken ak ad h am Fthrown Ftaped Fsize Fplace Fbegin Ftoken Fword Ftold Fwrong Fcode Fat Fway Fnext FisEnd FisFallen Fwritten Fmade Fstate FhandNext FhandSteps FhandWritten FmarkAt Atape) → va_S A s.heap H locs → W p l e R s m args below meth c H locs cells slots Q (F0 m 321 ls []))
    (kR371 : ∀ (Fplace : Int32) (Fbegin : Int32) (Ftoken : Int32) (Fword : Int64) (Ftold : Int32) (H : Heap) (locs : List Loc) (ls : Array Slot), Φ Fplace Fbegin Ftoken Fword Ftold → va_P D vwCl (wW_X8_nextToken ak ad h am Fthrown Ftaped Fsize Fplace Fbegin Ftoken Fword Ftold Fwrong Fcode Fat Fway Fnext FisEnd FisFallen Fwritten Fmade Fstate FhandNext FhandSteps FhandWritten FmarkAt Atape) H → va_D A (wW_X8_nextToken ak ad h am Fthrown Ftaped Fsize Fplace Fbegin Ftoken Fword Ftold Fwrong Fcode Fat Fway Fnext FisEnd FisFallen Fwritten Fmade Fstate FhandNext FhandSteps FhandWritten FmarkAt Atape) → va_S A s.heap H locs → W p l e R s m args below meth c H locs cells slots Q (F0 m 371 ls []))
    : ∀ (Fplace : Int32) (Fbegin : Int32) (Ftoken : Int32) (Fword : Int64) (Ftold : Int32) (H : Heap) (locs : List Loc) (ls : Array Slot), kf_X8_nextToken_299 Fsize Atape  Φ Fplace Fbegin Ftoken Fword Ftold → va_P D vwCl (wW_X8_nextToken ak ad h am Fthrown Ftaped Fsize Fplace Fbegin Ftoken Fword Ftold Fwrong Fcode Fat Fway Fnext FisEnd FisFallen Fwritten Fmade Fstate FhandNext FhandSteps FhandWritten FmarkAt Atape) H → va_D A (wW_X8_nextToken ak ad h am Fthrown Ftaped Fsize Fplace Fbegin Ftoken Fword Ftold Fwrong Fcode Fat Fway Fnext FisEnd FisFallen Fwritten Fmade Fstate FhandNext FhandSteps FhandWritten FmarkAt Atape) → va_S A s.heap H locs → lv_has ls 2 [(0, .ref h)] → W p l e R s m args below meth c H locs cells slots Q (F0 m 299 ls ([])) := by
  intro Fplace Fbegin Ftoken Fword Ftold H locs ls hw hP hD hS hl
  delta kf_X8_nextToken_299 at hw
  refine lv_aload_n hx hb dX8_nextToken_299 rfl (lv_at hl 0 rfl) ?_
  refine lv_aload_n hx hb dX8_nextToken_300 rfl (lv_at hl 0 rfl) ?_
  refine vt_get (D := D) (ci := 7) (v := .int (Fplace)) (C := RX8) (T := TX8) (N := 69) hx hb hts (fun w h => wm_c (wc_X8 w h)) hown hE.1 hP 0 rfl rfl 4 (by decide) tX8_4 (hts (.fieldLink RX8 165 "WornLinesModel" "place" "I") (wm_c hw_6)) (fun _ h9 => h9) rfl dX8_nextToken_301 ?_
  refine lv_aload_n hx hb dX8_nextToken_304 rfl (lv_at hl 0 rfl) ?_
  refine vt_get (D := D) (ci := 7) (v := .int (Fbegin)) (C := RX8) (T := TX8) (N := 69) hx hb hts (fun w h => wm_c (wc_X8 w h)) hown hE.1 hP 0 rfl rfl 5 (by decide) tX8_5 (hts (.fieldLink RX8 168 "WornLinesModel" "begin" "I") (wm_c hw_7)) (fun _ h9 => h9) rfl dX8_nextToken_305 ?_
  refine lv_isub hx hb dX8_nextToken_308 ?_
  refine lv_iconst (v := 4) hx hb dX8_nextToken_309 (by decide) ?_
  refine lv_icmp_le (tgt := 317) hx hb dX8_nextToken_310 (by decide) (fun c_15 => ?_) (fun c_15 => ?_)
  · replace hw := hw.1 c_15
    refine lv_iconst (v := 2) hx hb dX8_nextToken_317 (by decide) ?_
    refine vt_put (D := D) (ci := 7) (v := .int (2)) (ty := .int) (C := RX8) (T := TX8) (N := 69) hx hb hts (fun w h => wm_c (wc_X8 w h)) tyX8 tyX8_ok nmX8 hown hE.1 hP hD hS 0 rfl rfl 6 (by decide) tX8_6 (hts (.fieldLink RX8 178 "WornLinesModel" "token" "I") (wm_c hw_5)) (fun _ h9 => h9) rfl pf_0 (rfl) rfl (Nat.le_of_ble_eq_true rfl) dX8_nextToken_318 (fun H locs hP hD hS => ?_)
    have hP : va_P D vwCl (wW_X8_nextToken ak ad h am Fthrown Ftaped Fsize Fplace Fbegin 2 Fword Ftold Fwrong Fcode Fat Fway Fnext FisEnd FisFallen Fwritten Fmade Fstate FhandNext FhandSteps FhandWritten FmarkAt Atape) H := hP
    have hD : va_D A (wW_X8_nextToken ak ad h am Fthrown Ftaped Fsize Fplace Fbegin 2 Fword Ftold Fwrong Fcode Fat Fway Fnext FisEnd FisFallen Fwritten Fmade Fstate FhandNext FhandSteps FhandWritten FmarkAt Atape) := hD
    exact kR321 Fplace Fbegin 2 Fword Ftold _ _ _ hw hP hD hS
  · replace hw := hw.2 c_15
    refine lv_iconst (v := 4) hx hb dX8_nextToken_313 (by decide) ?_
    refine lv_goto (tgt := 318) hx hb dX8_nextToken_314 (by decide) ?_
    refine vt_put (D := D) (ci := 7) (v := .int (4)) (ty := .int) (C := RX8) (T := TX8) (N := 69) hx hb hts (fun w h => wm_c (wc_X8 w h)) tyX8 tyX8_ok nmX8 hown hE.1 hP hD hS 0 rfl rfl 6 (by decide) tX8_6 (hts (.fieldLink RX8 178 "WornLinesModel" "token" "I") (wm_c hw_5)) (fun _ h9 => h9) rfl pf_0 (rfl) rfl (Nat.le_of_ble_eq_true rfl) dX8_nextToken_318 (fun H locs hP hD hS => ?_)
    have hP : va_P D vwCl (wW_X8_nextToken ak ad h am Fthrown Ftaped Fsize Fplace Fbegin 4 Fword Ftold Fwrong Fcode Fat Fway Fnext FisEnd FisFallen Fwritten Fmade Fstate FhandNext FhandSteps FhandWritten FmarkAt Atape) H := hP
    have hD : va_D A (wW_X8_nextToken ak ad h am Fthrown Ftaped Fsize Fplace Fbegin 4 Fword Ftold Fwrong Fcode Fat Fway Fnext FisEnd FisFallen Fwritten Fmade Fstate FhandNext FhandSteps FhandWritten FmarkAt Atape) := hD
    exact kR321 Fplace Fbegin 4 Fword Ftold _ _ _ hw hP hD hS

def lb_X8_nextToken_224 (Fsize : Int32) (Atape : Nat → Int32)  (Φ : Int32 → Int32 → Int32 → Int64 → Int32 → Prop) (back : Int32 → Int32 → Int32 → Int64 → Int32 → Prop) (Fplace : Int32) (Fbegin : Int32) (Ftoken : Int32) (Fword : Int64) (Ftold : Int32) : Prop := wp_X8_signAt Fsize Atape Fplace (fun r_13 => (r_13 < 48 → kf_X8_nextToken_299 Fsize Atape  Φ Fplace Fbegin Ftoken Fword Ftold) ∧ (¬ r_13 < 48 → wp_X8_signAt Fsize Atape Fplace (fun r_17 => (57 < r_17 → kf_X8_nextToken_299 Fsize Atape  Φ Fplace Fbegin Ftoken Fword Ftold) ∧ (¬ 57 < r_17 → (4 ≤ (Fplace - Fbegin) → back (Fplace + 1) Fbegin Ftoken Fword Ftold) ∧ (¬ 4 ≤ (Fplace - Fbegin) → wp_X8_signAt Fsize Atape Fplace (fun r_21 => back (Fplace + 1) Fbegin Ftoken Fword (((Ftold * 10) + r_21) - 48)))))))
def lf_X8_nextToken_224 (Fsize : Int32) (Atape : Nat → Int32)  (Φ : Int32 → Int32 → Int32 → Int64 → Int32 → Prop) : Nat → Int32 → Int32 → Int32 → Int64 → Int32 → Prop
  | 0, _, _, _, _, _ => False
  | n_ + 1, Fplace, Fbegin, Ftoken, Fword, Ftold => lb_X8_nextToken_224 Fsize Atape  Φ (lf_X8_nextToken_224 Fsize Atape  Φ n_) Fplace Fbegin Ftoken Fword Ftold
theorem li_X8_nextToken_224 (Fsize : Int32) (Atape : Nat → Int32)  (Φ : Int32 → Int32 → Int32 → Int64 → Int32 → Prop) (Inv : Int32 → Int32 → Int32 → Int64 → Int32 → Prop) (mu : Int32 → Int32 → Int32 → Int64 → Int32 → Nat) (hs : ∀ (back : Int32 → Int32 → Int32 → Int64 → Int32 → Prop) (Fplace : Int32) (Fbegin : Int32) (Ftoken : Int32) (Fword : Int64) (Ftold : Int32), Inv Fplace Fbegin Ftoken Fword Ftold → (∀ (Fplace' : Int32) (Fbegin' : Int32) (Ftoken' : Int32) (Fword' : Int64) (Ftold' : Int32), Inv Fplace' Fbegin' Ftoken' Fword' Ftold' → mu Fplace' Fbegin' Ftoken' Fword' Ftold' < mu Fplace Fbegin Ftoken Fword Ftold → back Fplace' Fbegin' Ftoken' Fword' Ftold') → lb_X8_nextToken_224 Fsize Atape  Φ back Fplace Fbegin Ftoken Fword Ftold) : ∀ (n_ : Nat) (Fplace : Int32) (Fbegin : Int32) (Ftoken : Int32) (Fword : Int64) (Ftold : Int32), Inv Fplace Fbegin Ftoken Fword Ftold → mu Fplace Fbegin Ftoken Fword Ftold < n_ → lf_X8_nextToken_224 Fsize Atape  Φ n_ Fplace Fbegin Ftoken Fword Ftold := by
  intro n_
  induction n_ with
  | zero => intro Fplace Fbegin Ftoken Fword Ftold _ h; exact absurd h (Nat.not_lt_zero _)
  | succ n_ ih => intro Fplace Fbegin Ftoken Fword Ftold hI hm; exact hs _ Fplace Fbegin Ftoken Fword Ftold hI (fun Fplace' Fbegin' Ftoken' Fword' Ftold' h1 h2 => ih Fplace' Fbegin' Ftoken' Fword' Ftold' h1 (by omega))
set_option maxHeartbeats 4000000 in
set_option maxRecDepth 100000 in
theorem lp_X8_nextToken_224 {p : Program} {l : Launch} {e : Env} {R : Room} {s : State} {m : MethodId} {args : Array Value} {below : List Frame} {meth : Method} {c : Code} {cells slots : Nat} {Q : State → Prop} {A : Nat → Prop} {D : va_G} {ak : Nat → ClassId} {ad : Nat → Nat} (hx : p.tables.exec = Jvm.exec) (hb : c.code = cX8_nextToken) (hown : s.vm.findClass RX8 = some m.cls) (hts : ∀ w ∈ wsX8_nextToken, w.before args s = true) (hml : c.maxLocals = 2) (hE : EV D ak s) (hT : ST D ak ad A s s.heap) (hA : ∀ q, s.heap.size ≤ q → A q) (hRf : 1 ≤ R.frames) (hRl : 21 ≤ R.locals) (hRc : cells ≤ R.cells ∧ slots ≤ R.slots) (h : Nat) (am : Nat → Nat) (Fthrown : Int32) (Ftaped : Int32) (Fsize : Int32) (Fwrong : Int32) (Fcode : Int32) (Fat : Int32) (Fway : Int32) (Fnext : Int32) (FisEnd : Int32) (FisFallen : Int32) (Fwritten : Int32) (Fmade : Int32) (Fstate : Int32) (FhandNext : Int32) (FhandSteps : Int32) (FhandWritten : Int32) (FmarkAt : Int32) (Atape : Nat → Int32)  (Φ : Int32 → Int32 → Int32 → Int64 → Int32 → Prop)
    (kR86 : ∀ (Fplace : Int32) (Fbegin : Int32) (Ftoken : Int32) (Fword : Int64) (Ftold : Int32) (H : Heap) (locs : List Loc) (ls : Array Slot), Φ Fplace Fbegin Ftoken Fword Ftold → va_P D vwCl (wW_X8_nextToken ak ad h am Fthrown Ftaped Fsize Fplace Fbegin Ftoken Fword Ftold Fwrong Fcode Fat Fway Fnext FisEnd FisFallen Fwritten Fmade Fstate FhandNext FhandSteps FhandWritten FmarkAt Atape) H → va_D A (wW_X8_nextToken ak ad h am Fthrown Ftaped Fsize Fplace Fbegin Ftoken Fword Ftold Fwrong Fcode Fat Fway Fnext FisEnd FisFallen Fwritten Fmade Fstate FhandNext FhandSteps FhandWritten FmarkAt Atape) → va_S A s.heap H locs → W p l e R s m args below meth c H locs cells slots Q (F0 m 86 ls []))
    (kR211 : ∀ (Fplace : Int32) (Fbegin : Int32) (Ftoken : Int32) (Fword : Int64) (Ftold : Int32) (H : Heap) (locs : List Loc) (ls : Array Slot), Φ Fplace Fbegin Ftoken Fword Ftold → va_P D vwCl (wW_X8_nextToken ak ad h am Fthrown Ftaped Fsize Fplace Fbegin Ftoken Fword Ftold Fwrong Fcode Fat Fway Fnext FisEnd FisFallen Fwritten Fmade Fstate FhandNext FhandSteps FhandWritten FmarkAt Atape) H → va_D A (wW_X8_nextToken ak ad h am Fthrown Ftaped Fsize Fplace Fbegin Ftoken Fword Ftold Fwrong Fcode Fat Fway Fnext FisEnd FisFallen Fwritten Fmade Fstate FhandNext FhandSteps FhandWritten FmarkAt Atape) → va_S A s.heap H locs → W p l e R s m args below meth c H locs cells slots Q (F0 m 211 ls []))
    (kR321 : ∀ (Fplace : Int32) (Fbegin : Int32) (Ftoken : Int32) (Fword : Int64) (Ftold : Int32) (H : Heap) (locs : List Loc) (ls : Array Slot), Φ Fplace Fbegin Ftoken Fword Ftold → va_P D vwCl (wW_X8_nextToken ak ad h am Fthrown Ftaped Fsize Fplace Fbegin Ftoken Fword Ftold Fwrong Fcode Fat Fway Fnext FisEnd FisFallen Fwritten Fmade Fstate FhandNext FhandSteps FhandWritten FmarkAt Atape) H → va_D A (wW_X8_nextToken ak ad h am Fthrown Ftaped Fsize Fplace Fbegin Ftoken Fword Ftold Fwrong Fcode Fat Fway Fnext FisEnd FisFallen Fwritten Fmade Fstate FhandNext FhandSteps FhandWritten FmarkAt Atape) → va_S A s.heap H locs → W p l e R s m args below meth c H locs cells slots Q (F0 m 321 ls []))
    (kR371 : ∀ (Fplace : Int32) (Fbegin : Int32) (Ftoken : Int32) (Fword : Int64) (Ftold : Int32) (H : Heap) (locs : List Loc) (ls : Array Slot), Φ Fplace Fbegin Ftoken Fword Ftold → va_P D vwCl (wW_X8_nextToken ak ad h am Fthrown Ftaped Fsize Fplace Fbegin Ftoken Fword Ftold Fwrong Fcode Fat Fway Fnext FisEnd FisFallen Fwritten Fmade Fstate FhandNext FhandSteps FhandWritten FmarkAt Atape) H → va_D A (wW_X8_nextToken ak ad h am Fthrown Ftaped Fsize Fplace Fbegin Ftoken Fword Ftold Fwrong Fcode Fat Fway Fnext FisEnd FisFallen Fwritten Fmade Fstate FhandNext FhandSteps FhandWritten FmarkAt Atape) → va_S A s.heap H locs → W p l e R s m args below meth c H locs cells slots Q (F0 m 371 ls []))
    : ∀ (n_ : Nat) (Fplace : Int32) (Fbegin : Int32) (Ftoken : Int32) (Fword : Int64) (Ftold : Int32) (H : Heap) (locs : List Loc) (ls : Array Slot), lf_X8_nextToken_224 Fsize Atape  Φ n_ Fplace Fbegin Ftoken Fword Ftold → va_P D vwCl (wW_X8_nextToken ak ad h am Fthrown Ftaped Fsize Fplace Fbegin Ftoken Fword Ftold Fwrong Fcode Fat Fway Fnext FisEnd FisFallen Fwritten Fmade Fstate FhandNext FhandSteps FhandWritten FmarkAt Atape) H → va_D A (wW_X8_nextToken ak ad h am Fthrown Ftaped Fsize Fplace Fbegin Ftoken Fword Ftold Fwrong Fcode Fat Fway Fnext FisEnd FisFallen Fwritten Fmade Fstate FhandNext FhandSteps FhandWritten FmarkAt Atape) → va_S A s.heap H locs → lv_has ls 2 [(0, .ref h)] → W p l e R s m args below meth c H locs cells slots Q (F0 m 224 ls ([])) := by
  intro n_
  induction n_ with
  | zero =>
    intro Fplace Fbegin Ftoken Fword Ftold H locs ls hw
    exact hw.elim
  | succ n_ ih =>
    intro Fplace Fbegin Ftoken Fword Ftold H locs ls hw hP hD hS hl
    have hw : lb_X8_nextToken_224 Fsize Atape  Φ (lf_X8_nextToken_224 Fsize Atape  Φ n_) Fplace Fbegin Ftoken Fword Ftold := hw
    delta lb_X8_nextToken_224 at hw
    refine lv_aload_n hx hb dX8_nextToken_224 rfl (lv_at hl 0 rfl) ?_
    refine lv_aload_n hx hb dX8_nextToken_225 rfl (lv_at hl 0 rfl) ?_
    refine vt_get (D := D) (ci := 7) (v := .int (Fplace)) (C := RX8) (T := TX8) (N := 69) hx hb hts (fun w h => wm_c (wc_X8 w h)) hown hE.1 hP 0 rfl rfl 4 (by decide) tX8_4 (hts (.fieldLink RX8 165 "WornLinesModel" "place" "I") (wm_c hw_6)) (fun _ h9 => h9) rfl dX8_nextToken_226 ?_
    refine kc_i (wc := (wW_X8_signAt ak ad h am Fthrown Ftaped Fsize Fplace Fbegin Ftoken Fword Ftold Fwrong Fcode Fat Fway Fnext FisEnd FisFallen Fwritten Fmade Fstate FhandNext FhandSteps FhandWritten FmarkAt Atape)) (wr := []) hP hD hS hA [0, 1] [] rfl rfl (by decide) (by decide) (va_runV (As := [.int (Fplace)]) (rest := []) ⟨hx, hb, hml, hown, hts⟩ (c_X8_signAt l D ak ad _ h am Fthrown Ftaped Fsize Fplace Fbegin Ftoken Fword Ftold Fwrong Fcode Fat Fway Fnext FisEnd FisFallen Fwritten Fmade Fstate FhandNext FhandSteps FhandWritten FmarkAt Atape Fplace _ hw) (cwV 1 hts gX8_nextToken_X8_signAt rfl rfl rfl hv_X8_signAt ⟨(Nat.le_trans (Nat.le_of_ble_eq_true rfl) hRf), (Nat.le_trans (Nat.le_of_ble_eq_true rfl) hRl)⟩) (kc_preV (As := [.int (Fplace)]) (wc := (wW_X8_signAt ak ad h am Fthrown Ftaped Fsize Fplace Fbegin Ftoken Fword Ftold Fwrong Fcode Fat Fway Fnext FisEnd FisFallen Fwritten Fmade Fstate FhandNext FhandSteps FhandWritten FmarkAt Atape)) hE hT hP hD hS hA [0, 1] (by decide) rfl rfl 0 7 rfl rfl rfl) rfl rfl hl.1 rfl (lv_room (Nat.le_of_ble_eq_true rfl)) dX8_nextToken_229 ⟨hRc.1, hRc.2⟩) (fun r_13 u_12 H locs hw hP hD hS => ?_)
    try dsimp -zeta only at hw
    have hP : va_P D vwCl (wW_X8_nextToken ak ad h am Fthrown Ftaped Fsize Fplace Fbegin Ftoken Fword Ftold Fwrong Fcode Fat Fway Fnext FisEnd FisFallen Fwritten Fmade Fstate FhandNext FhandSteps FhandWritten FmarkAt Atape) H := hP.sub [0, 1] rfl
    have hD : va_D A (wW_X8_nextToken ak ad h am Fthrown Ftaped Fsize Fplace Fbegin Ftoken Fword Ftold Fwrong Fcode Fat Fway Fnext FisEnd FisFallen Fwritten Fmade Fstate FhandNext FhandSteps FhandWritten FmarkAt Atape) := hD.sub [0, 1] (by decide) rfl
    refine lv_bipush (v := 48) hx hb dX8_nextToken_232 (by decide) ?_
    refine lv_icmp_lt (tgt := 299) hx hb dX8_nextToken_234 (by decide) (fun c_14 => ?_) (fun c_14 => ?_)
    · replace hw := hw.1 c_14
      exact kj_X8_nextToken_299 hx hb hown hts hml hE hT hA hRf hRl hRc h am Fthrown Ftaped Fsize Fwrong Fcode Fat Fway Fnext FisEnd FisFallen Fwritten Fmade Fstate FhandNext FhandSteps FhandWritten FmarkAt Atape  Φ  kR86 kR211 kR321 kR371 Fplace Fbegin Ftoken Fword Ftold _ _ _ hw hP hD hS (lv_sub hl [0] rfl)
    · replace hw := hw.2 c_14
      refine lv_aload_n hx hb dX8_nextToken_237 rfl (lv_at hl 0 rfl) ?_
      refine lv_aload_n hx hb dX8_nextToken_238 rfl (lv_at hl 0 rfl) ?_
      refine vt_get (D := D) (ci := 7) (v := .int (Fplace)) (C := RX8) (T := TX8) (N := 69) hx hb hts (fun w h => wm_c (wc_X8 w h)) hown hE.1 hP 0 rfl rfl 4 (by decide) tX8_4 (hts (.fieldLink RX8 165 "WornLinesModel" "place" "I") (wm_c hw_6)) (fun _ h9 => h9) rfl dX8_nextToken_239 ?_
      refine kc_i (wc := (wW_X8_signAt ak ad h am Fthrown Ftaped Fsize Fplace Fbegin Ftoken Fword Ftold Fwrong Fcode Fat Fway Fnext FisEnd FisFallen Fwritten Fmade Fstate FhandNext FhandSteps FhandWritten FmarkAt Atape)) (wr := []) hP hD hS hA [0, 1] [] rfl rfl (by decide) (by decide) (va_runV (As := [.int (Fplace)]) (rest := []) ⟨hx, hb, hml, hown, hts⟩ (c_X8_signAt l D ak ad _ h am Fthrown Ftaped Fsize Fplace Fbegin Ftoken Fword Ftold Fwrong Fcode Fat Fway Fnext FisEnd FisFallen Fwritten Fmade Fstate FhandNext FhandSteps FhandWritten FmarkAt Atape Fplace _ hw) (cwV 1 hts gX8_nextToken_X8_signAt rfl rfl rfl hv_X8_signAt ⟨(Nat.le_trans (Nat.le_of_ble_eq_true rfl) hRf), (Nat.le_trans (Nat.le_of_ble_eq_true rfl) hRl)⟩) (kc_preV (As := [.int (Fplace)]) (wc := (wW_X8_signAt ak ad h am Fthrown Ftaped Fsize Fplace Fbegin Ftoken Fword Ftold Fwrong Fcode Fat Fway Fnext FisEnd FisFallen Fwritten Fmade Fstate FhandNext FhandSteps FhandWritten FmarkAt Atape)) hE hT hP hD hS hA [0, 1] (by decide) rfl rfl 0 7 rfl rfl rfl) rfl rfl hl.1 rfl (lv_room (Nat.le_of_ble_eq_true rfl)) dX8_nextToken_242 ⟨hRc.1, hRc.2⟩) (fun r_17 u_16 H locs hw hP hD hS => ?_)
      try dsimp -zeta only at hw
      have hP : va_P D vwCl (wW_X8_nextToken ak ad h am Fthrown Ftaped Fsize Fplace Fbegin Ftoken Fword Ftold Fwrong Fcode Fat Fway Fnext FisEnd FisFallen Fwritten Fmade Fstate FhandNext FhandSteps FhandWritten FmarkAt Atape) H := hP.sub [0, 1] rfl
      have hD : va_D A (wW_X8_nextToken ak ad h am Fthrown Ftaped Fsize Fplace Fbegin Ftoken Fword Ftold Fwrong Fcode Fat Fway Fnext FisEnd FisFallen Fwritten Fmade Fstate FhandNext FhandSteps FhandWritten FmarkAt Atape) := hD.sub [0, 1] (by decide) rfl
      refine lv_bipush (v := 57) hx hb dX8_nextToken_245 (by decide) ?_
      refine lv_icmp_gt (tgt := 299) hx hb dX8_nextToken_247 (by decide) (fun c_18 => ?_) (fun c_18 => ?_)
      · replace hw := hw.1 c_18
        exact kj_X8_nextToken_299 hx hb hown hts hml hE hT hA hRf hRl hRc h am Fthrown Ftaped Fsize Fwrong Fcode Fat Fway Fnext FisEnd FisFallen Fwritten Fmade Fstate FhandNext FhandSteps FhandWritten FmarkAt Atape  Φ  kR86 kR211 kR321 kR371 Fplace Fbegin Ftoken Fword Ftold _ _ _ hw hP hD hS (lv_sub hl [0] rfl)
      · replace hw := hw.2 c_18
        refine lv_aload_n hx hb dX8_nextToken_250 rfl (lv_at hl 0 rfl) ?_
        refine vt_get (D := D) (ci := 7) (v := .int (Fplace)) (C := RX8) (T := TX8) (N := 69) hx hb hts (fun w h => wm_c (wc_X8 w h)) hown hE.1 hP 0 rfl rfl 4 (by decide) tX8_4 (hts (.fieldLink RX8 165 "WornLinesModel" "place" "I") (wm_c hw_6)) (fun _ h9 => h9) rfl dX8_nextToken_251 ?_
        refine lv_aload_n hx hb dX8_nextToken_254 rfl (lv_at hl 0 rfl) ?_
        refine vt_get (D := D) (ci := 7) (v := .int (Fbegin)) (C := RX8) (T := TX8) (N := 69) hx hb hts (fun w h => wm_c (wc_X8 w h)) hown hE.1 hP 0 rfl rfl 5 (by decide) tX8_5 (hts (.fieldLink RX8 168 "WornLinesModel" "begin" "I") (wm_c hw_7)) (fun _ h9 => h9) rfl dX8_nextToken_255 ?_
        refine lv_isub hx hb dX8_nextToken_258 ?_
        refine lv_iconst (v := 4) hx hb dX8_nextToken_259 (by decide) ?_
        refine lv_icmp_ge (tgt := 286) hx hb dX8_nextToken_260 (by decide) (fun c_19 => ?_) (fun c_19 => ?_)
        · replace hw := hw.1 c_19
          refine lv_aload_n hx hb dX8_nextToken_286 rfl (lv_at hl 0 rfl) ?_
          refine lv_dup hx hb dX8_nextToken_287 rfl ?_
          refine vt_get (D := D) (ci := 7) (v := .int (Fplace)) (C := RX8) (T := TX8) (N := 69) hx hb hts (fun w h => wm_c (wc_X8 w h)) hown hE.1 hP 0 rfl rfl 4 (by decide) tX8_4 (hts (.fieldLink RX8 165 "WornLinesModel" "place" "I") (wm_c hw_6)) (fun _ h9 => h9) rfl dX8_nextToken_288 ?_
          refine lv_iconst (v := 1) hx hb dX8_nextToken_291 (by decide) ?_
          refine lv_iadd hx hb dX8_nextToken_292 ?_
          refine vt_put (D := D) (ci := 7) (v := .int (Fplace + 1)) (ty := .int) (C := RX8) (T := TX8) (N := 69) hx hb hts (fun w h => wm_c (wc_X8 w h)) tyX8 tyX8_ok nmX8 hown hE.1 hP hD hS 0 rfl rfl 4 (by decide) tX8_4 (hts (.fieldLink RX8 165 "WornLinesModel" "place" "I") (wm_c hw_6)) (fun _ h9 => h9) rfl pf_0 (rfl) rfl (Nat.le_of_ble_eq_true rfl) dX8_nextToken_293 (fun H locs hP hD hS => ?_)
          have hP : va_P D vwCl (wW_X8_nextToken ak ad h am Fthrown Ftaped Fsize (Fplace + 1) Fbegin Ftoken Fword Ftold Fwrong Fcode Fat Fway Fnext FisEnd FisFallen Fwritten Fmade Fstate FhandNext FhandSteps FhandWritten FmarkAt Atape) H := hP
          have hD : va_D A (wW_X8_nextToken ak ad h am Fthrown Ftaped Fsize (Fplace + 1) Fbegin Ftoken Fword Ftold Fwrong Fcode Fat Fway Fnext FisEnd FisFallen Fwritten Fmade Fstate FhandNext FhandSteps FhandWritten FmarkAt Atape) := hD
          refine lv_goto (tgt := 224) hx hb dX8_nextToken_296 (by decide) ?_
          exact ih (Fplace + 1) Fbegin Ftoken Fword Ftold _ _ _ hw hP hD hS (lv_sub hl [0] rfl)
        · replace hw := hw.2 c_19
          refine lv_aload_n hx hb dX8_nextToken_263 rfl (lv_at hl 0 rfl) ?_
          refine lv_aload_n hx hb dX8_nextToken_264 rfl (lv_at hl 0 rfl) ?_
          refine vt_get (D := D) (ci := 7) (v := .int (Ftold)) (C := RX8) (T := TX8) (N := 69) hx hb hts (fun w h => wm_c (wc_X8 w h)) hown hE.1 hP 0 rfl rfl 8 (by decide) tX8_8 (hts (.fieldLink RX8 175 "WornLinesModel" "told" "I") (wm_c hw_8)) (fun _ h9 => h9) rfl dX8_nextToken_265 ?_
          refine lv_bipush (v := 10) hx hb dX8_nextToken_268 (by decide) ?_
          refine lv_imul hx hb dX8_nextToken_270 ?_
          refine lv_aload_n hx hb dX8_nextToken_271 rfl (lv_at hl 0 rfl) ?_
          refine lv_aload_n hx hb dX8_nextToken_272 rfl (lv_at hl 0 rfl) ?_
          refine vt_get (D := D) (ci := 7) (v := .int (Fplace)) (C := RX8) (T := TX8) (N := 69) hx hb hts (fun w h => wm_c (wc_X8 w h)) hown hE.1 hP 0 rfl rfl 4 (by decide) tX8_4 (hts (.fieldLink RX8 165 "WornLinesModel" "place" "I") (wm_c hw_6)) (fun _ h9 => h9) rfl dX8_nextToken_273 ?_
          refine kc_i (wc := (wW_X8_signAt ak ad h am Fthrown Ftaped Fsize Fplace Fbegin Ftoken Fword Ftold Fwrong Fcode Fat Fway Fnext FisEnd FisFallen Fwritten Fmade Fstate FhandNext FhandSteps FhandWritten FmarkAt Atape)) (wr := []) hP hD hS hA [0, 1] [] rfl rfl (by decide) (by decide) (va_runV (As := [.int (Fplace)]) (rest := [.int (Ftold * 10), .ref h]) ⟨hx, hb, hml, hown, hts⟩ (c_X8_signAt l D ak ad _ h am Fthrown Ftaped Fsize Fplace Fbegin Ftoken Fword Ftold Fwrong Fcode Fat Fway Fnext FisEnd FisFallen Fwritten Fmade Fstate FhandNext FhandSteps FhandWritten FmarkAt Atape Fplace _ hw) (cwV 1 hts gX8_nextToken_X8_signAt rfl rfl rfl hv_X8_signAt ⟨(Nat.le_trans (Nat.le_of_ble_eq_true rfl) hRf), (Nat.le_trans (Nat.le_of_ble_eq_true rfl) hRl)⟩) (kc_preV (As := [.int (Fplace)]) (wc := (wW_X8_signAt ak ad h am Fthrown Ftaped Fsize Fplace Fbegin Ftoken Fword Ftold Fwrong Fcode Fat Fway Fnext FisEnd FisFallen Fwritten Fmade Fstate FhandNext FhandSteps FhandWritten FmarkAt Atape)) hE hT hP hD hS hA [0, 1] (by decide) rfl rfl 0 7 rfl rfl rfl) rfl rfl hl.1 rfl (lv_room (Nat.le_of_ble_eq_true rfl)) dX8_nextToken_276 ⟨hRc.1, hRc.2⟩) (fun r_21 u_20 H locs hw hP hD hS => ?_)
          try dsimp -zeta only at hw
          have hP : va_P D vwCl (wW_X8_nextToken ak ad h am Fthrown Ftaped Fsize Fplace Fbegin Ftoken Fword Ftold Fwrong Fcode Fat Fway Fnext FisEnd FisFallen Fwritten Fmade Fstate FhandNext FhandSteps FhandWritten FmarkAt Atape) H := hP.sub [0, 1] rfl
          have hD : va_D A (wW_X8_nextToken ak ad h am Fthrown Ftaped Fsize Fplace Fbegin Ftoken Fword Ftold Fwrong Fcode Fat Fway Fnext FisEnd FisFallen Fwritten Fmade Fstate FhandNext FhandSteps FhandWritten FmarkAt Atape) := hD.sub [0, 1] (by decide) rfl
          refine lv_iadd hx hb dX8_nextToken_279 ?_
          refine lv_bipush (v := 48) hx hb dX8_nextToken_280 (by decide) ?_
          refine lv_isub hx hb dX8_nextToken_282 ?_
          refine vt_put (D := D) (ci := 7) (v := .int (((Ftold * 10) + r_21) - 48)) (ty := .int) (C := RX8) (T := TX8) (N := 69) hx hb hts (fun w h => wm_c (wc_X8 w h)) tyX8 tyX8_ok nmX8 hown hE.1 hP hD hS 0 rfl rfl 8 (by decide) tX8_8 (hts (.fieldLink RX8 175 "WornLinesModel" "told" "I") (wm_c hw_8)) (fun _ h9 => h9) rfl pf_0 (rfl) rfl (Nat.le_of_ble_eq_true rfl) dX8_nextToken_283 (fun H locs hP hD hS => ?_)
          have hP : va_P D vwCl (wW_X8_nextToken ak ad h am Fthrown Ftaped Fsize Fplace Fbegin Ftoken Fword (((Ftold * 10) + r_21) - 48) Fwrong Fcode Fat Fway Fnext FisEnd FisFallen Fwritten Fmade Fstate FhandNext FhandSteps FhandWritten FmarkAt Atape) H := hP
          have hD : va_D A (wW_X8_nextToken ak ad h am Fthrown Ftaped Fsize Fplace Fbegin Ftoken Fword (((Ftold * 10) + r_21) - 48) Fwrong Fcode Fat Fway Fnext FisEnd FisFallen Fwritten Fmade Fstate FhandNext FhandSteps FhandWritten FmarkAt Atape) := hD
          refine lv_aload_n hx hb dX8_nextToken_286 rfl (lv_at hl 0 rfl) ?_
          refine lv_dup hx hb dX8_nextToken_287 rfl ?_
          refine vt_get (D := D) (ci := 7) (v := .int (Fplace)) (C := RX8) (T := TX8) (N := 69) hx hb hts (fun w h => wm_c (wc_X8 w h)) hown hE.1 hP 0 rfl rfl 4 (by decide) tX8_4 (hts (.fieldLink RX8 165 "WornLinesModel" "place" "I") (wm_c hw_6)) (fun _ h9 => h9) rfl dX8_nextToken_288 ?_
          refine lv_iconst (v := 1) hx hb dX8_nextToken_291 (by decide) ?_
          refine lv_iadd hx hb dX8_nextToken_292 ?_
          refine vt_put (D := D) (ci := 7) (v := .int (Fplace + 1)) (ty := .int) (C := RX8) (T := TX8) (N := 69) hx hb hts (fun w h => wm_c (wc_X8 w h)) tyX8 tyX8_ok nmX8 hown hE.1 hP hD hS 0 rfl rfl 4 (by decide) tX8_4 (hts (.fieldLink RX8 165 "WornLinesModel" "place" "I") (wm_c hw_6)) (fun _ h9 => h9) rfl pf_0 (rfl) rfl (Nat.le_of_ble_eq_true rfl) dX8_nextToken_293 (fun H locs hP hD hS => ?_)
          have hP : va_P D vwCl (wW_X8_nextToken ak ad h am Fthrown Ftaped Fsize (Fplace + 1) Fbegin Ftoken Fword (((Ftold * 10) + r_21) - 48) Fwrong Fcode Fat Fway Fnext FisEnd FisFallen Fwritten Fmade Fstate FhandNext FhandSteps FhandWritten FmarkAt Atape) H := hP
          have hD : va_D A (wW_X8_nextToken ak ad h am Fthrown Ftaped Fsize (Fplace + 1) Fbegin Ftoken Fword (((Ftold * 10) + r_21) - 48) Fwrong Fcode Fat Fway Fnext FisEnd FisFallen Fwritten Fmade Fstate FhandNext FhandSteps FhandWritten FmarkAt Atape) := hD
          refine lv_goto (tgt := 224) hx hb dX8_nextToken_296 (by decide) ?_
          exact ih (Fplace + 1) Fbegin Ftoken Fword (((Ftold * 10) + r_21) - 48) _ _ _ hw hP hD hS (lv_sub hl [0] rfl)

def kf_X8_nextToken_212 (Fsize : Int32) (Atape : Nat → Int32)  (Φ : Int32 → Int32 → Int32 → Int64 → Int32 → Prop) (Fplace : Int32) (Fbegin : Int32) (Ftoken : Int32) (Fword : Int64) (Ftold : Int32) (l1 : Int32) : Prop := (l1 < 48 → kf_X8_nextToken_322 Fsize Atape  Φ Fplace Fbegin Ftoken Fword Ftold l1) ∧ (¬ l1 < 48 → (57 < l1 → kf_X8_nextToken_322 Fsize Atape  Φ Fplace Fbegin Ftoken Fword Ftold l1) ∧ (¬ 57 < l1 → (∃ n_, lf_X8_nextToken_224 Fsize Atape  Φ n_ Fplace Fbegin Ftoken Fword Ftold)))
set_option maxHeartbeats 4000000 in
set_option maxRecDepth 100000 in
theorem kj_X8_nextToken_212 {p : Program} {l : Launch} {e : Env} {R : Room} {s : State} {m : MethodId} {args : Array Value} {below : List Frame} {meth : Method} {c : Code} {cells slots : Nat} {Q : State → Prop} {A : Nat → Prop} {D : va_G} {ak : Nat → ClassId} {ad : Nat → Nat} (hx : p.tables.exec = Jvm.exec) (hb : c.code = cX8_nextToken) (hown : s.vm.findClass RX8 = some m.cls) (hts : ∀ w ∈ wsX8_nextToken, w.before args s = true) (hml : c.maxLocals = 2) (hE : EV D ak s) (hT : ST D ak ad A s s.heap) (hA : ∀ q, s.heap.size ≤ q → A q) (hRf : 1 ≤ R.frames) (hRl : 21 ≤ R.locals) (hRc : cells ≤ R.cells ∧ slots ≤ R.slots) (h : Nat) (am : Nat → Nat) (Fthrown : Int32) (Ftaped : Int32) (Fsize : Int32) (Fwrong : Int32) (Fcode : Int32) (Fat : Int32) (Fway : Int32) (Fnext : Int32) (FisEnd : Int32) (FisFallen : Int32) (Fwritten : Int32) (Fmade : Int32) (Fstate : Int32) (FhandNext : Int32) (FhandSteps : Int32) (FhandWritten : Int32) (FmarkAt : Int32) (Atape : Nat → Int32)  (Φ : Int32 → Int32 → Int32 → Int64 → Int32 → Prop)
    (kR86 : ∀ (Fplace : Int32) (Fbegin : Int32) (Ftoken : Int32) (Fword : Int64) (Ftold : Int32) (H : Heap) (locs : List Loc) (ls : Array Slot), Φ Fplace Fbegin Ftoken Fword Ftold → va_P D vwCl (wW_X8_nextToken ak ad h am Fthrown Ftaped Fsize Fplace Fbegin Ftoken Fword Ftold Fwrong Fcode Fat Fway Fnext FisEnd FisFallen Fwritten Fmade Fstate FhandNext FhandSteps FhandWritten FmarkAt Atape) H → va_D A (wW_X8_nextToken ak ad h am Fthrown Ftaped Fsize Fplace Fbegin Ftoken Fword Ftold Fwrong Fcode Fat Fway Fnext FisEnd FisFallen Fwritten Fmade Fstate FhandNext FhandSteps FhandWritten FmarkAt Atape) → va_S A s.heap H locs → W p l e R s m args below meth c H locs cells slots Q (F0 m 86 ls []))
    (kR211 : ∀ (Fplace : Int32) (Fbegin : Int32) (Ftoken : Int32) (Fword : Int64) (Ftold : Int32) (H : Heap) (locs : List Loc) (ls : Array Slot), Φ Fplace Fbegin Ftoken Fword Ftold → va_P D vwCl (wW_X8_nextToken ak ad h am Fthrown Ftaped Fsize Fplace Fbegin Ftoken Fword Ftold Fwrong Fcode Fat Fway Fnext FisEnd FisFallen Fwritten Fmade Fstate FhandNext FhandSteps FhandWritten FmarkAt Atape) H → va_D A (wW_X8_nextToken ak ad h am Fthrown Ftaped Fsize Fplace Fbegin Ftoken Fword Ftold Fwrong Fcode Fat Fway Fnext FisEnd FisFallen Fwritten Fmade Fstate FhandNext FhandSteps FhandWritten FmarkAt Atape) → va_S A s.heap H locs → W p l e R s m args below meth c H locs cells slots Q (F0 m 211 ls []))
    (kR321 : ∀ (Fplace : Int32) (Fbegin : Int32) (Ftoken : Int32) (Fword : Int64) (Ftold : Int32) (H : Heap) (locs : List Loc) (ls : Array Slot), Φ Fplace Fbegin Ftoken Fword Ftold → va_P D vwCl (wW_X8_nextToken ak ad h am Fthrown Ftaped Fsize Fplace Fbegin Ftoken Fword Ftold Fwrong Fcode Fat Fway Fnext FisEnd FisFallen Fwritten Fmade Fstate FhandNext FhandSteps FhandWritten FmarkAt Atape) H → va_D A (wW_X8_nextToken ak ad h am Fthrown Ftaped Fsize Fplace Fbegin Ftoken Fword Ftold Fwrong Fcode Fat Fway Fnext FisEnd FisFallen Fwritten Fmade Fstate FhandNext FhandSteps FhandWritten FmarkAt Atape) → va_S A s.heap H locs → W p l e R s m args below meth c H locs cells slots Q (F0 m 321 ls []))
    (kR371 : ∀ (Fplace : Int32) (Fbegin : Int32) (Ftoken : Int32) (Fword : Int64) (Ftold : Int32) (H : Heap) (locs : List Loc) (ls : Array Slot), Φ Fplace Fbegin Ftoken Fword Ftold → va_P D vwCl (wW_X8_nextToken ak ad h am Fthrown Ftaped Fsize Fplace Fbegin Ftoken Fword Ftold Fwrong Fcode Fat Fway Fnext FisEnd FisFallen Fwritten Fmade Fstate FhandNext FhandSteps FhandWritten FmarkAt Atape) H → va_D A (wW_X8_nextToken ak ad h am Fthrown Ftaped Fsize Fplace Fbegin Ftoken Fword Ftold Fwrong Fcode Fat Fway Fnext FisEnd FisFallen Fwritten Fmade Fstate FhandNext FhandSteps FhandWritten FmarkAt Atape) → va_S A s.heap H locs → W p l e R s m args below meth c H locs cells slots Q (F0 m 371 ls []))
    : ∀ (Fplace : Int32) (Fbegin : Int32) (Ftoken : Int32) (Fword : Int64) (Ftold : Int32) (l1 : Int32) (H : Heap) (locs : List Loc) (ls : Array Slot), kf_X8_nextToken_212 Fsize Atape  Φ Fplace Fbegin Ftoken Fword Ftold l1 → va_P D vwCl (wW_X8_nextToken ak ad h am Fthrown Ftaped Fsize Fplace Fbegin Ftoken Fword Ftold Fwrong Fcode Fat Fway Fnext FisEnd FisFallen Fwritten Fmade Fstate FhandNext FhandSteps FhandWritten FmarkAt Atape) H → va_D A (wW_X8_nextToken ak ad h am Fthrown Ftaped Fsize Fplace Fbegin Ftoken Fword Ftold Fwrong Fcode Fat Fway Fnext FisEnd FisFallen Fwritten Fmade Fstate FhandNext FhandSteps FhandWritten FmarkAt Atape) → va_S A s.heap H locs → lv_has ls 2 [(0, .ref h), (1, .int (l1))] → W p l e R s m args below meth c H locs cells slots Q (F0 m 212 ls ([])) := by
  intro Fplace Fbegin Ftoken Fword Ftold l1 H locs ls hw hP hD hS hl
  delta kf_X8_nextToken_212 at hw
  refine lv_iload_n hx hb dX8_nextToken_212 rfl (lv_at hl 1 rfl) ?_
  refine lv_bipush (v := 48) hx hb dX8_nextToken_213 (by decide) ?_
  refine lv_icmp_lt (tgt := 322) hx hb dX8_nextToken_215 (by decide) (fun c_5 => ?_) (fun c_5 => ?_)
  · replace hw := hw.1 c_5
    exact kj_X8_nextToken_322 hx hb hown hts hml hE hT hA hRf hRl hRc h am Fthrown Ftaped Fsize Fwrong Fcode Fat Fway Fnext FisEnd FisFallen Fwritten Fmade Fstate FhandNext FhandSteps FhandWritten FmarkAt Atape  Φ  kR86 kR211 kR321 kR371 Fplace Fbegin Ftoken Fword Ftold l1 _ _ _ hw hP hD hS (lv_sub hl [0, 1] rfl)
  · replace hw := hw.2 c_5
    refine lv_iload_n hx hb dX8_nextToken_218 rfl (lv_at hl 1 rfl) ?_
    refine lv_bipush (v := 57) hx hb dX8_nextToken_219 (by decide) ?_
    refine lv_icmp_gt (tgt := 322) hx hb dX8_nextToken_221 (by decide) (fun c_11 => ?_) (fun c_11 => ?_)
    · replace hw := hw.1 c_11
      exact kj_X8_nextToken_322 hx hb hown hts hml hE hT hA hRf hRl hRc h am Fthrown Ftaped Fsize Fwrong Fcode Fat Fway Fnext FisEnd FisFallen Fwritten Fmade Fstate FhandNext FhandSteps FhandWritten FmarkAt Atape  Φ  kR86 kR211 kR321 kR371 Fplace Fbegin Ftoken Fword Ftold l1 _ _ _ hw hP hD hS (lv_sub hl [0, 1] rfl)
    · replace hw := hw.2 c_11
      obtain ⟨n1_, hw⟩ := hw
      exact lp_X8_nextToken_224 hx hb hown hts hml hE hT hA hRf hRl hRc h am Fthrown Ftaped Fsize Fwrong Fcode Fat Fway Fnext FisEnd FisFallen Fwritten Fmade Fstate FhandNext FhandSteps FhandWritten FmarkAt Atape  Φ  kR86 kR211 kR321 kR371 n1_ Fplace Fbegin Ftoken Fword Ftold _ _ _ hw hP hD hS (lv_sub hl [0] rfl)

def kf_X8_nextToken_188 (Fsize : Int32) (Atape : Nat → Int32)  (Φ : Int32 → Int32 → Int32 → Int64 → Int32 → Prop) (Fplace : Int32) (Fbegin : Int32) (Ftoken : Int32) (Fword : Int64) (Ftold : Int32) : Prop := ((Fplace - Fbegin) ≤ 8 → Φ Fplace Fbegin 1 Fword Ftold) ∧ (¬ (Fplace - Fbegin) ≤ 8 → Φ Fplace Fbegin 4 Fword Ftold)
set_option maxHeartbeats 4000000 in
set_option maxRecDepth 100000 in
theorem kj_X8_nextToken_188 {p : Program} {l : Launch} {e : Env} {R : Room} {s : State} {m : MethodId} {args : Array Value} {below : List Frame} {meth : Method} {c : Code} {cells slots : Nat} {Q : State → Prop} {A : Nat → Prop} {D : va_G} {ak : Nat → ClassId} {ad : Nat → Nat} (hx : p.tables.exec = Jvm.exec) (hb : c.code = cX8_nextToken) (hown : s.vm.findClass RX8 = some m.cls) (hts : ∀ w ∈ wsX8_nextToken, w.before args s = true) (hml : c.maxLocals = 2) (hE : EV D ak s) (hT : ST D ak ad A s s.heap) (hA : ∀ q, s.heap.size ≤ q → A q) (hRf : 1 ≤ R.frames) (hRl : 21 ≤ R.locals) (hRc : cells ≤ R.cells ∧ slots ≤ R.slots) (h : Nat) (am : Nat → Nat) (Fthrown : Int32) (Ftaped : Int32) (Fsize : Int32) (Fwrong : Int32) (Fcode : Int32) (Fat : Int32) (Fway : Int32) (Fnext : Int32) (FisEnd : Int32) (FisFallen : Int32) (Fwritten : Int32) (Fmade : Int32) (Fstate : Int32) (FhandNext : Int32) (FhandSteps : Int32) (FhandWritten : Int32) (FmarkAt : Int32) (Atape : Nat → Int32)  (Φ : Int32 → Int32 → Int32 → Int64 → Int32 → Prop)
    (kR86 : ∀ (Fplace : Int32) (Fbegin : Int32) (Ftoken : Int32) (Fword : Int64) (Ftold : Int32) (H : Heap) (locs : List Loc) (ls : Array Slot), Φ Fplace Fbegin Ftoken Fword Ftold → va_P D vwCl (wW_X8_nextToken ak ad h am Fthrown Ftaped Fsize Fplace Fbegin Ftoken Fword Ftold Fwrong Fcode Fat Fway Fnext FisEnd FisFallen Fwritten Fmade Fstate FhandNext FhandSteps FhandWritten FmarkAt Atape) H → va_D A (wW_X8_nextToken ak ad h am Fthrown Ftaped Fsize Fplace Fbegin Ftoken Fword Ftold Fwrong Fcode Fat Fway Fnext FisEnd FisFallen Fwritten Fmade Fstate FhandNext FhandSteps FhandWritten FmarkAt Atape) → va_S A s.heap H locs → W p l e R s m args below meth c H locs cells slots Q (F0 m 86 ls []))
    (kR211 : ∀ (Fplace : Int32) (Fbegin : Int32) (Ftoken : Int32) (Fword : Int64) (Ftold : Int32) (H : Heap) (locs : List Loc) (ls : Array Slot), Φ Fplace Fbegin Ftoken Fword Ftold → va_P D vwCl (wW_X8_nextToken ak ad h am Fthrown Ftaped Fsize Fplace Fbegin Ftoken Fword Ftold Fwrong Fcode Fat Fway Fnext FisEnd FisFallen Fwritten Fmade Fstate FhandNext FhandSteps FhandWritten FmarkAt Atape) H → va_D A (wW_X8_nextToken ak ad h am Fthrown Ftaped Fsize Fplace Fbegin Ftoken Fword Ftold Fwrong Fcode Fat Fway Fnext FisEnd FisFallen Fwritten Fmade Fstate FhandNext FhandSteps FhandWritten FmarkAt Atape) → va_S A s.heap H locs → W p l e R s m args below meth c H locs cells slots Q (F0 m 211 ls []))
    (kR321 : ∀ (Fplace : Int32) (Fbegin : Int32) (Ftoken : Int32) (Fword : Int64) (Ftold : Int32) (H : Heap) (locs : List Loc) (ls : Array Slot), Φ Fplace Fbegin Ftoken Fword Ftold → va_P D vwCl (wW_X8_nextToken ak ad h am Fthrown Ftaped Fsize Fplace Fbegin Ftoken Fword Ftold Fwrong Fcode Fat Fway Fnext FisEnd FisFallen Fwritten Fmade Fstate FhandNext FhandSteps FhandWritten FmarkAt Atape) H → va_D A (wW_X8_nextToken ak ad h am Fthrown Ftaped Fsize Fplace Fbegin Ftoken Fword Ftold Fwrong Fcode Fat Fway Fnext FisEnd FisFallen Fwritten Fmade Fstate FhandNext FhandSteps FhandWritten FmarkAt Atape) → va_S A s.heap H locs → W p l e R s m args below meth c H locs cells slots Q (F0 m 321 ls []))
    (kR371 : ∀ (Fplace : Int32) (Fbegin : Int32) (Ftoken : Int32) (Fword : Int64) (Ftold : Int32) (H : Heap) (locs : List Loc) (ls : Array Slot), Φ Fplace Fbegin Ftoken Fword Ftold → va_P D vwCl (wW_X8_nextToken ak ad h am Fthrown Ftaped Fsize Fplace Fbegin Ftoken Fword Ftold Fwrong Fcode Fat Fway Fnext FisEnd FisFallen Fwritten Fmade Fstate FhandNext FhandSteps FhandWritten FmarkAt Atape) H → va_D A (wW_X8_nextToken ak ad h am Fthrown Ftaped Fsize Fplace Fbegin Ftoken Fword Ftold Fwrong Fcode Fat Fway Fnext FisEnd FisFallen Fwritten Fmade Fstate FhandNext FhandSteps FhandWritten FmarkAt Atape) → va_S A s.heap H locs → W p l e R s m args below meth c H locs cells slots Q (F0 m 371 ls []))
    : ∀ (Fplace : Int32) (Fbegin : Int32) (Ftoken : Int32) (Fword : Int64) (Ftold : Int32) (H : Heap) (locs : List Loc) (ls : Array Slot), kf_X8_nextToken_188 Fsize Atape  Φ Fplace Fbegin Ftoken Fword Ftold → va_P D vwCl (wW_X8_nextToken ak ad h am Fthrown Ftaped Fsize Fplace Fbegin Ftoken Fword Ftold Fwrong Fcode Fat Fway Fnext FisEnd FisFallen Fwritten Fmade Fstate FhandNext FhandSteps FhandWritten FmarkAt Atape) H → va_D A (wW_X8_nextToken ak ad h am Fthrown Ftaped Fsize Fplace Fbegin Ftoken Fword Ftold Fwrong Fcode Fat Fway Fnext FisEnd FisFallen Fwritten Fmade Fstate FhandNext FhandSteps FhandWritten FmarkAt Atape) → va_S A s.heap H locs → lv_has ls 2 [(0, .ref h)] → W p l e R s m args below meth c H locs cells slots Q (F0 m 188 ls ([])) := by
  intro Fplace Fbegin Ftoken Fword Ftold H locs ls hw hP hD hS hl
  delta kf_X8_nextToken_188 at hw
  refine lv_aload_n hx hb dX8_nextToken_188 rfl (lv_at hl 0 rfl) ?_
  refine lv_aload_n hx hb dX8_nextToken_189 rfl (lv_at hl 0 rfl) ?_
  refine vt_get (D := D) (ci := 7) (v := .int (Fplace)) (C := RX8) (T := TX8) (N := 69) hx hb hts (fun w h => wm_c (wc_X8 w h)) hown hE.1 hP 0 rfl rfl 4 (by decide) tX8_4 (hts (.fieldLink RX8 165 "WornLinesModel" "place" "I") (wm_c hw_6)) (fun _ h9 => h9) rfl dX8_nextToken_190 ?_
  refine lv_aload_n hx hb dX8_nextToken_193 rfl (lv_at hl 0 rfl) ?_
  refine vt_get (D := D) (ci := 7) (v := .int (Fbegin)) (C := RX8) (T := TX8) (N := 69) hx hb hts (fun w h => wm_c (wc_X8 w h)) hown hE.1 hP 0 rfl rfl 5 (by decide) tX8_5 (hts (.fieldLink RX8 168 "WornLinesModel" "begin" "I") (wm_c hw_7)) (fun _ h9 => h9) rfl dX8_nextToken_194 ?_
  refine lv_isub hx hb dX8_nextToken_197 ?_
  refine lv_bipush (v := 8) hx hb dX8_nextToken_198 (by decide) ?_
  refine lv_icmp_le (tgt := 207) hx hb dX8_nextToken_200 (by decide) (fun c_26 => ?_) (fun c_26 => ?_)
  · replace hw := hw.1 c_26
    refine lv_iconst (v := 1) hx hb dX8_nextToken_207 (by decide) ?_
    refine vt_put (D := D) (ci := 7) (v := .int (1)) (ty := .int) (C := RX8) (T := TX8) (N := 69) hx hb hts (fun w h => wm_c (wc_X8 w h)) tyX8 tyX8_ok nmX8 hown hE.1 hP hD hS 0 rfl rfl 6 (by decide) tX8_6 (hts (.fieldLink RX8 178 "WornLinesModel" "token" "I") (wm_c hw_5)) (fun _ h9 => h9) rfl pf_0 (rfl) rfl (Nat.le_of_ble_eq_true rfl) dX8_nextToken_208 (fun H locs hP hD hS => ?_)
    have hP : va_P D vwCl (wW_X8_nextToken ak ad h am Fthrown Ftaped Fsize Fplace Fbegin 1 Fword Ftold Fwrong Fcode Fat Fway Fnext FisEnd FisFallen Fwritten Fmade Fstate FhandNext FhandSteps FhandWritten FmarkAt Atape) H := hP
    have hD : va_D A (wW_X8_nextToken ak ad h am Fthrown Ftaped Fsize Fplace Fbegin 1 Fword Ftold Fwrong Fcode Fat Fway Fnext FisEnd FisFallen Fwritten Fmade Fstate FhandNext FhandSteps FhandWritten FmarkAt Atape) := hD
    exact kR211 Fplace Fbegin 1 Fword Ftold _ _ _ hw hP hD hS
  · replace hw := hw.2 c_26
    refine lv_iconst (v := 4) hx hb dX8_nextToken_203 (by decide) ?_
    refine lv_goto (tgt := 208) hx hb dX8_nextToken_204 (by decide) ?_
    refine vt_put (D := D) (ci := 7) (v := .int (4)) (ty := .int) (C := RX8) (T := TX8) (N := 69) hx hb hts (fun w h => wm_c (wc_X8 w h)) tyX8 tyX8_ok nmX8 hown hE.1 hP hD hS 0 rfl rfl 6 (by decide) tX8_6 (hts (.fieldLink RX8 178 "WornLinesModel" "token" "I") (wm_c hw_5)) (fun _ h9 => h9) rfl pf_0 (rfl) rfl (Nat.le_of_ble_eq_true rfl) dX8_nextToken_208 (fun H locs hP hD hS => ?_)
    have hP : va_P D vwCl (wW_X8_nextToken ak ad h am Fthrown Ftaped Fsize Fplace Fbegin 4 Fword Ftold Fwrong Fcode Fat Fway Fnext FisEnd FisFallen Fwritten Fmade Fstate FhandNext FhandSteps FhandWritten FmarkAt Atape) H := hP
    have hD : va_D A (wW_X8_nextToken ak ad h am Fthrown Ftaped Fsize Fplace Fbegin 4 Fword Ftold Fwrong Fcode Fat Fway Fnext FisEnd FisFallen Fwritten Fmade Fstate FhandNext FhandSteps FhandWritten FmarkAt Atape) := hD
    exact kR211 Fplace Fbegin 4 Fword Ftold _ _ _ hw hP hD hS

def lb_X8_nextToken_109 (Fsize : Int32) (Atape : Nat → Int32)  (Φ : Int32 → Int32 → Int32 → Int64 → Int32 → Prop) (back : Int32 → Int32 → Int32 → Int64 → Int32 → Prop) (Fplace : Int32) (Fbegin : Int32) (Ftoken : Int32) (Fword : Int64) (Ftold : Int32) : Prop := wp_X8_signAt Fsize Atape Fplace (fun r_24 => (r_24 < 97 → kf_X8_nextToken_188 Fsize Atape  Φ Fplace Fbegin Ftoken Fword Ftold) ∧ (¬ r_24 < 97 → wp_X8_signAt Fsize Atape Fplace (fun r_28 => (122 < r_28 → kf_X8_nextToken_188 Fsize Atape  Φ Fplace Fbegin Ftoken Fword Ftold) ∧ (¬ 122 < r_28 → (8 ≤ (Fplace - Fbegin) → back (Fplace + 1) Fbegin Ftoken Fword Ftold) ∧ (¬ 8 ≤ (Fplace - Fbegin) → wp_X8_signAt Fsize Atape Fplace (fun r_32 => back (Fplace + 1) Fbegin Ftoken (((Fword * 27) + r_32.toInt64) - 96) Ftold))))))
def lf_X8_nextToken_109 (Fsize : Int32) (Atape : Nat → Int32)  (Φ : Int32 → Int32 → Int32 → Int64 → Int32 → Prop) : Nat → Int32 → Int32 → Int32 → Int64 → Int32 → Prop
  | 0, _, _, _, _, _ => False
  | n_ + 1, Fplace, Fbegin, Ftoken, Fword, Ftold => lb_X8_nextToken_109 Fsize Atape  Φ (lf_X8_nextToken_109 Fsize Atape  Φ n_) Fplace Fbegin Ftoken Fword Ftold
theorem li_X8_nextToken_109 (Fsize : Int32) (Atape : Nat → Int32)  (Φ : Int32 → Int32 → Int32 → Int64 → Int32 → Prop) (Inv : Int32 → Int32 → Int32 → Int64 → Int32 → Prop) (mu : Int32 → Int32 → Int32 → Int64 → Int32 → Nat) (hs : ∀ (back : Int32 → Int32 → Int32 → Int64 → Int32 → Prop) (Fplace : Int32) (Fbegin : Int32) (Ftoken : Int32) (Fword : Int64) (Ftold : Int32), Inv Fplace Fbegin Ftoken Fword Ftold → (∀ (Fplace' : Int32) (Fbegin' : Int32) (Ftoken' : Int32) (Fword' : Int64) (Ftold' : Int32), Inv Fplace' Fbegin' Ftoken' Fword' Ftold' → mu Fplace' Fbegin' Ftoken' Fword' Ftold' < mu Fplace Fbegin Ftoken Fword Ftold → back Fplace' Fbegin' Ftoken' Fword' Ftold') → lb_X8_nextToken_109 Fsize Atape  Φ back Fplace Fbegin Ftoken Fword Ftold) : ∀ (n_ : Nat) (Fplace : Int32) (Fbegin : Int32) (Ftoken : Int32) (Fword : Int64) (Ftold : Int32), Inv Fplace Fbegin Ftoken Fword Ftold → mu Fplace Fbegin Ftoken Fword Ftold < n_ → lf_X8_nextToken_109 Fsize Atape  Φ n_ Fplace Fbegin Ftoken Fword Ftold := by
  intro n_
  induction n_ with
  | zero => intro Fplace Fbegin Ftoken Fword Ftold _ h; exact absurd h (Nat.not_lt_zero _)
  | succ n_ ih => intro Fplace Fbegin Ftoken Fword Ftold hI hm; exact hs _ Fplace Fbegin Ftoken Fword Ftold hI (fun Fplace' Fbegin' Ftoken' Fword' Ftold' h1 h2 => ih Fplace' Fbegin' Ftoken' Fword' Ftold' h1 (by omega))
set_option maxHeartbeats 4000000 in
set_option maxRecDepth 100000 in
theorem lp_X8_nextToken_109 {p : Program} {l : Launch} {e : Env} {R : Room} {s : State} {m : MethodId} {args : Array Value} {below : List Frame} {meth : Method} {c : Code} {cells slots : Nat} {Q : State → Prop} {A : Nat → Prop} {D : va_G} {ak : Nat → ClassId} {ad : Nat → Nat} (hx : p.tables.exec = Jvm.exec) (hb : c.code = cX8_nextToken) (hown : s.vm.findClass RX8 = some m.cls) (hts : ∀ w ∈ wsX8_nextToken, w.before args s = true) (hml : c.maxLocals = 2) (hE : EV D ak s) (hT : ST D ak ad A s s.heap) (hA : ∀ q, s.heap.size ≤ q → A q) (hRf : 1 ≤ R.frames) (hRl : 21 ≤ R.locals) (hRc : cells ≤ R.cells ∧ slots ≤ R.slots) (h : Nat) (am : Nat → Nat) (Fthrown : Int32) (Ftaped : Int32) (Fsize : Int32) (Fwrong : Int32) (Fcode : Int32) (Fat : Int32) (Fway : Int32) (Fnext : Int32) (FisEnd : Int32) (FisFallen : Int32) (Fwritten : Int32) (Fmade : Int32) (Fstate : Int32) (FhandNext : Int32) (FhandSteps : Int32) (FhandWritten : Int32) (FmarkAt : Int32) (Atape : Nat → Int32)  (Φ : Int32 → Int32 → Int32 → Int64 → Int32 → Prop)
    (kR86 : ∀ (Fplace : Int32) (Fbegin : Int32) (Ftoken : Int32) (Fword : Int64) (Ftold : Int32) (H : Heap) (locs : List Loc) (ls : Array Slot), Φ Fplace Fbegin Ftoken Fword Ftold → va_P D vwCl (wW_X8_nextToken ak ad h am Fthrown Ftaped Fsize Fplace Fbegin Ftoken Fword Ftold Fwrong Fcode Fat Fway Fnext FisEnd FisFallen Fwritten Fmade Fstate FhandNext FhandSteps FhandWritten FmarkAt Atape) H → va_D A (wW_X8_nextToken ak ad h am Fthrown Ftaped Fsize Fplace Fbegin Ftoken Fword Ftold Fwrong Fcode Fat Fway Fnext FisEnd FisFallen Fwritten Fmade Fstate FhandNext FhandSteps FhandWritten FmarkAt Atape) → va_S A s.heap H locs → W p l e R s m args below meth c H locs cells slots Q (F0 m 86 ls []))
    (kR211 : ∀ (Fplace : Int32) (Fbegin : Int32) (Ftoken : Int32) (Fword : Int64) (Ftold : Int32) (H : Heap) (locs : List Loc) (ls : Array Slot), Φ Fplace Fbegin Ftoken Fword Ftold → va_P D vwCl (wW_X8_nextToken ak ad h am Fthrown Ftaped Fsize Fplace Fbegin Ftoken Fword Ftold Fwrong Fcode Fat Fway Fnext FisEnd FisFallen Fwritten Fmade Fstate FhandNext FhandSteps FhandWritten FmarkAt Atape) H → va_D A (wW_X8_nextToken ak ad h am Fthrown Ftaped Fsize Fplace Fbegin Ftoken Fword Ftold Fwrong Fcode Fat Fway Fnext FisEnd FisFallen Fwritten Fmade Fstate FhandNext FhandSteps FhandWritten FmarkAt Atape) → va_S A s.heap H locs → W p l e R s m args below meth c H locs cells slots Q (F0 m 211 ls []))
    (kR321 : ∀ (Fplace : Int32) (Fbegin : Int32) (Ftoken : Int32) (Fword : Int64) (Ftold : Int32) (H : Heap) (locs : List Loc) (ls : Array Slot), Φ Fplace Fbegin Ftoken Fword Ftold → va_P D vwCl (wW_X8_nextToken ak ad h am Fthrown Ftaped Fsize Fplace Fbegin Ftoken Fword Ftold Fwrong Fcode Fat Fway Fnext FisEnd FisFallen Fwritten Fmade Fstate FhandNext FhandSteps FhandWritten FmarkAt Atape) H → va_D A (wW_X8_nextToken ak ad h am Fthrown Ftaped Fsize Fplace Fbegin Ftoken Fword Ftold Fwrong Fcode Fat Fway Fnext FisEnd FisFallen Fwritten Fmade Fstate FhandNext FhandSteps FhandWritten FmarkAt Atape) → va_S A s.heap H locs → W p l e R s m args below meth c H locs cells slots Q (F0 m 321 ls []))
    (kR371 : ∀ (Fplace : Int32) (Fbegin : Int32) (Ftoken : Int32) (Fword : Int64) (Ftold : Int32) (H : Heap) (locs : List Loc) (ls : Array Slot), Φ Fplace Fbegin Ftoken Fword Ftold → va_P D vwCl (wW_X8_nextToken ak ad h am Fthrown Ftaped Fsize Fplace Fbegin Ftoken Fword Ftold Fwrong Fcode Fat Fway Fnext FisEnd FisFallen Fwritten Fmade Fstate FhandNext FhandSteps FhandWritten FmarkAt Atape) H → va_D A (wW_X8_nextToken ak ad h am Fthrown Ftaped Fsize Fplace Fbegin Ftoken Fword Ftold Fwrong Fcode Fat Fway Fnext FisEnd FisFallen Fwritten Fmade Fstate FhandNext FhandSteps FhandWritten FmarkAt Atape) → va_S A s.heap H locs → W p l e R s m args below meth c H locs cells slots Q (F0 m 371 ls []))
    : ∀ (n_ : Nat) (Fplace : Int32) (Fbegin : Int32) (Ftoken : Int32) (Fword : Int64) (Ftold : Int32) (H : Heap) (locs : List Loc) (ls : Array Slot), lf_X8_nextToken_109 Fsize Atape  Φ n_ Fplace Fbegin Ftoken Fword Ftold → va_P D vwCl (wW_X8_nextToken ak ad h am Fthrown Ftaped Fsize Fplace Fbegin Ftoken Fword Ftold Fwrong Fcode Fat Fway Fnext FisEnd FisFallen Fwritten Fmade Fstate FhandNext FhandSteps FhandWritten FmarkAt Atape) H → va_D A (wW_X8_nextToken ak ad h am Fthrown Ftaped Fsize Fplace Fbegin Ftoken Fword Ftold Fwrong Fcode Fat Fway Fnext FisEnd FisFallen Fwritten Fmade Fstate FhandNext FhandSteps FhandWritten FmarkAt Atape) → va_S A s.heap H locs → lv_has ls 2 [(0, .ref h)] → W p l e R s m args below meth c H locs cells slots Q (F0 m 109 ls ([])) := by
  intro n_
  induction n_ with
  | zero =>
    intro Fplace Fbegin Ftoken Fword Ftold H locs ls hw
    exact hw.elim
  | succ n_ ih =>
    intro Fplace Fbegin Ftoken Fword Ftold H locs ls hw hP hD hS hl
    have hw : lb_X8_nextToken_109 Fsize Atape  Φ (lf_X8_nextToken_109 Fsize Atape  Φ n_) Fplace Fbegin Ftoken Fword Ftold := hw
    delta lb_X8_nextToken_109 at hw
    refine lv_aload_n hx hb dX8_nextToken_109 rfl (lv_at hl 0 rfl) ?_
    refine lv_aload_n hx hb dX8_nextToken_110 rfl (lv_at hl 0 rfl) ?_
    refine vt_get (D := D) (ci := 7) (v := .int (Fplace)) (C := RX8) (T := TX8) (N := 69) hx hb hts (fun w h => wm_c (wc_X8 w h)) hown hE.1 hP 0 rfl rfl 4 (by decide) tX8_4 (hts (.fieldLink RX8 165 "WornLinesModel" "place" "I") (wm_c hw_6)) (fun _ h9 => h9) rfl dX8_nextToken_111 ?_
    refine kc_i (wc := (wW_X8_signAt ak ad h am Fthrown Ftaped Fsize Fplace Fbegin Ftoken Fword Ftold Fwrong Fcode Fat Fway Fnext FisEnd FisFallen Fwritten Fmade Fstate FhandNext FhandSteps FhandWritten FmarkAt Atape)) (wr := []) hP hD hS hA [0, 1] [] rfl rfl (by decide) (by decide) (va_runV (As := [.int (Fplace)]) (rest := []) ⟨hx, hb, hml, hown, hts⟩ (c_X8_signAt l D ak ad _ h am Fthrown Ftaped Fsize Fplace Fbegin Ftoken Fword Ftold Fwrong Fcode Fat Fway Fnext FisEnd FisFallen Fwritten Fmade Fstate FhandNext FhandSteps FhandWritten FmarkAt Atape Fplace _ hw) (cwV 1 hts gX8_nextToken_X8_signAt rfl rfl rfl hv_X8_signAt ⟨(Nat.le_trans (Nat.le_of_ble_eq_true rfl) hRf), (Nat.le_trans (Nat.le_of_ble_eq_true rfl) hRl)⟩) (kc_preV (As := [.int (Fplace)]) (wc := (wW_X8_signAt ak ad h am Fthrown Ftaped Fsize Fplace Fbegin Ftoken Fword Ftold Fwrong Fcode Fat Fway Fnext FisEnd FisFallen Fwritten Fmade Fstate FhandNext FhandSteps FhandWritten FmarkAt Atape)) hE hT hP hD hS hA [0, 1] (by decide) rfl rfl 0 7 rfl rfl rfl) rfl rfl hl.1 rfl (lv_room (Nat.le_of_ble_eq_true rfl)) dX8_nextToken_114 ⟨hRc.1, hRc.2⟩) (fun r_24 u_23 H locs hw hP hD hS => ?_)
    try dsimp -zeta only at hw
    have hP : va_P D vwCl (wW_X8_nextToken ak ad h am Fthrown Ftaped Fsize Fplace Fbegin Ftoken Fword Ftold Fwrong Fcode Fat Fway Fnext FisEnd FisFallen Fwritten Fmade Fstate FhandNext FhandSteps FhandWritten FmarkAt Atape) H := hP.sub [0, 1] rfl
    have hD : va_D A (wW_X8_nextToken ak ad h am Fthrown Ftaped Fsize Fplace Fbegin Ftoken Fword Ftold Fwrong Fcode Fat Fway Fnext FisEnd FisFallen Fwritten Fmade Fstate FhandNext FhandSteps FhandWritten FmarkAt Atape) := hD.sub [0, 1] (by decide) rfl
    refine lv_bipush (v := 97) hx hb dX8_nextToken_117 (by decide) ?_
    refine lv_icmp_lt (tgt := 188) hx hb dX8_nextToken_119 (by decide) (fun c_25 => ?_) (fun c_25 => ?_)
    · replace hw := hw.1 c_25
      exact kj_X8_nextToken_188 hx hb hown hts hml hE hT hA hRf hRl hRc h am Fthrown Ftaped Fsize Fwrong Fcode Fat Fway Fnext FisEnd FisFallen Fwritten Fmade Fstate FhandNext FhandSteps FhandWritten FmarkAt Atape  Φ  kR86 kR211 kR321 kR371 Fplace Fbegin Ftoken Fword Ftold _ _ _ hw hP hD hS (lv_sub hl [0] rfl)
    · replace hw := hw.2 c_25
      refine lv_aload_n hx hb dX8_nextToken_122 rfl (lv_at hl 0 rfl) ?_
      refine lv_aload_n hx hb dX8_nextToken_123 rfl (lv_at hl 0 rfl) ?_
      refine vt_get (D := D) (ci := 7) (v := .int (Fplace)) (C := RX8) (T := TX8) (N := 69) hx hb hts (fun w h => wm_c (wc_X8 w h)) hown hE.1 hP 0 rfl rfl 4 (by decide) tX8_4 (hts (.fieldLink RX8 165 "WornLinesModel" "place" "I") (wm_c hw_6)) (fun _ h9 => h9) rfl dX8_nextToken_124 ?_
      refine kc_i (wc := (wW_X8_signAt ak ad h am Fthrown Ftaped Fsize Fplace Fbegin Ftoken Fword Ftold Fwrong Fcode Fat Fway Fnext FisEnd FisFallen Fwritten Fmade Fstate FhandNext FhandSteps FhandWritten FmarkAt Atape)) (wr := []) hP hD hS hA [0, 1] [] rfl rfl (by decide) (by decide) (va_runV (As := [.int (Fplace)]) (rest := []) ⟨hx, hb, hml, hown, hts⟩ (c_X8_signAt l D ak ad _ h am Fthrown Ftaped Fsize Fplace Fbegin Ftoken Fword Ftold Fwrong Fcode Fat Fway Fnext FisEnd FisFallen Fwritten Fmade Fstate FhandNext FhandSteps FhandWritten FmarkAt Atape Fplace _ hw) (cwV 1 hts gX8_nextToken_X8_signAt rfl rfl rfl hv_X8_signAt ⟨(Nat.le_trans (Nat.le_of_ble_eq_true rfl) hRf), (Nat.le_trans (Nat.le_of_ble_eq_true rfl) hRl)⟩) (kc_preV (As := [.int (Fplace)]) (wc := (wW_X8_signAt ak ad h am Fthrown Ftaped Fsize Fplace Fbegin Ftoken Fword Ftold Fwrong Fcode Fat Fway Fnext FisEnd FisFallen Fwritten Fmade Fstate FhandNext FhandSteps FhandWritten FmarkAt Atape)) hE hT hP hD hS hA [0, 1] (by decide) rfl rfl 0 7 rfl rfl rfl) rfl rfl hl.1 rfl (lv_room (Nat.le_of_ble_eq_true rfl)) dX8_nextToken_127 ⟨hRc.1, hRc.2⟩) (fun r_28 u_27 H locs hw hP hD hS => ?_)
      try dsimp -zeta only at hw
      have hP : va_P D vwCl (wW_X8_nextToken ak ad h am Fthrown Ftaped Fsize Fplace Fbegin Ftoken Fword Ftold Fwrong Fcode Fat Fway Fnext FisEnd FisFallen Fwritten Fmade Fstate FhandNext FhandSteps FhandWritten FmarkAt Atape) H := hP.sub [0, 1] rfl
      have hD : va_D A (wW_X8_nextToken ak ad h am Fthrown Ftaped Fsize Fplace Fbegin Ftoken Fword Ftold Fwrong Fcode Fat Fway Fnext FisEnd FisFallen Fwritten Fmade Fstate FhandNext FhandSteps FhandWritten FmarkAt Atape) := hD.sub [0, 1] (by decide) rfl
      refine lv_bipush (v := 122) hx hb dX8_nextToken_130 (by decide) ?_
      refine lv_icmp_gt (tgt := 188) hx hb dX8_nextToken_132 (by decide) (fun c_29 => ?_) (fun c_29 => ?_)
      · replace hw := hw.1 c_29
        exact kj_X8_nextToken_188 hx hb hown hts hml hE hT hA hRf hRl hRc h am Fthrown Ftaped Fsize Fwrong Fcode Fat Fway Fnext FisEnd FisFallen Fwritten Fmade Fstate FhandNext FhandSteps FhandWritten FmarkAt Atape  Φ  kR86 kR211 kR321 kR371 Fplace Fbegin Ftoken Fword Ftold _ _ _ hw hP hD hS (lv_sub hl [0] rfl)
      · replace hw := hw.2 c_29
        refine lv_aload_n hx hb dX8_nextToken_135 rfl (lv_at hl 0 rfl) ?_
        refine vt_get (D := D) (ci := 7) (v := .int (Fplace)) (C := RX8) (T := TX8) (N := 69) hx hb hts (fun w h => wm_c (wc_X8 w h)) hown hE.1 hP 0 rfl rfl 4 (by decide) tX8_4 (hts (.fieldLink RX8 165 "WornLinesModel" "place" "I") (wm_c hw_6)) (fun _ h9 => h9) rfl dX8_nextToken_136 ?_
        refine lv_aload_n hx hb dX8_nextToken_139 rfl (lv_at hl 0 rfl) ?_
        refine vt_get (D := D) (ci := 7) (v := .int (Fbegin)) (C := RX8) (T := TX8) (N := 69) hx hb hts (fun w h => wm_c (wc_X8 w h)) hown hE.1 hP 0 rfl rfl 5 (by decide) tX8_5 (hts (.fieldLink RX8 168 "WornLinesModel" "begin" "I") (wm_c hw_7)) (fun _ h9 => h9) rfl dX8_nextToken_140 ?_
        refine lv_isub hx hb dX8_nextToken_143 ?_
        refine lv_bipush (v := 8) hx hb dX8_nextToken_144 (by decide) ?_
        refine lv_icmp_ge (tgt := 175) hx hb dX8_nextToken_146 (by decide) (fun c_30 => ?_) (fun c_30 => ?_)
        · replace hw := hw.1 c_30
          refine lv_aload_n hx hb dX8_nextToken_175 rfl (lv_at hl 0 rfl) ?_
          refine lv_dup hx hb dX8_nextToken_176 rfl ?_
          refine vt_get (D := D) (ci := 7) (v := .int (Fplace)) (C := RX8) (T := TX8) (N := 69) hx hb hts (fun w h => wm_c (wc_X8 w h)) hown hE.1 hP 0 rfl rfl 4 (by decide) tX8_4 (hts (.fieldLink RX8 165 "WornLinesModel" "place" "I") (wm_c hw_6)) (fun _ h9 => h9) rfl dX8_nextToken_177 ?_
          refine lv_iconst (v := 1) hx hb dX8_nextToken_180 (by decide) ?_
          refine lv_iadd hx hb dX8_nextToken_181 ?_
          refine vt_put (D := D) (ci := 7) (v := .int (Fplace + 1)) (ty := .int) (C := RX8) (T := TX8) (N := 69) hx hb hts (fun w h => wm_c (wc_X8 w h)) tyX8 tyX8_ok nmX8 hown hE.1 hP hD hS 0 rfl rfl 4 (by decide) tX8_4 (hts (.fieldLink RX8 165 "WornLinesModel" "place" "I") (wm_c hw_6)) (fun _ h9 => h9) rfl pf_0 (rfl) rfl (Nat.le_of_ble_eq_true rfl) dX8_nextToken_182 (fun H locs hP hD hS => ?_)
          have hP : va_P D vwCl (wW_X8_nextToken ak ad h am Fthrown Ftaped Fsize (Fplace + 1) Fbegin Ftoken Fword Ftold Fwrong Fcode Fat Fway Fnext FisEnd FisFallen Fwritten Fmade Fstate FhandNext FhandSteps FhandWritten FmarkAt Atape) H := hP
          have hD : va_D A (wW_X8_nextToken ak ad h am Fthrown Ftaped Fsize (Fplace + 1) Fbegin Ftoken Fword Ftold Fwrong Fcode Fat Fway Fnext FisEnd FisFallen Fwritten Fmade Fstate FhandNext FhandSteps FhandWritten FmarkAt Atape) := hD
          refine lv_goto (tgt := 109) hx hb dX8_nextToken_185 (by decide) ?_
          exact ih (Fplace + 1) Fbegin Ftoken Fword Ftold _ _ _ hw hP hD hS (lv_sub hl [0] rfl)
        · replace hw := hw.2 c_30
          refine lv_aload_n hx hb dX8_nextToken_149 rfl (lv_at hl 0 rfl) ?_
          refine lv_aload_n hx hb dX8_nextToken_150 rfl (lv_at hl 0 rfl) ?_
          refine vt_get (D := D) (ci := 7) (v := .long (Fword)) (C := RX8) (T := TX8) (N := 69) hx hb hts (fun w h => wm_c (wc_X8 w h)) hown hE.1 hP 0 rfl rfl 7 (by decide) tX8_7 (hts (.fieldLink RX8 171 "WornLinesModel" "word" "J") (wm_c hw_9)) (fun _ h9 => h9) rfl dX8_nextToken_151 ?_
          refine lv_ldc2 hx hb hown (hts (.constantLong RX8 185 (27)) (wm_c hw_10)) dX8_nextToken_154 ?_
          refine lv_lmul hx hb dX8_nextToken_157 ?_
          refine lv_aload_n hx hb dX8_nextToken_158 rfl (lv_at hl 0 rfl) ?_
          refine lv_aload_n hx hb dX8_nextToken_159 rfl (lv_at hl 0 rfl) ?_
          refine vt_get (D := D) (ci := 7) (v := .int (Fplace)) (C := RX8) (T := TX8) (N := 69) hx hb hts (fun w h => wm_c (wc_X8 w h)) hown hE.1 hP 0 rfl rfl 4 (by decide) tX8_4 (hts (.fieldLink RX8 165 "WornLinesModel" "place" "I") (wm_c hw_6)) (fun _ h9 => h9) rfl dX8_nextToken_160 ?_
          refine kc_i (wc := (wW_X8_signAt ak ad h am Fthrown Ftaped Fsize Fplace Fbegin Ftoken Fword Ftold Fwrong Fcode Fat Fway Fnext FisEnd FisFallen Fwritten Fmade Fstate FhandNext FhandSteps FhandWritten FmarkAt Atape)) (wr := []) hP hD hS hA [0, 1] [] rfl rfl (by decide) (by decide) (va_runV (As := [.int (Fplace)]) (rest := [.long (Fword * 27), .ref h]) ⟨hx, hb, hml, hown, hts⟩ (c_X8_signAt l D ak ad _ h am Fthrown Ftaped Fsize Fplace Fbegin Ftoken Fword Ftold Fwrong Fcode Fat Fway Fnext FisEnd FisFallen Fwritten Fmade Fstate FhandNext FhandSteps FhandWritten FmarkAt Atape Fplace _ hw) (cwV 1 hts gX8_nextToken_X8_signAt rfl rfl rfl hv_X8_signAt ⟨(Nat.le_trans (Nat.le_of_ble_eq_true rfl) hRf), (Nat.le_trans (Nat.le_of_ble_eq_true rfl) hRl)⟩) (kc_preV (As := [.int (Fplace)]) (wc := (wW_X8_signAt ak ad h am Fthrown Ftaped Fsize Fplace Fbegin Ftoken Fword Ftold Fwrong Fcode Fat Fway Fnext FisEnd FisFallen Fwritten Fmade Fstate FhandNext FhandSteps FhandWritten FmarkAt Atape)) hE hT hP hD hS hA [0, 1] (by decide) rfl rfl 0 7 rfl rfl rfl) rfl rfl hl.1 rfl (lv_room (Nat.le_of_ble_eq_true rfl)) dX8_nextToken_163 ⟨hRc.1, hRc.2⟩) (fun r_32 u_31 H locs hw hP hD hS => ?_)
          try dsimp -zeta only at hw
          have hP : va_P D vwCl (wW_X8_nextToken ak ad h am Fthrown Ftaped Fsize Fplace Fbegin Ftoken Fword Ftold Fwrong Fcode Fat Fway Fnext FisEnd FisFallen Fwritten Fmade Fstate FhandNext FhandSteps FhandWritten FmarkAt Atape) H := hP.sub [0, 1] rfl
          have hD : va_D A (wW_X8_nextToken ak ad h am Fthrown Ftaped Fsize Fplace Fbegin Ftoken Fword Ftold Fwrong Fcode Fat Fway Fnext FisEnd FisFallen Fwritten Fmade Fstate FhandNext FhandSteps FhandWritten FmarkAt Atape) := hD.sub [0, 1] (by decide) rfl
          refine lv_i2l (v := r_32.toInt64) hx hb dX8_nextToken_166 rfl ?_
          refine lv_ladd hx hb dX8_nextToken_167 ?_
          refine lv_ldc2 hx hb hown (hts (.constantLong RX8 187 (96)) (wm_c hw_11)) dX8_nextToken_168 ?_
          refine lv_lsub hx hb dX8_nextToken_171 ?_
          refine vt_put (D := D) (ci := 7) (v := .long (((Fword * 27) + r_32.toInt64) - 96)) (ty := .long) (C := RX8) (T := TX8) (N := 69) hx hb hts (fun w h => wm_c (wc_X8 w h)) tyX8 tyX8_ok nmX8 hown hE.1 hP hD hS 0 rfl rfl 7 (by decide) tX8_7 (hts (.fieldLink RX8 171 "WornLinesModel" "word" "J") (wm_c hw_9)) (fun _ h9 => h9) rfl pf_1 (rfl) rfl (Nat.le_of_ble_eq_true rfl) dX8_nextToken_172 (fun H locs hP hD hS => ?_)
          have hP : va_P D vwCl (wW_X8_nextToken ak ad h am Fthrown Ftaped Fsize Fplace Fbegin Ftoken (((Fword * 27) + r_32.toInt64) - 96) Ftold Fwrong Fcode Fat Fway Fnext FisEnd FisFallen Fwritten Fmade Fstate FhandNext FhandSteps FhandWritten FmarkAt Atape) H := hP
          have hD : va_D A (wW_X8_nextToken ak ad h am Fthrown Ftaped Fsize Fplace Fbegin Ftoken (((Fword * 27) + r_32.toInt64) - 96) Ftold Fwrong Fcode Fat Fway Fnext FisEnd FisFallen Fwritten Fmade Fstate FhandNext FhandSteps FhandWritten FmarkAt Atape) := hD
          refine lv_aload_n hx hb dX8_nextToken_175 rfl (lv_at hl 0 rfl) ?_
          refine lv_dup hx hb dX8_nextToken_176 rfl ?_
          refine vt_get (D := D) (ci := 7) (v := .int (Fplace)) (C := RX8) (T := TX8) (N := 69) hx hb hts (fun w h => wm_c (wc_X8 w h)) hown hE.1 hP 0 rfl rfl 4 (by decide) tX8_4 (hts (.fieldLink RX8 165 "WornLinesModel" "place" "I") (wm_c hw_6)) (fun _ h9 => h9) rfl dX8_nextToken_177 ?_
          refine lv_iconst (v := 1) hx hb dX8_nextToken_180 (by decide) ?_
          refine lv_iadd hx hb dX8_nextToken_181 ?_
          refine vt_put (D := D) (ci := 7) (v := .int (Fplace + 1)) (ty := .int) (C := RX8) (T := TX8) (N := 69) hx hb hts (fun w h => wm_c (wc_X8 w h)) tyX8 tyX8_ok nmX8 hown hE.1 hP hD hS 0 rfl rfl 4 (by decide) tX8_4 (hts (.fieldLink RX8 165 "WornLinesModel" "place" "I") (wm_c hw_6)) (fun _ h9 => h9) rfl pf_0 (rfl) rfl (Nat.le_of_ble_eq_true rfl) dX8_nextToken_182 (fun H locs hP hD hS => ?_)
          have hP : va_P D vwCl (wW_X8_nextToken ak ad h am Fthrown Ftaped Fsize (Fplace + 1) Fbegin Ftoken (((Fword * 27) + r_32.toInt64) - 96) Ftold Fwrong Fcode Fat Fway Fnext FisEnd FisFallen Fwritten Fmade Fstate FhandNext FhandSteps FhandWritten FmarkAt Atape) H := hP
          have hD : va_D A (wW_X8_nextToken ak ad h am Fthrown Ftaped Fsize (Fplace + 1) Fbegin Ftoken (((Fword * 27) + r_32.toInt64) - 96) Ftold Fwrong Fcode Fat Fway Fnext FisEnd FisFallen Fwritten Fmade Fstate FhandNext FhandSteps FhandWritten FmarkAt Atape) := hD
          refine lv_goto (tgt := 109) hx hb dX8_nextToken_185 (by decide) ?_
          exact ih (Fplace + 1) Fbegin Ftoken (((Fword * 27) + r_32.toInt64) - 96) Ftold _ _ _ hw hP hD hS (lv_sub hl [0] rfl)

def kf_X8_nextToken_52 (Fsize : Int32) (Atape : Nat → Int32)  (Φ : Int32 → Int32 → Int32 → Int64 → Int32 → Prop) (Fplace : Int32) (Fbegin : Int32) (Ftoken : Int32) (Fword : Int64) (Ftold : Int32) : Prop := (¬ Fplace = Fsize → vp_in Fplace 1000 ∧ ((Atape (Fplace).toNatClampNeg) < 97 → kf_X8_nextToken_212 Fsize Atape  Φ Fplace Fplace Ftoken 0 0 (Atape (Fplace).toNatClampNeg)) ∧ (¬ (Atape (Fplace).toNatClampNeg) < 97 → (122 < (Atape (Fplace).toNatClampNeg) → kf_X8_nextToken_212 Fsize Atape  Φ Fplace Fplace Ftoken 0 0 (Atape (Fplace).toNatClampNeg)) ∧ (¬ 122 < (Atape (Fplace).toNatClampNeg) → (∃ n_, lf_X8_nextToken_109 Fsize Atape  Φ n_ Fplace Fplace Ftoken 0 0)))) ∧ (Fplace = Fsize → Φ Fplace Fplace 0 0 0)
set_option maxHeartbeats 4000000 in
set_option maxRecDepth 100000 in
theorem kj_X8_nextToken_52 {p : Program} {l : Launch} {e : Env} {R : Room} {s : State} {m : MethodId} {args : Array Value} {below : List Frame} {meth : Method} {c : Code} {cells slots : Nat} {Q : State → Prop} {A : Nat → Prop} {D : va_G} {ak : Nat → ClassId} {ad : Nat → Nat} (hx : p.tables.exec = Jvm.exec) (hb : c.code = cX8_nextToken) (hown : s.vm.findClass RX8 = some m.cls) (hts : ∀ w ∈ wsX8_nextToken, w.before args s = true) (hml : c.maxLocals = 2) (hE : EV D ak s) (hT : ST D ak ad A s s.heap) (hA : ∀ q, s.heap.size ≤ q → A q) (hRf : 1 ≤ R.frames) (hRl : 21 ≤ R.locals) (hRc : cells ≤ R.cells ∧ slots ≤ R.slots) (h : Nat) (am : Nat → Nat) (Fthrown : Int32) (Ftaped : Int32) (Fsize : Int32) (Fwrong : Int32) (Fcode : Int32) (Fat : Int32) (Fway : Int32) (Fnext : Int32) (FisEnd : Int32) (FisFallen : Int32) (Fwritten : Int32) (Fmade : Int32) (Fstate : Int32) (FhandNext : Int32) (FhandSteps : Int32) (FhandWritten : Int32) (FmarkAt : Int32) (Atape : Nat → Int32)  (Φ : Int32 → Int32 → Int32 → Int64 → Int32 → Prop)
    (kR86 : ∀ (Fplace : Int32) (Fbegin : Int32) (Ftoken : Int32) (Fword : Int64) (Ftold : Int32) (H : Heap) (locs : List Loc) (ls : Array Slot), Φ Fplace Fbegin Ftoken Fword Ftold → va_P D vwCl (wW_X8_nextToken ak ad h am Fthrown Ftaped Fsize Fplace Fbegin Ftoken Fword Ftold Fwrong Fcode Fat Fway Fnext FisEnd FisFallen Fwritten Fmade Fstate FhandNext FhandSteps FhandWritten FmarkAt Atape) H → va_D A (wW_X8_nextToken ak ad h am Fthrown Ftaped Fsize Fplace Fbegin Ftoken Fword Ftold Fwrong Fcode Fat Fway Fnext FisEnd FisFallen Fwritten Fmade Fstate FhandNext FhandSteps FhandWritten FmarkAt Atape) → va_S A s.heap H locs → W p l e R s m args below meth c H locs cells slots Q (F0 m 86 ls []))
    (kR211 : ∀ (Fplace : Int32) (Fbegin : Int32) (Ftoken : Int32) (Fword : Int64) (Ftold : Int32) (H : Heap) (locs : List Loc) (ls : Array Slot), Φ Fplace Fbegin Ftoken Fword Ftold → va_P D vwCl (wW_X8_nextToken ak ad h am Fthrown Ftaped Fsize Fplace Fbegin Ftoken Fword Ftold Fwrong Fcode Fat Fway Fnext FisEnd FisFallen Fwritten Fmade Fstate FhandNext FhandSteps FhandWritten FmarkAt Atape) H → va_D A (wW_X8_nextToken ak ad h am Fthrown Ftaped Fsize Fplace Fbegin Ftoken Fword Ftold Fwrong Fcode Fat Fway Fnext FisEnd FisFallen Fwritten Fmade Fstate FhandNext FhandSteps FhandWritten FmarkAt Atape) → va_S A s.heap H locs → W p l e R s m args below meth c H locs cells slots Q (F0 m 211 ls []))
    (kR321 : ∀ (Fplace : Int32) (Fbegin : Int32) (Ftoken : Int32) (Fword : Int64) (Ftold : Int32) (H : Heap) (locs : List Loc) (ls : Array Slot), Φ Fplace Fbegin Ftoken Fword Ftold → va_P D vwCl (wW_X8_nextToken ak ad h am Fthrown Ftaped Fsize Fplace Fbegin Ftoken Fword Ftold Fwrong Fcode Fat Fway Fnext FisEnd FisFallen Fwritten Fmade Fstate FhandNext FhandSteps FhandWritten FmarkAt Atape) H → va_D A (wW_X8_nextToken ak ad h am Fthrown Ftaped Fsize Fplace Fbegin Ftoken Fword Ftold Fwrong Fcode Fat Fway Fnext FisEnd FisFallen Fwritten Fmade Fstate FhandNext FhandSteps FhandWritten FmarkAt Atape) → va_S A s.heap H locs → W p l e R s m args below meth c H locs cells slots Q (F0 m 321 ls []))
    (kR371 : ∀ (Fplace : Int32) (Fbegin : Int32) (Ftoken : Int32) (Fword : Int64) (Ftold : Int32) (H : Heap) (locs : List Loc) (ls : Array Slot), Φ Fplace Fbegin Ftoken Fword Ftold → va_P D vwCl (wW_X8_nextToken ak ad h am Fthrown Ftaped Fsize Fplace Fbegin Ftoken Fword Ftold Fwrong Fcode Fat Fway Fnext FisEnd FisFallen Fwritten Fmade Fstate FhandNext FhandSteps FhandWritten FmarkAt Atape) H → va_D A (wW_X8_nextToken ak ad h am Fthrown Ftaped Fsize Fplace Fbegin Ftoken Fword Ftold Fwrong Fcode Fat Fway Fnext FisEnd FisFallen Fwritten Fmade Fstate FhandNext FhandSteps FhandWritten FmarkAt Atape) → va_S A s.heap H locs → W p l e R s m args below meth c H locs cells slots Q (F0 m 371 ls []))
    : ∀ (Fplace : Int32) (Fbegin : Int32) (Ftoken : Int32) (Fword : Int64) (Ftold : Int32) (H : Heap) (locs : List Loc) (ls : Array Slot), kf_X8_nextToken_52 Fsize Atape  Φ Fplace Fbegin Ftoken Fword Ftold → va_P D vwCl (wW_X8_nextToken ak ad h am Fthrown Ftaped Fsize Fplace Fbegin Ftoken Fword Ftold Fwrong Fcode Fat Fway Fnext FisEnd FisFallen Fwritten Fmade Fstate FhandNext FhandSteps FhandWritten FmarkAt Atape) H → va_D A (wW_X8_nextToken ak ad h am Fthrown Ftaped Fsize Fplace Fbegin Ftoken Fword Ftold Fwrong Fcode Fat Fway Fnext FisEnd FisFallen Fwritten Fmade Fstate FhandNext FhandSteps FhandWritten FmarkAt Atape) → va_S A s.heap H locs → lv_has ls 2 [(0, .ref h)] → W p l e R s m args below meth c H locs cells slots Q (F0 m 52 ls ([])) := by
  intro Fplace Fbegin Ftoken Fword Ftold H locs ls hw hP hD hS hl
  delta kf_X8_nextToken_52 at hw
  refine lv_aload_n hx hb dX8_nextToken_52 rfl (lv_at hl 0 rfl) ?_
  refine lv_aload_n hx hb dX8_nextToken_53 rfl (lv_at hl 0 rfl) ?_
  refine vt_get (D := D) (ci := 7) (v := .int (Fplace)) (C := RX8) (T := TX8) (N := 69) hx hb hts (fun w h => wm_c (wc_X8 w h)) hown hE.1 hP 0 rfl rfl 4 (by decide) tX8_4 (hts (.fieldLink RX8 165 "WornLinesModel" "place" "I") (wm_c hw_6)) (fun _ h9 => h9) rfl dX8_nextToken_54 ?_
  refine vt_put (D := D) (ci := 7) (v := .int (Fplace)) (ty := .int) (C := RX8) (T := TX8) (N := 69) hx hb hts (fun w h => wm_c (wc_X8 w h)) tyX8 tyX8_ok nmX8 hown hE.1 hP hD hS 0 rfl rfl 5 (by decide) tX8_5 (hts (.fieldLink RX8 168 "WornLinesModel" "begin" "I") (wm_c hw_7)) (fun _ h9 => h9) rfl pf_0 (rfl) rfl (Nat.le_of_ble_eq_true rfl) dX8_nextToken_57 (fun H locs hP hD hS => ?_)
  have hP : va_P D vwCl (wW_X8_nextToken ak ad h am Fthrown Ftaped Fsize Fplace Fplace Ftoken Fword Ftold Fwrong Fcode Fat Fway Fnext FisEnd FisFallen Fwritten Fmade Fstate FhandNext FhandSteps FhandWritten FmarkAt Atape) H := hP
  have hD : va_D A (wW_X8_nextToken ak ad h am Fthrown Ftaped Fsize Fplace Fplace Ftoken Fword Ftold Fwrong Fcode Fat Fway Fnext FisEnd FisFallen Fwritten Fmade Fstate FhandNext FhandSteps FhandWritten FmarkAt Atape) := hD
  refine lv_aload_n hx hb dX8_nextToken_60 rfl (lv_at hl 0 rfl) ?_
  refine lv_lconst (v := 0) hx hb dX8_nextToken_61 rfl ?_
  refine vt_put (D := D) (ci := 7) (v := .long (0)) (ty := .long) (C := RX8) (T := TX8) (N := 69) hx hb hts (fun w h => wm_c (wc_X8 w h)) tyX8 tyX8_ok nmX8 hown hE.1 hP hD hS 0 rfl rfl 7 (by decide) tX8_7 (hts (.fieldLink RX8 171 "WornLinesModel" "word" "J") (wm_c hw_9)) (fun _ h9 => h9) rfl pf_1 (rfl) rfl (Nat.le_of_ble_eq_true rfl) dX8_nextToken_62 (fun H locs hP hD hS => ?_)
  have hP : va_P D vwCl (wW_X8_nextToken ak ad h am Fthrown Ftaped Fsize Fplace Fplace Ftoken 0 Ftold Fwrong Fcode Fat Fway Fnext FisEnd FisFallen Fwritten Fmade Fstate FhandNext FhandSteps FhandWritten FmarkAt Atape) H := hP
  have hD : va_D A (wW_X8_nextToken ak ad h am Fthrown Ftaped Fsize Fplace Fplace Ftoken 0 Ftold Fwrong Fcode Fat Fway Fnext FisEnd FisFallen Fwritten Fmade Fstate FhandNext FhandSteps FhandWritten FmarkAt Atape) := hD
  refine lv_aload_n hx hb dX8_nextToken_65 rfl (lv_at hl 0 rfl) ?_
  refine lv_iconst (v := 0) hx hb dX8_nextToken_66 (by decide) ?_
  refine vt_put (D := D) (ci := 7) (v := .int (0)) (ty := .int) (C := RX8) (T := TX8) (N := 69) hx hb hts (fun w h => wm_c (wc_X8 w h)) tyX8 tyX8_ok nmX8 hown hE.1 hP hD hS 0 rfl rfl 8 (by decide) tX8_8 (hts (.fieldLink RX8 175 "WornLinesModel" "told" "I") (wm_c hw_8)) (fun _ h9 => h9) rfl pf_0 (rfl) rfl (Nat.le_of_ble_eq_true rfl) dX8_nextToken_67 (fun H locs hP hD hS => ?_)
  have hP : va_P D vwCl (wW_X8_nextToken ak ad h am Fthrown Ftaped Fsize Fplace Fplace Ftoken 0 0 Fwrong Fcode Fat Fway Fnext FisEnd FisFallen Fwritten Fmade Fstate FhandNext FhandSteps FhandWritten FmarkAt Atape) H := hP
  have hD : va_D A (wW_X8_nextToken ak ad h am Fthrown Ftaped Fsize Fplace Fplace Ftoken 0 0 Fwrong Fcode Fat Fway Fnext FisEnd FisFallen Fwritten Fmade Fstate FhandNext FhandSteps FhandWritten FmarkAt Atape) := hD
  refine lv_aload_n hx hb dX8_nextToken_70 rfl (lv_at hl 0 rfl) ?_
  refine vt_get (D := D) (ci := 7) (v := .int (Fplace)) (C := RX8) (T := TX8) (N := 69) hx hb hts (fun w h => wm_c (wc_X8 w h)) hown hE.1 hP 0 rfl rfl 4 (by decide) tX8_4 (hts (.fieldLink RX8 165 "WornLinesModel" "place" "I") (wm_c hw_6)) (fun _ h9 => h9) rfl dX8_nextToken_71 ?_
  refine lv_aload_n hx hb dX8_nextToken_74 rfl (lv_at hl 0 rfl) ?_
  refine vt_get (D := D) (ci := 7) (v := .int (Fsize)) (C := RX8) (T := TX8) (N := 69) hx hb hts (fun w h => wm_c (wc_X8 w h)) hown hE.1 hP 0 rfl rfl 3 (by decide) tX8_3 (hts (.fieldLink RX8 162 "WornLinesModel" "size" "I") (wm_c hw_4)) (fun _ h9 => h9) rfl dX8_nextToken_75 ?_
  refine lv_icmp_ne (tgt := 87) hx hb dX8_nextToken_78 (by decide) (fun c_2 => ?_) (fun c_2 => ?_)
  · replace hw := hw.1 c_2
    refine lv_aload_n hx hb dX8_nextToken_87 rfl (lv_at hl 0 rfl) ?_
    refine vt_get (D := D) (ci := 7) (v := .ref (am 0)) (C := RX8) (T := TX8) (N := 69) hx hb hts (fun w h => wm_c (wc_X8 w h)) hown hE.1 hP 0 rfl rfl 2 (by decide) tX8_2 (hts (.fieldLink RX8 7 "WornLinesModel" "tape" "[I") (wm_c hw_0)) (fun _ h9 => h9) rfl dX8_nextToken_88 ?_
    refine lv_aload_n hx hb dX8_nextToken_91 rfl (lv_at hl 0 rfl) ?_
    refine vt_get (D := D) (ci := 7) (v := .int (Fplace)) (C := RX8) (T := TX8) (N := 69) hx hb hts (fun w h => wm_c (wc_X8 w h)) hown hE.1 hP 0 rfl rfl 4 (by decide) tX8_4 (hts (.fieldLink RX8 165 "WornLinesModel" "place" "I") (wm_c hw_6)) (fun _ h9 => h9) rfl dX8_nextToken_92 ?_
    obtain ⟨h_3, hw⟩ := hw
    refine va_iald hx hb hE.1 hP 1 0 rfl rfl (h_3) dX8_nextToken_95 ?_
    refine lv_istore_n (lv' := [(1, .int (Atape (Fplace).toNatClampNeg)), (0, .ref h)]) hx hb dX8_nextToken_96 rfl hl (by decide) rfl (fun ls hl => ?_)
    refine lv_iload_n hx hb dX8_nextToken_97 rfl (lv_at hl 0 rfl) ?_
    refine lv_bipush (v := 97) hx hb dX8_nextToken_98 (by decide) ?_
    refine lv_icmp_lt (tgt := 212) hx hb dX8_nextToken_100 (by decide) (fun c_4 => ?_) (fun c_4 => ?_)
    · replace hw := hw.1 c_4
      exact kj_X8_nextToken_212 hx hb hown hts hml hE hT hA hRf hRl hRc h am Fthrown Ftaped Fsize Fwrong Fcode Fat Fway Fnext FisEnd FisFallen Fwritten Fmade Fstate FhandNext FhandSteps FhandWritten FmarkAt Atape  Φ  kR86 kR211 kR321 kR371 Fplace Fplace Ftoken 0 0 (Atape (Fplace).toNatClampNeg) _ _ _ hw hP hD hS (lv_sub hl [1, 0] rfl)
    · replace hw := hw.2 c_4
      refine lv_iload_n hx hb dX8_nextToken_103 rfl (lv_at hl 0 rfl) ?_
      refine lv_bipush (v := 122) hx hb dX8_nextToken_104 (by decide) ?_
      refine lv_icmp_gt (tgt := 212) hx hb dX8_nextToken_106 (by decide) (fun c_22 => ?_) (fun c_22 => ?_)
      · replace hw := hw.1 c_22
        exact kj_X8_nextToken_212 hx hb hown hts hml hE hT hA hRf hRl hRc h am Fthrown Ftaped Fsize Fwrong Fcode Fat Fway Fnext FisEnd FisFallen Fwritten Fmade Fstate FhandNext FhandSteps FhandWritten FmarkAt Atape  Φ  kR86 kR211 kR321 kR371 Fplace Fplace Ftoken 0 0 (Atape (Fplace).toNatClampNeg) _ _ _ hw hP hD hS (lv_sub hl [1, 0] rfl)
      · replace hw := hw.2 c_22
        obtain ⟨n1_, hw⟩ := hw
        exact lp_X8_nextToken_109 hx hb hown hts hml hE hT hA hRf hRl hRc h am Fthrown Ftaped Fsize Fwrong Fcode Fat Fway Fnext FisEnd FisFallen Fwritten Fmade Fstate FhandNext FhandSteps FhandWritten FmarkAt Atape  Φ  kR86 kR211 kR321 kR371 n1_ Fplace Fplace Ftoken 0 0 _ _ _ hw hP hD hS (lv_sub hl [1] rfl)
  · replace hw := hw.2 c_2
    refine lv_aload_n hx hb dX8_nextToken_81 rfl (lv_at hl 0 rfl) ?_
    refine lv_iconst (v := 0) hx hb dX8_nextToken_82 (by decide) ?_
    refine vt_put (D := D) (ci := 7) (v := .int (0)) (ty := .int) (C := RX8) (T := TX8) (N := 69) hx hb hts (fun w h => wm_c (wc_X8 w h)) tyX8 tyX8_ok nmX8 hown hE.1 hP hD hS 0 rfl rfl 6 (by decide) tX8_6 (hts (.fieldLink RX8 178 "WornLinesModel" "token" "I") (wm_c hw_5)) (fun _ h9 => h9) rfl pf_0 (rfl) rfl (Nat.le_of_ble_eq_true rfl) dX8_nextToken_83 (fun H locs hP hD hS => ?_)
    have hP : va_P D vwCl (wW_X8_nextToken ak ad h am Fthrown Ftaped Fsize Fplace Fplace 0 0 0 Fwrong Fcode Fat Fway Fnext FisEnd FisFallen Fwritten Fmade Fstate FhandNext FhandSteps FhandWritten FmarkAt Atape) H := hP
    have hD : va_D A (wW_X8_nextToken ak ad h am Fthrown Ftaped Fsize Fplace Fplace 0 0 0 Fwrong Fcode Fat Fway Fnext FisEnd FisFallen Fwritten Fmade Fstate FhandNext FhandSteps FhandWritten FmarkAt Atape) := hD
    exact kR86 Fplace Fplace 0 0 0 _ _ _ hw hP hD hS

def lb_X8_nextToken_0 (Fsize : Int32) (Atape : Nat → Int32)  (Φ : Int32 → Int32 → Int32 → Int64 → Int32 → Prop) (back : Int32 → Int32 → Int32 → Int64 → Int32 → Prop) (Fplace : Int32) (Fbegin : Int32) (Ftoken : Int32) (Fword : Int64) (Ftold : Int32) : Prop := (Fsize ≤ Fplace → kf_X8_nextToken_52 Fsize Atape  Φ Fplace Fbegin Ftoken Fword Ftold) ∧ (¬ Fsize ≤ Fplace → vp_in Fplace 1000 ∧ ((Atape (Fplace).toNatClampNeg) = 32 → back (Fplace + 1) Fbegin Ftoken Fword Ftold) ∧ (¬ (Atape (Fplace).toNatClampNeg) = 32 → vp_in Fplace 1000 ∧ (¬ (Atape (Fplace).toNatClampNeg) = 10 → kf_X8_nextToken_52 Fsize Atape  Φ Fplace Fbegin Ftoken Fword Ftold) ∧ ((Atape (Fplace).toNatClampNeg) = 10 → back (Fplace + 1) Fbegin Ftoken Fword Ftold)))
def lf_X8_nextToken_0 (Fsize : Int32) (Atape : Nat → Int32)  (Φ : Int32 → Int32 → Int32 → Int64 → Int32 → Prop) : Nat → Int32 → Int32 → Int32 → Int64 → Int32 → Prop
  | 0, _, _, _, _, _ => False
  | n_ + 1, Fplace, Fbegin, Ftoken, Fword, Ftold => lb_X8_nextToken_0 Fsize Atape  Φ (lf_X8_nextToken_0 Fsize Atape  Φ n_) Fplace Fbegin Ftoken Fword Ftold
theorem li_X8_nextToken_0 (Fsize : Int32) (Atape : Nat → Int32)  (Φ : Int32 → Int32 → Int32 → Int64 → Int32 → Prop) (Inv : Int32 → Int32 → Int32 → Int64 → Int32 → Prop) (mu : Int32 → Int32 → Int32 → Int64 → Int32 → Nat) (hs : ∀ (back : Int32 → Int32 → Int32 → Int64 → Int32 → Prop) (Fplace : Int32) (Fbegin : Int32) (Ftoken : Int32) (Fword : Int64) (Ftold : Int32), Inv Fplace Fbegin Ftoken Fword Ftold → (∀ (Fplace' : Int32) (Fbegin' : Int32) (Ftoken' : Int32) (Fword' : Int64) (Ftold' : Int32), Inv Fplace' Fbegin' Ftoken' Fword' Ftold' → mu Fplace' Fbegin' Ftoken' Fword' Ftold' < mu Fplace Fbegin Ftoken Fword Ftold → back Fplace' Fbegin' Ftoken' Fword' Ftold') → lb_X8_nextToken_0 Fsize Atape  Φ back Fplace Fbegin Ftoken Fword Ftold) : ∀ (n_ : Nat) (Fplace : Int32) (Fbegin : Int32) (Ftoken : Int32) (Fword : Int64) (Ftold : Int32), Inv Fplace Fbegin Ftoken Fword Ftold → mu Fplace Fbegin Ftoken Fword Ftold < n_ → lf_X8_nextToken_0 Fsize Atape  Φ n_ Fplace Fbegin Ftoken Fword Ftold := by
  intro n_
  induction n_ with
  | zero => intro Fplace Fbegin Ftoken Fword Ftold _ h; exact absurd h (Nat.not_lt_zero _)
  | succ n_ ih => intro Fplace Fbegin Ftoken Fword Ftold hI hm; exact hs _ Fplace Fbegin Ftoken Fword Ftold hI (fun Fplace' Fbegin' Ftoken' Fword' Ftold' h1 h2 => ih Fplace' Fbegin' Ftoken' Fword' Ftold' h1 (by omega))
set_option maxHeartbeats 4000000 in
set_option maxRecDepth 100000 in
theorem lp_X8_nextToken_0 {p : Program} {l : Launch} {e : Env} {R : Room} {s : State} {m : MethodId} {args : Array Value} {below : List Frame} {meth : Method} {c : Code} {cells slots : Nat} {Q : State → Prop} {A : Nat → Prop} {D : va_G} {ak : Nat → ClassId} {ad : Nat → Nat} (hx : p.tables.exec = Jvm.exec) (hb : c.code = cX8_nextToken) (hown : s.vm.findClass RX8 = some m.cls) (hts : ∀ w ∈ wsX8_nextToken, w.before args s = true) (hml : c.maxLocals = 2) (hE : EV D ak s) (hT : ST D ak ad A s s.heap) (hA : ∀ q, s.heap.size ≤ q → A q) (hRf : 1 ≤ R.frames) (hRl : 21 ≤ R.locals) (hRc : cells ≤ R.cells ∧ slots ≤ R.slots) (h : Nat) (am : Nat → Nat) (Fthrown : Int32) (Ftaped : Int32) (Fsize : Int32) (Fwrong : Int32) (Fcode : Int32) (Fat : Int32) (Fway : Int32) (Fnext : Int32) (FisEnd : Int32) (FisFallen : Int32) (Fwritten : Int32) (Fmade : Int32) (Fstate : Int32) (FhandNext : Int32) (FhandSteps : Int32) (FhandWritten : Int32) (FmarkAt : Int32) (Atape : Nat → Int32)  (Φ : Int32 → Int32 → Int32 → Int64 → Int32 → Prop)
    (kR86 : ∀ (Fplace : Int32) (Fbegin : Int32) (Ftoken : Int32) (Fword : Int64) (Ftold : Int32) (H : Heap) (locs : List Loc) (ls : Array Slot), Φ Fplace Fbegin Ftoken Fword Ftold → va_P D vwCl (wW_X8_nextToken ak ad h am Fthrown Ftaped Fsize Fplace Fbegin Ftoken Fword Ftold Fwrong Fcode Fat Fway Fnext FisEnd FisFallen Fwritten Fmade Fstate FhandNext FhandSteps FhandWritten FmarkAt Atape) H → va_D A (wW_X8_nextToken ak ad h am Fthrown Ftaped Fsize Fplace Fbegin Ftoken Fword Ftold Fwrong Fcode Fat Fway Fnext FisEnd FisFallen Fwritten Fmade Fstate FhandNext FhandSteps FhandWritten FmarkAt Atape) → va_S A s.heap H locs → W p l e R s m args below meth c H locs cells slots Q (F0 m 86 ls []))
    (kR211 : ∀ (Fplace : Int32) (Fbegin : Int32) (Ftoken : Int32) (Fword : Int64) (Ftold : Int32) (H : Heap) (locs : List Loc) (ls : Array Slot), Φ Fplace Fbegin Ftoken Fword Ftold → va_P D vwCl (wW_X8_nextToken ak ad h am Fthrown Ftaped Fsize Fplace Fbegin Ftoken Fword Ftold Fwrong Fcode Fat Fway Fnext FisEnd FisFallen Fwritten Fmade Fstate FhandNext FhandSteps FhandWritten FmarkAt Atape) H → va_D A (wW_X8_nextToken ak ad h am Fthrown Ftaped Fsize Fplace Fbegin Ftoken Fword Ftold Fwrong Fcode Fat Fway Fnext FisEnd FisFallen Fwritten Fmade Fstate FhandNext FhandSteps FhandWritten FmarkAt Atape) → va_S A s.heap H locs → W p l e R s m args below meth c H locs cells slots Q (F0 m 211 ls []))
    (kR321 : ∀ (Fplace : Int32) (Fbegin : Int32) (Ftoken : Int32) (Fword : Int64) (Ftold : Int32) (H : Heap) (locs : List Loc) (ls : Array Slot), Φ Fplace Fbegin Ftoken Fword Ftold → va_P D vwCl (wW_X8_nextToken ak ad h am Fthrown Ftaped Fsize Fplace Fbegin Ftoken Fword Ftold Fwrong Fcode Fat Fway Fnext FisEnd FisFallen Fwritten Fmade Fstate FhandNext FhandSteps FhandWritten FmarkAt Atape) H → va_D A (wW_X8_nextToken ak ad h am Fthrown Ftaped Fsize Fplace Fbegin Ftoken Fword Ftold Fwrong Fcode Fat Fway Fnext FisEnd FisFallen Fwritten Fmade Fstate FhandNext FhandSteps FhandWritten FmarkAt Atape) → va_S A s.heap H locs → W p l e R s m args below meth c H locs cells slots Q (F0 m 321 ls []))
    (kR371 : ∀ (Fplace : Int32) (Fbegin : Int32) (Ftoken : Int32) (Fword : Int64) (Ftold : Int32) (H : Heap) (locs : List Loc) (ls : Array Slot), Φ Fplace Fbegin Ftoken Fword Ftold → va_P D vwCl (wW_X8_nextToken ak ad h am Fthrown Ftaped Fsize Fplace Fbegin Ftoken Fword Ftold Fwrong Fcode Fat Fway Fnext FisEnd FisFallen Fwritten Fmade Fstate FhandNext FhandSteps FhandWritten FmarkAt Atape) H → va_D A (wW_X8_nextToken ak ad h am Fthrown Ftaped Fsize Fplace Fbegin Ftoken Fword Ftold Fwrong Fcode Fat Fway Fnext FisEnd FisFallen Fwritten Fmade Fstate FhandNext FhandSteps FhandWritten FmarkAt Atape) → va_S A s.heap H locs → W p l e R s m args below meth c H locs cells slots Q (F0 m 371 ls []))
    : ∀ (n_ : Nat) (Fplace : Int32) (Fbegin : Int32) (Ftoken : Int32) (Fword : Int64) (Ftold : Int32) (H : Heap) (locs : List Loc) (ls : Array Slot), lf_X8_nextToken_0 Fsize Atape  Φ n_ Fplace Fbegin Ftoken Fword Ftold → va_P D vwCl (wW_X8_nextToken ak ad h am Fthrown Ftaped Fsize Fplace Fbegin Ftoken Fword Ftold Fwrong Fcode Fat Fway Fnext FisEnd FisFallen Fwritten Fmade Fstate FhandNext FhandSteps FhandWritten FmarkAt Atape) H → va_D A (wW_X8_nextToken ak ad h am Fthrown Ftaped Fsize Fplace Fbegin Ftoken Fword Ftold Fwrong Fcode Fat Fway Fnext FisEnd FisFallen Fwritten Fmade Fstate FhandNext FhandSteps FhandWritten FmarkAt Atape) → va_S A s.heap H locs → lv_has ls 2 [(0, .ref h)] → W p l e R s m args below meth c H locs cells slots Q (F0 m 0 ls ([])) := by
  intro n_
  induction n_ with
  | zero =>
    intro Fplace Fbegin Ftoken Fword Ftold H locs ls hw
    exact hw.elim
  | succ n_ ih =>
    intro Fplace Fbegin Ftoken Fword Ftold H locs ls hw hP hD hS hl
    have hw : lb_X8_nextToken_0 Fsize Atape  Φ (lf_X8_nextToken_0 Fsize Atape  Φ n_) Fplace Fbegin Ftoken Fword Ftold := hw
    delta lb_X8_nextToken_0 at hw
    refine lv_aload_n hx hb dX8_nextToken_0 rfl (lv_at hl 0 rfl) ?_
    refine vt_get (D := D) (ci := 7) (v := .int (Fplace)) (C := RX8) (T := TX8) (N := 69) hx hb hts (fun w h => wm_c (wc_X8 w h)) hown hE.1 hP 0 rfl rfl 4 (by decide) tX8_4 (hts (.fieldLink RX8 165 "WornLinesModel" "place" "I") (wm_c hw_6)) (fun _ h9 => h9) rfl dX8_nextToken_1 ?_
    refine lv_aload_n hx hb dX8_nextToken_4 rfl (lv_at hl 0 rfl) ?_
    refine vt_get (D := D) (ci := 7) (v := .int (Fsize)) (C := RX8) (T := TX8) (N := 69) hx hb hts (fun w h => wm_c (wc_X8 w h)) hown hE.1 hP 0 rfl rfl 3 (by decide) tX8_3 (hts (.fieldLink RX8 162 "WornLinesModel" "size" "I") (wm_c hw_4)) (fun _ h9 => h9) rfl dX8_nextToken_5 ?_
    refine lv_icmp_ge (tgt := 52) hx hb dX8_nextToken_8 (by decide) (fun c_1 => ?_) (fun c_1 => ?_)
    · replace hw := hw.1 c_1
      exact kj_X8_nextToken_52 hx hb hown hts hml hE hT hA hRf hRl hRc h am Fthrown Ftaped Fsize Fwrong Fcode Fat Fway Fnext FisEnd FisFallen Fwritten Fmade Fstate FhandNext FhandSteps FhandWritten FmarkAt Atape  Φ  kR86 kR211 kR321 kR371 Fplace Fbegin Ftoken Fword Ftold _ _ _ hw hP hD hS (lv_sub hl [0] rfl)
    · replace hw := hw.2 c_1
      refine lv_aload_n hx hb dX8_nextToken_11 rfl (lv_at hl 0 rfl) ?_
      refine vt_get (D := D) (ci := 7) (v := .ref (am 0)) (C := RX8) (T := TX8) (N := 69) hx hb hts (fun w h => wm_c (wc_X8 w h)) hown hE.1 hP 0 rfl rfl 2 (by decide) tX8_2 (hts (.fieldLink RX8 7 "WornLinesModel" "tape" "[I") (wm_c hw_0)) (fun _ h9 => h9) rfl dX8_nextToken_12 ?_
      refine lv_aload_n hx hb dX8_nextToken_15 rfl (lv_at hl 0 rfl) ?_
      refine vt_get (D := D) (ci := 7) (v := .int (Fplace)) (C := RX8) (T := TX8) (N := 69) hx hb hts (fun w h => wm_c (wc_X8 w h)) hown hE.1 hP 0 rfl rfl 4 (by decide) tX8_4 (hts (.fieldLink RX8 165 "WornLinesModel" "place" "I") (wm_c hw_6)) (fun _ h9 => h9) rfl dX8_nextToken_16 ?_
      obtain ⟨h_33, hw⟩ := hw
      refine va_iald hx hb hE.1 hP 1 0 rfl rfl (h_33) dX8_nextToken_19 ?_
      refine lv_bipush (v := 32) hx hb dX8_nextToken_20 (by decide) ?_
      refine lv_icmp_eq (tgt := 39) hx hb dX8_nextToken_22 (by decide) (fun c_34 => ?_) (fun c_34 => ?_)
      · replace hw := hw.1 c_34
        refine lv_aload_n hx hb dX8_nextToken_39 rfl (lv_at hl 0 rfl) ?_
        refine lv_dup hx hb dX8_nextToken_40 rfl ?_
        refine vt_get (D := D) (ci := 7) (v := .int (Fplace)) (C := RX8) (T := TX8) (N := 69) hx hb hts (fun w h => wm_c (wc_X8 w h)) hown hE.1 hP 0 rfl rfl 4 (by decide) tX8_4 (hts (.fieldLink RX8 165 "WornLinesModel" "place" "I") (wm_c hw_6)) (fun _ h9 => h9) rfl dX8_nextToken_41 ?_
        refine lv_iconst (v := 1) hx hb dX8_nextToken_44 (by decide) ?_
        refine lv_iadd hx hb dX8_nextToken_45 ?_
        refine vt_put (D := D) (ci := 7) (v := .int (Fplace + 1)) (ty := .int) (C := RX8) (T := TX8) (N := 69) hx hb hts (fun w h => wm_c (wc_X8 w h)) tyX8 tyX8_ok nmX8 hown hE.1 hP hD hS 0 rfl rfl 4 (by decide) tX8_4 (hts (.fieldLink RX8 165 "WornLinesModel" "place" "I") (wm_c hw_6)) (fun _ h9 => h9) rfl pf_0 (rfl) rfl (Nat.le_of_ble_eq_true rfl) dX8_nextToken_46 (fun H locs hP hD hS => ?_)
        have hP : va_P D vwCl (wW_X8_nextToken ak ad h am Fthrown Ftaped Fsize (Fplace + 1) Fbegin Ftoken Fword Ftold Fwrong Fcode Fat Fway Fnext FisEnd FisFallen Fwritten Fmade Fstate FhandNext FhandSteps FhandWritten FmarkAt Atape) H := hP
        have hD : va_D A (wW_X8_nextToken ak ad h am Fthrown Ftaped Fsize (Fplace + 1) Fbegin Ftoken Fword Ftold Fwrong Fcode Fat Fway Fnext FisEnd FisFallen Fwritten Fmade Fstate FhandNext FhandSteps FhandWritten FmarkAt Atape) := hD
        refine lv_goto (tgt := 0) hx hb dX8_nextToken_49 (by decide) ?_
        exact ih (Fplace + 1) Fbegin Ftoken Fword Ftold _ _ _ hw hP hD hS (lv_sub hl [0] rfl)
      · replace hw := hw.2 c_34
        refine lv_aload_n hx hb dX8_nextToken_25 rfl (lv_at hl 0 rfl) ?_
        refine vt_get (D := D) (ci := 7) (v := .ref (am 0)) (C := RX8) (T := TX8) (N := 69) hx hb hts (fun w h => wm_c (wc_X8 w h)) hown hE.1 hP 0 rfl rfl 2 (by decide) tX8_2 (hts (.fieldLink RX8 7 "WornLinesModel" "tape" "[I") (wm_c hw_0)) (fun _ h9 => h9) rfl dX8_nextToken_26 ?_
        refine lv_aload_n hx hb dX8_nextToken_29 rfl (lv_at hl 0 rfl) ?_
        refine vt_get (D := D) (ci := 7) (v := .int (Fplace)) (C := RX8) (T := TX8) (N := 69) hx hb hts (fun w h => wm_c (wc_X8 w h)) hown hE.1 hP 0 rfl rfl 4 (by decide) tX8_4 (hts (.fieldLink RX8 165 "WornLinesModel" "place" "I") (wm_c hw_6)) (fun _ h9 => h9) rfl dX8_nextToken_30 ?_
        obtain ⟨h_35, hw⟩ := hw
        refine va_iald hx hb hE.1 hP 1 0 rfl rfl (h_35) dX8_nextToken_33 ?_
        refine lv_bipush (v := 10) hx hb dX8_nextToken_34 (by decide) ?_
        refine lv_icmp_ne (tgt := 52) hx hb dX8_nextToken_36 (by decide) (fun c_36 => ?_) (fun c_36 => ?_)
        · replace hw := hw.1 c_36
          exact kj_X8_nextToken_52 hx hb hown hts hml hE hT hA hRf hRl hRc h am Fthrown Ftaped Fsize Fwrong Fcode Fat Fway Fnext FisEnd FisFallen Fwritten Fmade Fstate FhandNext FhandSteps FhandWritten FmarkAt Atape  Φ  kR86 kR211 kR321 kR371 Fplace Fbegin Ftoken Fword Ftold _ _ _ hw hP hD hS (lv_sub hl [0] rfl)
        · replace hw := hw.2 c_36
          refine lv_aload_n hx hb dX8_nextToken_39 rfl (lv_at hl 0 rfl) ?_
          refine lv_dup hx hb dX8_nextToken_40 rfl ?_
          refine vt_get (D := D) (ci := 7) (v := .int (Fplace)) (C := RX8) (T := TX8) (N := 69) hx hb hts (fun w h => wm_c (wc_X8 w h)) hown hE.1 hP 0 rfl rfl 4 (by decide) tX8_4 (hts (.fieldLink RX8 165 "WornLinesModel" "place" "I") (wm_c hw_6)) (fun _ h9 => h9) rfl dX8_nextToken_41 ?_
          refine lv_iconst (v := 1) hx hb dX8_nextToken_44 (by decide) ?_
          refine lv_iadd hx hb dX8_nextToken_45 ?_
          refine vt_put (D := D) (ci := 7) (v := .int (Fplace + 1)) (ty := .int) (C := RX8) (T := TX8) (N := 69) hx hb hts (fun w h => wm_c (wc_X8 w h)) tyX8 tyX8_ok nmX8 hown hE.1 hP hD hS 0 rfl rfl 4 (by decide) tX8_4 (hts (.fieldLink RX8 165 "WornLinesModel" "place" "I") (wm_c hw_6)) (fun _ h9 => h9) rfl pf_0 (rfl) rfl (Nat.le_of_ble_eq_true rfl) dX8_nextToken_46 (fun H locs hP hD hS => ?_)
          have hP : va_P D vwCl (wW_X8_nextToken ak ad h am Fthrown Ftaped Fsize (Fplace + 1) Fbegin Ftoken Fword Ftold Fwrong Fcode Fat Fway Fnext FisEnd FisFallen Fwritten Fmade Fstate FhandNext FhandSteps FhandWritten FmarkAt Atape) H := hP
          have hD : va_D A (wW_X8_nextToken ak ad h am Fthrown Ftaped Fsize (Fplace + 1) Fbegin Ftoken Fword Ftold Fwrong Fcode Fat Fway Fnext FisEnd FisFallen Fwritten Fmade Fstate FhandNext FhandSteps FhandWritten FmarkAt Atape) := hD
          refine lv_goto (tgt := 0) hx hb dX8_nextToken_49 (by decide) ?_
          exact ih (Fplace + 1) Fbegin Ftoken Fword Ftold _ _ _ hw hP hD hS (lv_sub hl [0] rfl)

def wp_X8_nextToken (Fsize : Int32) (Atape : Nat → Int32) (Fplace : Int32) (Fbegin : Int32) (Ftoken : Int32) (Fword : Int64) (Ftold : Int32) (Φ : Int32 → Int32 → Int32 → Int64 → Int32 → Prop) : Prop := (∃ n_, lf_X8_nextToken_0 Fsize Atape  Φ n_ Fplace Fbegin Ftoken Fword Ftold)
set_option maxHeartbeats 4000000 in
set_option maxRecDepth 100000 in
theorem kj_X8_nextToken_e {p : Program} {l : Launch} {e : Env} {R : Room} {s : State} {m : MethodId} {args : Array Value} {below : List Frame} {meth : Method} {c : Code} {cells slots : Nat} {Q : State → Prop} {A : Nat → Prop} {D : va_G} {ak : Nat → ClassId} {ad : Nat → Nat} (hx : p.tables.exec = Jvm.exec) (hb : c.code = cX8_nextToken) (hown : s.vm.findClass RX8 = some m.cls) (hts : ∀ w ∈ wsX8_nextToken, w.before args s = true) (hml : c.maxLocals = 2) (hE : EV D ak s) (hT : ST D ak ad A s s.heap) (hA : ∀ q, s.heap.size ≤ q → A q) (hRf : 1 ≤ R.frames) (hRl : 21 ≤ R.locals) (hRc : cells ≤ R.cells ∧ slots ≤ R.slots) (h : Nat) (am : Nat → Nat) (Fthrown : Int32) (Ftaped : Int32) (Fsize : Int32) (Fwrong : Int32) (Fcode : Int32) (Fat : Int32) (Fway : Int32) (Fnext : Int32) (FisEnd : Int32) (FisFallen : Int32) (Fwritten : Int32) (Fmade : Int32) (Fstate : Int32) (FhandNext : Int32) (FhandSteps : Int32) (FhandWritten : Int32) (FmarkAt : Int32) (Atape : Nat → Int32)  (Φ : Int32 → Int32 → Int32 → Int64 → Int32 → Prop)
    (kR86 : ∀ (Fplace : Int32) (Fbegin : Int32) (Ftoken : Int32) (Fword : Int64) (Ftold : Int32) (H : Heap) (locs : List Loc) (ls : Array Slot), Φ Fplace Fbegin Ftoken Fword Ftold → va_P D vwCl (wW_X8_nextToken ak ad h am Fthrown Ftaped Fsize Fplace Fbegin Ftoken Fword Ftold Fwrong Fcode Fat Fway Fnext FisEnd FisFallen Fwritten Fmade Fstate FhandNext FhandSteps FhandWritten FmarkAt Atape) H → va_D A (wW_X8_nextToken ak ad h am Fthrown Ftaped Fsize Fplace Fbegin Ftoken Fword Ftold Fwrong Fcode Fat Fway Fnext FisEnd FisFallen Fwritten Fmade Fstate FhandNext FhandSteps FhandWritten FmarkAt Atape) → va_S A s.heap H locs → W p l e R s m args below meth c H locs cells slots Q (F0 m 86 ls []))
    (kR211 : ∀ (Fplace : Int32) (Fbegin : Int32) (Ftoken : Int32) (Fword : Int64) (Ftold : Int32) (H : Heap) (locs : List Loc) (ls : Array Slot), Φ Fplace Fbegin Ftoken Fword Ftold → va_P D vwCl (wW_X8_nextToken ak ad h am Fthrown Ftaped Fsize Fplace Fbegin Ftoken Fword Ftold Fwrong Fcode Fat Fway Fnext FisEnd FisFallen Fwritten Fmade Fstate FhandNext FhandSteps FhandWritten FmarkAt Atape) H → va_D A (wW_X8_nextToken ak ad h am Fthrown Ftaped Fsize Fplace Fbegin Ftoken Fword Ftold Fwrong Fcode Fat Fway Fnext FisEnd FisFallen Fwritten Fmade Fstate FhandNext FhandSteps FhandWritten FmarkAt Atape) → va_S A s.heap H locs → W p l e R s m args below meth c H locs cells slots Q (F0 m 211 ls []))
    (kR321 : ∀ (Fplace : Int32) (Fbegin : Int32) (Ftoken : Int32) (Fword : Int64) (Ftold : Int32) (H : Heap) (locs : List Loc) (ls : Array Slot), Φ Fplace Fbegin Ftoken Fword Ftold → va_P D vwCl (wW_X8_nextToken ak ad h am Fthrown Ftaped Fsize Fplace Fbegin Ftoken Fword Ftold Fwrong Fcode Fat Fway Fnext FisEnd FisFallen Fwritten Fmade Fstate FhandNext FhandSteps FhandWritten FmarkAt Atape) H → va_D A (wW_X8_nextToken ak ad h am Fthrown Ftaped Fsize Fplace Fbegin Ftoken Fword Ftold Fwrong Fcode Fat Fway Fnext FisEnd FisFallen Fwritten Fmade Fstate FhandNext FhandSteps FhandWritten FmarkAt Atape) → va_S A s.heap H locs → W p l e R s m args below meth c H locs cells slots Q (F0 m 321 ls []))
    (kR371 : ∀ (Fplace : Int32) (Fbegin : Int32) (Ftoken : Int32) (Fword : Int64) (Ftold : Int32) (H : Heap) (locs : List Loc) (ls : Array Slot), Φ Fplace Fbegin Ftoken Fword Ftold → va_P D vwCl (wW_X8_nextToken ak ad h am Fthrown Ftaped Fsize Fplace Fbegin Ftoken Fword Ftold Fwrong Fcode Fat Fway Fnext FisEnd FisFallen Fwritten Fmade Fstate FhandNext FhandSteps FhandWritten FmarkAt Atape) H → va_D A (wW_X8_nextToken ak ad h am Fthrown Ftaped Fsize Fplace Fbegin Ftoken Fword Ftold Fwrong Fcode Fat Fway Fnext FisEnd FisFallen Fwritten Fmade Fstate FhandNext FhandSteps FhandWritten FmarkAt Atape) → va_S A s.heap H locs → W p l e R s m args below meth c H locs cells slots Q (F0 m 371 ls []))
    : ∀ (Fplace : Int32) (Fbegin : Int32) (Ftoken : Int32) (Fword : Int64) (Ftold : Int32) (H : Heap) (locs : List Loc) (ls : Array Slot), wp_X8_nextToken Fsize Atape Fplace Fbegin Ftoken Fword Ftold Φ → va_P D vwCl (wW_X8_nextToken ak ad h am Fthrown Ftaped Fsize Fplace Fbegin Ftoken Fword Ftold Fwrong Fcode Fat Fway Fnext FisEnd FisFallen Fwritten Fmade Fstate FhandNext FhandSteps FhandWritten FmarkAt Atape) H → va_D A (wW_X8_nextToken ak ad h am Fthrown Ftaped Fsize Fplace Fbegin Ftoken Fword Ftold Fwrong Fcode Fat Fway Fnext FisEnd FisFallen Fwritten Fmade Fstate FhandNext FhandSteps FhandWritten FmarkAt Atape) → va_S A s.heap H locs → lv_has ls 2 [(0, .ref h)] → W p l e R s m args below meth c H locs cells slots Q (F0 m 0 ls ([])) := by
  intro Fplace Fbegin Ftoken Fword Ftold H locs ls hw hP hD hS hl
  delta wp_X8_nextToken at hw
  obtain ⟨n1_, hw⟩ := hw
  exact lp_X8_nextToken_0 hx hb hown hts hml hE hT hA hRf hRl hRc h am Fthrown Ftaped Fsize Fwrong Fcode Fat Fway Fnext FisEnd FisFallen Fwritten Fmade Fstate FhandNext FhandSteps FhandWritten FmarkAt Atape  Φ  kR86 kR211 kR321 kR371 n1_ Fplace Fbegin Ftoken Fword Ftold _ _ _ hw hP hD hS (lv_sub hl [0] rfl)
set_option maxHeartbeats 4000000 in
set_option maxRecDepth 100000 in
theorem c_X8_nextToken (l : Launch) (D : va_G) (ak : Nat → ClassId) (ad : Nat → Nat) (sz : Nat) (h : Nat) (am : Nat → Nat) (Fthrown : Int32) (Ftaped : Int32) (Fsize : Int32) (Fplace : Int32) (Fbegin : Int32) (Ftoken : Int32) (Fword : Int64) (Ftold : Int32) (Fwrong : Int32) (Fcode : Int32) (Fat : Int32) (Fway : Int32) (Fnext : Int32) (FisEnd : Int32) (FisFallen : Int32) (Fwritten : Int32) (Fmade : Int32) (Fstate : Int32) (FhandNext : Int32) (FhandSteps : Int32) (FhandWritten : Int32) (FmarkAt : Int32) (Atape : Nat → Int32) (Φ : Int32 → Int32 → Int32 → Int64 → Int32 → Prop) (hf : wp_X8_nextToken Fsize Atape Fplace Fbegin Ftoken Fword Ftold Φ) : Met l yX8_nextToken wsX8_nextToken ({ frames := 1, cells := 0, slots := 0, locals := 21 }) (cPre D ak ad [.ref h] ((wW_X8_nextToken ak ad h am Fthrown Ftaped Fsize Fplace Fbegin Ftoken Fword Ftold Fwrong Fcode Fat Fway Fnext FisEnd FisFallen Fwritten Fmade Fstate FhandNext FhandSteps FhandWritten FmarkAt Atape)) sz) (cV D (S := (Int32) × (Int32) × (Int32) × (Int64) × (Int32)) (fun (u : (Int32) × (Int32) × (Int32) × (Int64) × (Int32)) => Φ u.1 u.2.1 u.2.2.1 u.2.2.2.1 u.2.2.2.2) (fun u => (wW_X8_nextToken ak ad h am Fthrown Ftaped Fsize u.1 u.2.1 u.2.2.1 u.2.2.2.1 u.2.2.2.2 Fwrong Fcode Fat Fway Fnext FisEnd FisFallen Fwritten Fmade Fstate FhandNext FhandSteps FhandWritten FmarkAt Atape)) ((wW_X8_nextToken ak ad h am Fthrown Ftaped Fsize Fplace Fbegin Ftoken Fword Ftold Fwrong Fcode Fat Fway Fnext FisEnd FisFallen Fwritten Fmade Fstate FhandNext FhandSteps FhandWritten FmarkAt Atape)) sz) 0 0 (va_A ((wW_X8_nextToken ak ad h am Fthrown Ftaped Fsize Fplace Fbegin Ftoken Fword Ftold Fwrong Fcode Fat Fway Fnext FisEnd FisFallen Fwritten Fmade Fstate FhandNext FhandSteps FhandWritten FmarkAt Atape)) sz) := by
  refine Met.ofW (cc := cX8_nextToken) (maxL := 2) (ret := none) (by decide) rfl ?_
  intro p e s m args below meth c s₁ B hml hv
  obtain ⟨rfl, hsz, hP, hE, hD0, hT⟩ := hv
  have hx := B.exec
  have hb := B.bytes
  have hr := B.returns
  have hts := atoms_spec (ws := wsX8_nextToken) B.pre
  have hown : s.vm.findClass RX8 = some m.cls := findClass_of_methodNamed B.named
  have hlocks := B.notSynchronized
  subst hsz
  have hD := hD0.self (sz := s.heap.size)
  generalize hAe : va_A ((wW_X8_nextToken ak ad h am Fthrown Ftaped Fsize Fplace Fbegin Ftoken Fword Ftold Fwrong Fcode Fat Fway Fnext FisEnd FisFallen Fwritten Fmade Fstate FhandNext FhandSteps FhandWritten FmarkAt Atape)) s.heap.size = A at hD hT ⊢
  have hA : ∀ q : Nat, s.heap.size ≤ q → A q := fun q h => by rw [← hAe]; exact Or.inr h
  have hS : va_S A s.heap s.heap [] := va_S.rf
  have hl := lv_entry ([.ref h]) (n := 2) (Nat.le_of_ble_eq_true rfl)
  rw [lg_entry_eq]
  generalize (lg_sl ([.ref h]) ++ List.replicate (2 - (lg_sl ([.ref h])).length) Slot.unset).toArray = ls at hl ⊢
  have hl : lv_has ls 2 [(0, .ref h)] := hl
  exact kj_X8_nextToken_e hx hb hown hts hml hE hT hA (Nat.le_of_ble_eq_true rfl) (Nat.le_of_ble_eq_true rfl) ⟨Nat.le_of_ble_eq_true rfl, Nat.le_of_ble_eq_true rfl⟩ h am Fthrown Ftaped Fsize Fwrong Fcode Fat Fway Fnext FisEnd FisFallen Fwritten Fmade Fstate FhandNext FhandSteps FhandWritten FmarkAt Atape Φ (fun Fplace Fbegin Ftoken Fword Ftold H locs ls hw hP hD hS => W.vret hx hb hr (fun t ht hW => ⟨⟨(Fplace, Fbegin, Ftoken, Fword, Ftold), rfl, hw, by rw [ht]; exact hP, by rw [hAe]; exact hD⟩, by rw [hAe]; exact hS.F ht⟩) hS.2.2 dX8_nextToken_86) (fun Fplace Fbegin Ftoken Fword Ftold H locs ls hw hP hD hS => W.vret hx hb hr (fun t ht hW => ⟨⟨(Fplace, Fbegin, Ftoken, Fword, Ftold), rfl, hw, by rw [ht]; exact hP, by rw [hAe]; exact hD⟩, by rw [hAe]; exact hS.F ht⟩) hS.2.2 dX8_nextToken_211) (fun Fplace Fbegin Ftoken Fword Ftold H locs ls hw hP hD hS => W.vret hx hb hr (fun t ht hW => ⟨⟨(Fplace, Fbegin, Ftoken, Fword, Ftold), rfl, hw, by rw [ht]; exact hP, by rw [hAe]; exact hD⟩, by rw [hAe]; exact hS.F ht⟩) hS.2.2 dX8_nextToken_321) (fun Fplace Fbegin Ftoken Fword Ftold H locs ls hw hP hD hS => W.vret hx hb hr (fun t ht hW => ⟨⟨(Fplace, Fbegin, Ftoken, Fword, Ftold), rfl, hw, by rw [ht]; exact hP, by rw [hAe]; exact hD⟩, by rw [hAe]; exact hS.F ht⟩) hS.2.2 dX8_nextToken_371) Fplace Fbegin Ftoken Fword Ftold _ _ _ hf hP hD hS hl
end
section
theorem dX8_isWord_0 : decode cX8_isWord 0 = .ok (.aload_n 0, 1) := by decide +kernel
theorem dX8_isWord_1 : decode cX8_isWord 1 = .ok (.getfield 178, 3) := by decide +kernel
theorem dX8_isWord_4 : decode cX8_isWord 4 = .ok (.iconst 1, 1) := by decide +kernel
theorem dX8_isWord_5 : decode cX8_isWord 5 = .ok (.if_icmp .ne 16, 3) := by decide +kernel
theorem dX8_isWord_21 : decode cX8_isWord 21 = .ok (.iconst 0, 1) := by decide +kernel
theorem dX8_isWord_8 : decode cX8_isWord 8 = .ok (.aload_n 0, 1) := by decide +kernel
theorem dX8_isWord_9 : decode cX8_isWord 9 = .ok (.getfield 171, 3) := by decide +kernel
theorem dX8_isWord_12 : decode cX8_isWord 12 = .ok (.lload_n 1, 1) := by decide +kernel
theorem dX8_isWord_13 : decode cX8_isWord 13 = .ok (.lcmp, 1) := by decide +kernel
theorem dX8_isWord_14 : decode cX8_isWord 14 = .ok (.ifCond .ne 7, 3) := by decide +kernel
theorem dX8_isWord_17 : decode cX8_isWord 17 = .ok (.iconst 1, 1) := by decide +kernel
theorem dX8_isWord_18 : decode cX8_isWord 18 = .ok (.goto 4, 3) := by decide +kernel
theorem dX8_isWord_22 : decode cX8_isWord 22 = .ok (.ireturn, 1) := by decide +kernel
theorem dX8_isSign_0 : decode cX8_isSign 0 = .ok (.aload_n 0, 1) := by decide +kernel
theorem dX8_isSign_1 : decode cX8_isSign 1 = .ok (.getfield 178, 3) := by decide +kernel
theorem dX8_isSign_4 : decode cX8_isSign 4 = .ok (.iconst 3, 1) := by decide +kernel
theorem dX8_isSign_5 : decode cX8_isSign 5 = .ok (.if_icmp .ne 20, 3) := by decide +kernel
theorem dX8_isSign_25 : decode cX8_isSign 25 = .ok (.iconst 0, 1) := by decide +kernel
theorem dX8_isSign_8 : decode cX8_isSign 8 = .ok (.aload_n 0, 1) := by decide +kernel
theorem dX8_isSign_9 : decode cX8_isSign 9 = .ok (.getfield 7, 3) := by decide +kernel
theorem dX8_isSign_12 : decode cX8_isSign 12 = .ok (.aload_n 0, 1) := by decide +kernel
theorem dX8_isSign_13 : decode cX8_isSign 13 = .ok (.getfield 168, 3) := by decide +kernel
theorem dX8_isSign_16 : decode cX8_isSign 16 = .ok (.iaload, 1) := by decide +kernel
theorem dX8_isSign_17 : decode cX8_isSign 17 = .ok (.iload_n 1, 1) := by decide +kernel
theorem dX8_isSign_18 : decode cX8_isSign 18 = .ok (.if_icmp .ne 7, 3) := by decide +kernel
theorem dX8_isSign_21 : decode cX8_isSign 21 = .ok (.iconst 1, 1) := by decide +kernel
theorem dX8_isSign_22 : decode cX8_isSign 22 = .ok (.goto 4, 3) := by decide +kernel
theorem dX8_isSign_26 : decode cX8_isSign 26 = .ok (.ireturn, 1) := by decide +kernel
theorem dX8_fails_0 : decode cX8_fails 0 = .ok (.aload_n 0, 1) := by decide +kernel
theorem dX8_fails_1 : decode cX8_fails 1 = .ok (.iload_n 1, 1) := by decide +kernel
theorem dX8_fails_2 : decode cX8_fails 2 = .ok (.bipush 16, 2) := by decide +kernel
theorem dX8_fails_4 : decode cX8_fails 4 = .ok (.aload_n 0, 1) := by decide +kernel
theorem dX8_fails_5 : decode cX8_fails 5 = .ok (.getfield 168, 3) := by decide +kernel
theorem dX8_fails_8 : decode cX8_fails 8 = .ok (.imul, 1) := by decide +kernel
theorem dX8_fails_9 : decode cX8_fails 9 = .ok (.iadd, 1) := by decide +kernel
theorem dX8_fails_10 : decode cX8_fails 10 = .ok (.putfield 189, 3) := by decide +kernel
theorem dX8_fails_13 : decode cX8_fails 13 = .ok (.iconst 0, 1) := by decide +kernel
theorem dX8_fails_14 : decode cX8_fails 14 = .ok (.ireturn, 1) := by decide +kernel
theorem dX8_puts_0 : decode cX8_puts 0 = .ok (.aload_n 0, 1) := by decide +kernel
theorem dX8_puts_1 : decode cX8_puts 1 = .ok (.getfield 68, 3) := by decide +kernel
theorem dX8_puts_4 : decode cX8_puts 4 = .ok (.aload_n 0, 1) := by decide +kernel
theorem dX8_puts_5 : decode cX8_puts 5 = .ok (.getfield 192, 3) := by decide +kernel
theorem dX8_puts_8 : decode cX8_puts 8 = .ok (.iload_n 1, 1) := by decide +kernel
theorem dX8_puts_9 : decode cX8_puts 9 = .ok (.iastore, 1) := by decide +kernel
theorem dX8_puts_10 : decode cX8_puts 10 = .ok (.aload_n 0, 1) := by decide +kernel
theorem dX8_puts_11 : decode cX8_puts 11 = .ok (.dup, 1) := by decide +kernel
theorem dX8_puts_12 : decode cX8_puts 12 = .ok (.getfield 192, 3) := by decide +kernel
theorem dX8_puts_15 : decode cX8_puts 15 = .ok (.iconst 1, 1) := by decide +kernel
theorem dX8_puts_16 : decode cX8_puts 16 = .ok (.iadd, 1) := by decide +kernel
theorem dX8_puts_17 : decode cX8_puts 17 = .ok (.putfield 192, 3) := by decide +kernel
theorem dX8_puts_20 : decode cX8_puts 20 = .ok (.return_, 1) := by decide +kernel
theorem dX8_isKept_0 : decode cX8_isKept 0 = .ok (.aload_n 0, 1) := by decide +kernel
theorem dX8_isKept_1 : decode cX8_isKept 1 = .ok (.getfield 178, 3) := by decide +kernel
theorem dX8_isKept_4 : decode cX8_isKept 4 = .ok (.iconst 1, 1) := by decide +kernel
theorem dX8_isKept_5 : decode cX8_isKept 5 = .ok (.if_icmp .eq 5, 3) := by decide +kernel
theorem dX8_isKept_10 : decode cX8_isKept 10 = .ok (.aload_n 0, 1) := by decide +kernel
theorem dX8_isKept_11 : decode cX8_isKept 11 = .ok (.getfield 171, 3) := by decide +kernel
theorem dX8_isKept_14 : decode cX8_isKept 14 = .ok (.ldc2_w 195, 3) := by decide +kernel
theorem dX8_isKept_17 : decode cX8_isKept 17 = .ok (.lcmp, 1) := by decide +kernel
theorem dX8_isKept_18 : decode cX8_isKept 18 = .ok (.ifCond .eq 201, 3) := by decide +kernel
theorem dX8_isKept_219 : decode cX8_isKept 219 = .ok (.iconst 1, 1) := by decide +kernel
theorem dX8_isKept_220 : decode cX8_isKept 220 = .ok (.goto 4, 3) := by decide +kernel
theorem dX8_isKept_21 : decode cX8_isKept 21 = .ok (.aload_n 0, 1) := by decide +kernel
theorem dX8_isKept_22 : decode cX8_isKept 22 = .ok (.getfield 171, 3) := by decide +kernel
theorem dX8_isKept_25 : decode cX8_isKept 25 = .ok (.ldc2_w 197, 3) := by decide +kernel
theorem dX8_isKept_28 : decode cX8_isKept 28 = .ok (.lcmp, 1) := by decide +kernel
theorem dX8_isKept_29 : decode cX8_isKept 29 = .ok (.ifCond .eq 190, 3) := by decide +kernel
theorem dX8_isKept_32 : decode cX8_isKept 32 = .ok (.aload_n 0, 1) := by decide +kernel
theorem dX8_isKept_33 : decode cX8_isKept 33 = .ok (.getfield 171, 3) := by decide +kernel
theorem dX8_isKept_36 : decode cX8_isKept 36 = .ok (.ldc2_w 199, 3) := by decide +kernel
theorem dX8_isKept_39 : decode cX8_isKept 39 = .ok (.lcmp, 1) := by decide +kernel
theorem dX8_isKept_40 : decode cX8_isKept 40 = .ok (.ifCond .eq 179, 3) := by decide +kernel
theorem dX8_isKept_43 : decode cX8_isKept 43 = .ok (.aload_n 0, 1) := by decide +kernel
theorem dX8_isKept_44 : decode cX8_isKept 44 = .ok (.getfield 171, 3) := by decide +kernel
theorem dX8_isKept_47 : decode cX8_isKept 47 = .ok (.ldc2_w 201, 3) := by decide +kernel
theorem dX8_isKept_50 : decode cX8_isKept 50 = .ok (.lcmp, 1) := by decide +kernel
theorem dX8_isKept_51 : decode cX8_isKept 51 = .ok (.ifCond .eq 168, 3) := by decide +kernel
theorem dX8_isKept_54 : decode cX8_isKept 54 = .ok (.aload_n 0, 1) := by decide +kernel
theorem dX8_isKept_55 : decode cX8_isKept 55 = .ok (.getfield 171, 3) := by decide +kernel
theorem dX8_isKept_58 : decode cX8_isKept 58 = .ok (.ldc2_w 203, 3) := by decide +kernel
theorem dX8_isKept_61 : decode cX8_isKept 61 = .ok (.lcmp, 1) := by decide +kernel
theorem dX8_isKept_62 : decode cX8_isKept 62 = .ok (.ifCond .eq 157, 3) := by decide +kernel
theorem dX8_isKept_65 : decode cX8_isKept 65 = .ok (.aload_n 0, 1) := by decide +kernel
theorem dX8_isKept_66 : decode cX8_isKept 66 = .ok (.getfield 171, 3) := by decide +kernel
theorem dX8_isKept_69 : decode cX8_isKept 69 = .ok (.ldc2_w 205, 3) := by decide +kernel
theorem dX8_isKept_72 : decode cX8_isKept 72 = .ok (.lcmp, 1) := by decide +kernel
theorem dX8_isKept_73 : decode cX8_isKept 73 = .ok (.ifCond .eq 146, 3) := by decide +kernel
theorem dX8_isKept_76 : decode cX8_isKept 76 = .ok (.aload_n 0, 1) := by decide +kernel
theorem dX8_isKept_77 : decode cX8_isKept 77 = .ok (.getfield 171, 3) := by decide +kernel
theorem dX8_isKept_80 : decode cX8_isKept 80 = .ok (.ldc2_w 207, 3) := by decide +kernel
theorem dX8_isKept_83 : decode cX8_isKept 83 = .ok (.lcmp, 1) := by decide +kernel
theorem dX8_isKept_84 : decode cX8_isKept 84 = .ok (.ifCond .eq 135, 3) := by decide +kernel
theorem dX8_isKept_87 : decode cX8_isKept 87 = .ok (.aload_n 0, 1) := by decide +kernel
theorem dX8_isKept_88 : decode cX8_isKept 88 = .ok (.getfield 171, 3) := by decide +kernel
theorem dX8_isKept_91 : decode cX8_isKept 91 = .ok (.ldc2_w 209, 3) := by decide +kernel
theorem dX8_isKept_94 : decode cX8_isKept 94 = .ok (.lcmp, 1) := by decide +kernel
theorem dX8_isKept_95 : decode cX8_isKept 95 = .ok (.ifCond .eq 124, 3) := by decide +kernel
theorem dX8_isKept_98 : decode cX8_isKept 98 = .ok (.aload_n 0, 1) := by decide +kernel
theorem dX8_isKept_99 : decode cX8_isKept 99 = .ok (.getfield 171, 3) := by decide +kernel
theorem dX8_isKept_102 : decode cX8_isKept 102 = .ok (.ldc2_w 211, 3) := by decide +kernel
theorem dX8_isKept_105 : decode cX8_isKept 105 = .ok (.lcmp, 1) := by decide +kernel
theorem dX8_isKept_106 : decode cX8_isKept 106 = .ok (.ifCond .eq 113, 3) := by decide +kernel
theorem dX8_isKept_109 : decode cX8_isKept 109 = .ok (.aload_n 0, 1) := by decide +kernel
theorem dX8_isKept_110 : decode cX8_isKept 110 = .ok (.getfield 171, 3) := by decide +kernel
theorem dX8_isKept_113 : decode cX8_isKept 113 = .ok (.ldc2_w 213, 3) := by decide +kernel
theorem dX8_isKept_116 : decode cX8_isKept 116 = .ok (.lcmp, 1) := by decide +kernel
theorem dX8_isKept_117 : decode cX8_isKept 117 = .ok (.ifCond .eq 102, 3) := by decide +kernel
theorem dX8_isKept_120 : decode cX8_isKept 120 = .ok (.aload_n 0, 1) := by decide +kernel
theorem dX8_isKept_121 : decode cX8_isKept 121 = .ok (.getfield 171, 3) := by decide +kernel
theorem dX8_isKept_124 : decode cX8_isKept 124 = .ok (.ldc2_w 215, 3) := by decide +kernel
theorem dX8_isKept_127 : decode cX8_isKept 127 = .ok (.lcmp, 1) := by decide +kernel
theorem dX8_isKept_128 : decode cX8_isKept 128 = .ok (.ifCond .eq 91, 3) := by decide +kernel
theorem dX8_isKept_131 : decode cX8_isKept 131 = .ok (.aload_n 0, 1) := by decide +kernel
theorem dX8_isKept_132 : decode cX8_isKept 132 = .ok (.getfield 171, 3) := by decide +kernel
theorem dX8_isKept_135 : decode cX8_isKept 135 = .ok (.ldc2_w 217, 3) := by decide +kernel
theorem dX8_isKept_138 : decode cX8_isKept 138 = .ok (.lcmp, 1) := by decide +kernel
theorem dX8_isKept_139 : decode cX8_isKept 139 = .ok (.ifCond .eq 80, 3) := by decide +kernel
theorem dX8_isKept_142 : decode cX8_isKept 142 = .ok (.aload_n 0, 1) := by decide +kernel
theorem dX8_isKept_143 : decode cX8_isKept 143 = .ok (.getfield 171, 3) := by decide +kernel
theorem dX8_isKept_146 : decode cX8_isKept 146 = .ok (.ldc2_w 219, 3) := by decide +kernel
theorem dX8_isKept_149 : decode cX8_isKept 149 = .ok (.lcmp, 1) := by decide +kernel
theorem dX8_isKept_150 : decode cX8_isKept 150 = .ok (.ifCond .eq 69, 3) := by decide +kernel
theorem dX8_isKept_153 : decode cX8_isKept 153 = .ok (.aload_n 0, 1) := by decide +kernel
theorem dX8_isKept_154 : decode cX8_isKept 154 = .ok (.getfield 171, 3) := by decide +kernel
theorem dX8_isKept_157 : decode cX8_isKept 157 = .ok (.ldc2_w 221, 3) := by decide +kernel
theorem dX8_isKept_160 : decode cX8_isKept 160 = .ok (.lcmp, 1) := by decide +kernel
theorem dX8_isKept_161 : decode cX8_isKept 161 = .ok (.ifCond .eq 58, 3) := by decide +kernel
theorem dX8_isKept_164 : decode cX8_isKept 164 = .ok (.aload_n 0, 1) := by decide +kernel
theorem dX8_isKept_165 : decode cX8_isKept 165 = .ok (.getfield 171, 3) := by decide +kernel
theorem dX8_isKept_168 : decode cX8_isKept 168 = .ok (.ldc2_w 223, 3) := by decide +kernel
theorem dX8_isKept_171 : decode cX8_isKept 171 = .ok (.lcmp, 1) := by decide +kernel
theorem dX8_isKept_172 : decode cX8_isKept 172 = .ok (.ifCond .eq 47, 3) := by decide +kernel
theorem dX8_isKept_175 : decode cX8_isKept 175 = .ok (.aload_n 0, 1) := by decide +kernel
theorem dX8_isKept_176 : decode cX8_isKept 176 = .ok (.getfield 171, 3) := by decide +kernel
theorem dX8_isKept_179 : decode cX8_isKept 179 = .ok (.ldc2_w 225, 3) := by decide +kernel
theorem dX8_isKept_182 : decode cX8_isKept 182 = .ok (.lcmp, 1) := by decide +kernel
theorem dX8_isKept_183 : decode cX8_isKept 183 = .ok (.ifCond .eq 36, 3) := by decide +kernel
theorem dX8_isKept_186 : decode cX8_isKept 186 = .ok (.aload_n 0, 1) := by decide +kernel
theorem dX8_isKept_187 : decode cX8_isKept 187 = .ok (.getfield 171, 3) := by decide +kernel
theorem dX8_isKept_190 : decode cX8_isKept 190 = .ok (.ldc2_w 227, 3) := by decide +kernel
theorem dX8_isKept_193 : decode cX8_isKept 193 = .ok (.lcmp, 1) := by decide +kernel
theorem dX8_isKept_194 : decode cX8_isKept 194 = .ok (.ifCond .eq 25, 3) := by decide +kernel
theorem dX8_isKept_197 : decode cX8_isKept 197 = .ok (.aload_n 0, 1) := by decide +kernel
theorem dX8_isKept_198 : decode cX8_isKept 198 = .ok (.getfield 171, 3) := by decide +kernel
theorem dX8_isKept_201 : decode cX8_isKept 201 = .ok (.ldc2_w 229, 3) := by decide +kernel
theorem dX8_isKept_204 : decode cX8_isKept 204 = .ok (.lcmp, 1) := by decide +kernel
theorem dX8_isKept_205 : decode cX8_isKept 205 = .ok (.ifCond .eq 14, 3) := by decide +kernel
theorem dX8_isKept_208 : decode cX8_isKept 208 = .ok (.aload_n 0, 1) := by decide +kernel
theorem dX8_isKept_209 : decode cX8_isKept 209 = .ok (.getfield 171, 3) := by decide +kernel
theorem dX8_isKept_212 : decode cX8_isKept 212 = .ok (.ldc2_w 231, 3) := by decide +kernel
theorem dX8_isKept_215 : decode cX8_isKept 215 = .ok (.lcmp, 1) := by decide +kernel
theorem dX8_isKept_216 : decode cX8_isKept 216 = .ok (.ifCond .ne 7, 3) := by decide +kernel
theorem dX8_isKept_223 : decode cX8_isKept 223 = .ok (.iconst 0, 1) := by decide +kernel
theorem dX8_isKept_8 : decode cX8_isKept 8 = .ok (.iconst 1, 1) := by decide +kernel
theorem dX8_isKept_9 : decode cX8_isKept 9 = .ok (.ireturn, 1) := by decide +kernel
theorem dX8_isKept_224 : decode cX8_isKept 224 = .ok (.ireturn, 1) := by decide +kernel
theorem dX8_cellOf_2 : decode cX8_cellOf 2 = .ok (.iload_n 1, 1) := by decide +kernel
theorem dX8_cellOf_3 : decode cX8_cellOf 3 = .ok (.aload_n 0, 1) := by decide +kernel
theorem dX8_cellOf_4 : decode cX8_cellOf 4 = .ok (.getfield 16, 3) := by decide +kernel
theorem dX8_cellOf_7 : decode cX8_cellOf 7 = .ok (.iconst 1, 1) := by decide +kernel
theorem dX8_cellOf_8 : decode cX8_cellOf 8 = .ok (.iaload, 1) := by decide +kernel
theorem dX8_cellOf_9 : decode cX8_cellOf 9 = .ok (.if_icmp .ge 25, 3) := by decide +kernel
theorem dX8_cellOf_34 : decode cX8_cellOf 34 = .ok (.iconst (-1), 1) := by decide +kernel
theorem dX8_cellOf_12 : decode cX8_cellOf 12 = .ok (.aload_n 0, 1) := by decide +kernel
theorem dX8_cellOf_13 : decode cX8_cellOf 13 = .ok (.getfield 29, 3) := by decide +kernel
theorem dX8_cellOf_16 : decode cX8_cellOf 16 = .ok (.iload_n 1, 1) := by decide +kernel
theorem dX8_cellOf_17 : decode cX8_cellOf 17 = .ok (.laload, 1) := by decide +kernel
theorem dX8_cellOf_18 : decode cX8_cellOf 18 = .ok (.aload_n 0, 1) := by decide +kernel
theorem dX8_cellOf_19 : decode cX8_cellOf 19 = .ok (.getfield 171, 3) := by decide +kernel
theorem dX8_cellOf_22 : decode cX8_cellOf 22 = .ok (.lcmp, 1) := by decide +kernel
theorem dX8_cellOf_23 : decode cX8_cellOf 23 = .ok (.ifCond .ne 5, 3) := by decide +kernel
theorem dX8_cellOf_28 : decode cX8_cellOf 28 = .ok (.iinc 1 1, 3) := by decide +kernel
theorem dX8_cellOf_31 : decode cX8_cellOf 31 = .ok (.goto (-29), 3) := by decide +kernel
theorem dX8_cellOf_26 : decode cX8_cellOf 26 = .ok (.iload_n 1, 1) := by decide +kernel
theorem dX8_cellOf_0 : decode cX8_cellOf 0 = .ok (.iconst 0, 1) := by decide +kernel
theorem dX8_cellOf_1 : decode cX8_cellOf 1 = .ok (.istore_n 1, 1) := by decide +kernel
theorem dX8_cellOf_27 : decode cX8_cellOf 27 = .ok (.ireturn, 1) := by decide +kernel
theorem dX8_cellOf_35 : decode cX8_cellOf 35 = .ok (.ireturn, 1) := by decide +kernel
theorem dX8_stuffOf_2 : decode cX8_stuffOf 2 = .ok (.iload_n 1, 1) := by decide +kernel
theorem dX8_stuffOf_3 : decode cX8_stuffOf 3 = .ok (.aload_n 0, 1) := by decide +kernel
theorem dX8_stuffOf_4 : decode cX8_stuffOf 4 = .ok (.getfield 13, 3) := by decide +kernel
theorem dX8_stuffOf_7 : decode cX8_stuffOf 7 = .ok (.iconst 1, 1) := by decide +kernel
theorem dX8_stuffOf_8 : decode cX8_stuffOf 8 = .ok (.iaload, 1) := by decide +kernel
theorem dX8_stuffOf_9 : decode cX8_stuffOf 9 = .ok (.if_icmp .ge 25, 3) := by decide +kernel
theorem dX8_stuffOf_34 : decode cX8_stuffOf 34 = .ok (.iconst (-1), 1) := by decide +kernel
theorem dX8_stuffOf_12 : decode cX8_stuffOf 12 = .ok (.aload_n 0, 1) := by decide +kernel
theorem dX8_stuffOf_13 : decode cX8_stuffOf 13 = .ok (.getfield 25, 3) := by decide +kernel
theorem dX8_stuffOf_16 : decode cX8_stuffOf 16 = .ok (.iload_n 1, 1) := by decide +kernel
theorem dX8_stuffOf_17 : decode cX8_stuffOf 17 = .ok (.laload, 1) := by decide +kernel
theorem dX8_stuffOf_18 : decode cX8_stuffOf 18 = .ok (.aload_n 0, 1) := by decide +kernel
theorem dX8_stuffOf_19 : decode cX8_stuffOf 19 = .ok (.getfield 171, 3) := by decide +kernel
theorem dX8_stuffOf_22 : decode cX8_stuffOf 22 = .ok (.lcmp, 1) := by decide +kernel
theorem dX8_stuffOf_23 : decode cX8_stuffOf 23 = .ok (.ifCond .ne 5, 3) := by decide +kernel
theorem dX8_stuffOf_28 : decode cX8_stuffOf 28 = .ok (.iinc 1 1, 3) := by decide +kernel
theorem dX8_stuffOf_31 : decode cX8_stuffOf 31 = .ok (.goto (-29), 3) := by decide +kernel
theorem dX8_stuffOf_26 : decode cX8_stuffOf 26 = .ok (.iload_n 1, 1) := by decide +kernel
theorem dX8_stuffOf_0 : decode cX8_stuffOf 0 = .ok (.iconst 0, 1) := by decide +kernel
theorem dX8_stuffOf_1 : decode cX8_stuffOf 1 = .ok (.istore_n 1, 1) := by decide +kernel
theorem dX8_stuffOf_27 : decode cX8_stuffOf 27 = .ok (.ireturn, 1) := by decide +kernel
theorem dX8_stuffOf_35 : decode cX8_stuffOf 35 = .ok (.ireturn, 1) := by decide +kernel
def wW_X8_isWord (ak : Nat → ClassId) (ad : Nat → Nat) (h : Nat) (am : Nat → Nat) (Fthrown : Int32) (Ftaped : Int32) (Fsize : Int32) (Fplace : Int32) (Fbegin : Int32) (Ftoken : Int32) (Fword : Int64) (Ftold : Int32) (Fwrong : Int32) (Fcode : Int32) (Fat : Int32) (Fway : Int32) (Fnext : Int32) (FisEnd : Int32) (FisFallen : Int32) (Fwritten : Int32) (Fmade : Int32) (Fstate : Int32) (FhandNext : Int32) (FhandSteps : Int32) (FhandWritten : Int32) (FmarkAt : Int32) : va_W := [(h, .inr (7, mob am (Fthrown) (Ftaped) (Fsize) (Fplace) (Fbegin) (Ftoken) (Fword) (Ftold) (Fwrong) (Fcode) (Fat) (Fway) (Fnext) (FisEnd) (FisFallen) (Fwritten) (Fmade) (Fstate) (FhandNext) (FhandSteps) (FhandWritten) (FmarkAt)))]
def wp_X8_isWord (Ftoken : Int32) (Fword : Int64) (x0 : Int64)  (Φ : Int32 → Prop) : Prop := (¬ Ftoken = 1 → Φ 0 ) ∧ (Ftoken = 1 → (¬ (lg_cmp Fword x0) = 0 → Φ 0 ) ∧ ((lg_cmp Fword x0) = 0 → Φ 1 ))
set_option maxHeartbeats 4000000 in
set_option maxRecDepth 100000 in
theorem kj_X8_isWord_e {p : Program} {l : Launch} {e : Env} {R : Room} {s : State} {m : MethodId} {args : Array Value} {below : List Frame} {meth : Method} {c : Code} {cells slots : Nat} {Q : State → Prop} {A : Nat → Prop} {D : va_G} {ak : Nat → ClassId} {ad : Nat → Nat} (hx : p.tables.exec = Jvm.exec) (hb : c.code = cX8_isWord) (hown : s.vm.findClass RX8 = some m.cls) (hts : ∀ w ∈ wsX8_isWord, w.before args s = true) (hml : c.maxLocals = 3) (hE : EV D ak s) (hT : ST D ak ad A s s.heap) (hA : ∀ q, s.heap.size ≤ q → A q) (h : Nat) (am : Nat → Nat) (Fthrown : Int32) (Ftaped : Int32) (Fsize : Int32) (Fplace : Int32) (Fbegin : Int32) (Ftoken : Int32) (Fword : Int64) (Ftold : Int32) (Fwrong : Int32) (Fcode : Int32) (Fat : Int32) (Fway : Int32) (Fnext : Int32) (FisEnd : Int32) (FisFallen : Int32) (Fwritten : Int32) (Fmade : Int32) (Fstate : Int32) (FhandNext : Int32) (FhandSteps : Int32) (FhandWritten : Int32) (FmarkAt : Int32) (x0 : Int64)  (Φ : Int32 → Prop)
    (kR22 : ∀ (r : Int32)  (H : Heap) (locs : List Loc) (ls : Array Slot), (r = 0 ∨ r = 1) → Φ r  → va_P D vwCl (wW_X8_isWord ak ad h am Fthrown Ftaped Fsize Fplace Fbegin Ftoken Fword Ftold Fwrong Fcode Fat Fway Fnext FisEnd FisFallen Fwritten Fmade Fstate FhandNext FhandSteps FhandWritten FmarkAt) H → va_D A (wW_X8_isWord ak ad h am Fthrown Ftaped Fsize Fplace Fbegin Ftoken Fword Ftold Fwrong Fcode Fat Fway Fnext FisEnd FisFallen Fwritten Fmade Fstate FhandNext FhandSteps FhandWritten FmarkAt) → va_S A s.heap H locs → W p l e R s m args below meth c H locs cells slots Q (F0 m 22 ls [.int r]))
    : ∀  (H : Heap) (locs : List Loc) (ls : Array Slot), wp_X8_isWord Ftoken Fword x0  Φ → va_P D vwCl (wW_X8_isWord ak ad h am Fthrown Ftaped Fsize Fplace Fbegin Ftoken Fword Ftold Fwrong Fcode Fat Fway Fnext FisEnd FisFallen Fwritten Fmade Fstate FhandNext FhandSteps FhandWritten FmarkAt) H → va_D A (wW_X8_isWord ak ad h am Fthrown Ftaped Fsize Fplace Fbegin Ftoken Fword Ftold Fwrong Fcode Fat Fway Fnext FisEnd FisFallen Fwritten Fmade Fstate FhandNext FhandSteps FhandWritten FmarkAt) → va_S A s.heap H locs → lv_has ls 3 [(0, .ref h), (1, .long (x0))] → W p l e R s m args below meth c H locs cells slots Q (F0 m 0 ls ([])) := by
  intro  H locs ls hw hP hD hS hl
  delta wp_X8_isWord at hw
  refine lv_aload_n hx hb dX8_isWord_0 rfl (lv_at hl 0 rfl) ?_
  refine vt_get (D := D) (ci := 7) (v := .int (Ftoken)) (C := RX8) (T := TX8) (N := 69) hx hb hts (fun w h => wm_c (wc_X8 w h)) hown hE.1 hP 0 rfl rfl 6 (by decide) tX8_6 (hts (.fieldLink RX8 178 "WornLinesModel" "token" "I") (wm_c hw_5)) (fun _ h9 => h9) rfl dX8_isWord_1 ?_
  refine lv_iconst (v := 1) hx hb dX8_isWord_4 (by decide) ?_
  refine lv_icmp_ne (tgt := 21) hx hb dX8_isWord_5 (by decide) (fun c_1 => ?_) (fun c_1 => ?_)
  · replace hw := hw.1 c_1
    refine lv_iconst (v := 0) hx hb dX8_isWord_21 (by decide) ?_
    exact kR22 0  _ _ _ (Or.inl rfl) hw hP hD hS
  · replace hw := hw.2 c_1
    refine lv_aload_n hx hb dX8_isWord_8 rfl (lv_at hl 0 rfl) ?_
    refine vt_get (D := D) (ci := 7) (v := .long (Fword)) (C := RX8) (T := TX8) (N := 69) hx hb hts (fun w h => wm_c (wc_X8 w h)) hown hE.1 hP 0 rfl rfl 7 (by decide) tX8_7 (hts (.fieldLink RX8 171 "WornLinesModel" "word" "J") (wm_c hw_9)) (fun _ h9 => h9) rfl dX8_isWord_9 ?_
    refine lv_lload_n hx hb dX8_isWord_12 rfl (lv_at hl 1 rfl) ?_
    refine W.lcmp hx hb dX8_isWord_13 ?_
    refine lv_if_ne (tgt := 21) hx hb dX8_isWord_14 (by decide) (fun c_2 => ?_) (fun c_2 => ?_)
    · replace hw := hw.1 c_2
      refine lv_iconst (v := 0) hx hb dX8_isWord_21 (by decide) ?_
      exact kR22 0  _ _ _ (Or.inl rfl) hw hP hD hS
    · replace hw := hw.2 c_2
      refine lv_iconst (v := 1) hx hb dX8_isWord_17 (by decide) ?_
      refine lv_goto (tgt := 22) hx hb dX8_isWord_18 (by decide) ?_
      exact kR22 1  _ _ _ (Or.inr rfl) hw hP hD hS
set_option maxHeartbeats 4000000 in
set_option maxRecDepth 100000 in
theorem c_X8_isWord (l : Launch) (D : va_G) (ak : Nat → ClassId) (ad : Nat → Nat) (sz : Nat) (h : Nat) (am : Nat → Nat) (Fthrown : Int32) (Ftaped : Int32) (Fsize : Int32) (Fplace : Int32) (Fbegin : Int32) (Ftoken : Int32) (Fword : Int64) (Ftold : Int32) (Fwrong : Int32) (Fcode : Int32) (Fat : Int32) (Fway : Int32) (Fnext : Int32) (FisEnd : Int32) (FisFallen : Int32) (Fwritten : Int32) (Fmade : Int32) (Fstate : Int32) (FhandNext : Int32) (FhandSteps : Int32) (FhandWritten : Int32) (FmarkAt : Int32) (x0 : Int64) (Φ : Int32 → Prop) (hf : wp_X8_isWord Ftoken Fword x0 Φ) : Met l yX8_isWord wsX8_isWord ({ frames := 0, cells := 0, slots := 0, locals := 0 }) (cPre D ak ad [.ref h, .long (x0)] ((wW_X8_isWord ak ad h am Fthrown Ftaped Fsize Fplace Fbegin Ftoken Fword Ftold Fwrong Fcode Fat Fway Fnext FisEnd FisFallen Fwritten Fmade Fstate FhandNext FhandSteps FhandWritten FmarkAt)) sz) (cI D (S := Unit) (fun (r : Int32) (u : Unit) => Φ r ) (fun u => (wW_X8_isWord ak ad h am Fthrown Ftaped Fsize Fplace Fbegin Ftoken Fword Ftold Fwrong Fcode Fat Fway Fnext FisEnd FisFallen Fwritten Fmade Fstate FhandNext FhandSteps FhandWritten FmarkAt)) ((wW_X8_isWord ak ad h am Fthrown Ftaped Fsize Fplace Fbegin Ftoken Fword Ftold Fwrong Fcode Fat Fway Fnext FisEnd FisFallen Fwritten Fmade Fstate FhandNext FhandSteps FhandWritten FmarkAt)) sz) 0 0 (va_A ((wW_X8_isWord ak ad h am Fthrown Ftaped Fsize Fplace Fbegin Ftoken Fword Ftold Fwrong Fcode Fat Fway Fnext FisEnd FisFallen Fwritten Fmade Fstate FhandNext FhandSteps FhandWritten FmarkAt)) sz) := by
  refine Met.ofW (cc := cX8_isWord) (maxL := 3) (ret := (some .boolean)) (by decide) rfl ?_
  intro p e s m args below meth c s₁ B hml hv
  obtain ⟨rfl, hsz, hP, hE, hD0, hT⟩ := hv
  have hx := B.exec
  have hb := B.bytes
  have hr := B.returns
  have hts := atoms_spec (ws := wsX8_isWord) B.pre
  have hown : s.vm.findClass RX8 = some m.cls := findClass_of_methodNamed B.named
  have hlocks := B.notSynchronized
  subst hsz
  have hD := hD0.self (sz := s.heap.size)
  generalize hAe : va_A ((wW_X8_isWord ak ad h am Fthrown Ftaped Fsize Fplace Fbegin Ftoken Fword Ftold Fwrong Fcode Fat Fway Fnext FisEnd FisFallen Fwritten Fmade Fstate FhandNext FhandSteps FhandWritten FmarkAt)) s.heap.size = A at hD hT ⊢
  have hA : ∀ q : Nat, s.heap.size ≤ q → A q := fun q h => by rw [← hAe]; exact Or.inr h
  have hS : va_S A s.heap s.heap [] := va_S.rf
  have hl := lv_entry ([.ref h, .long (x0)]) (n := 3) (Nat.le_of_ble_eq_true rfl)
  rw [lg_entry_eq]
  generalize (lg_sl ([.ref h, .long (x0)]) ++ List.replicate (3 - (lg_sl ([.ref h, .long (x0)])).length) Slot.unset).toArray = ls at hl ⊢
  have hl : lv_has ls 3 [(0, .ref h), (1, .long (x0))] := hl
  exact kj_X8_isWord_e hx hb hown hts hml hE hT hA h am Fthrown Ftaped Fsize Fplace Fbegin Ftoken Fword Ftold Fwrong Fcode Fat Fway Fnext FisEnd FisFallen Fwritten Fmade Fstate FhandNext FhandSteps FhandWritten FmarkAt x0 Φ (fun r  H locs ls hz hw hP hD hS => W.zret (v := r) hx hb hr (bl_zn hz) (fun t ht hW => ⟨⟨r, (), rfl, hw, by rw [ht]; exact hP, by rw [hAe]; exact hD⟩, by rw [hAe]; exact hS.F ht⟩) hS.2.2 dX8_isWord_22)  _ _ _ hf hP hD hS hl

def wW_X8_isSign (ak : Nat → ClassId) (ad : Nat → Nat) (h : Nat) (am : Nat → Nat) (Fthrown : Int32) (Ftaped : Int32) (Fsize : Int32) (Fplace : Int32) (Fbegin : Int32) (Ftoken : Int32) (Fword : Int64) (Ftold : Int32) (Fwrong : Int32) (Fcode : Int32) (Fat : Int32) (Fway : Int32) (Fnext : Int32) (FisEnd : Int32) (FisFallen : Int32) (Fwritten : Int32) (Fmade : Int32) (Fstate : Int32) (FhandNext : Int32) (FhandSteps : Int32) (FhandWritten : Int32) (FmarkAt : Int32) (Atape : Nat → Int32) : va_W := [(h, .inr (7, mob am (Fthrown) (Ftaped) (Fsize) (Fplace) (Fbegin) (Ftoken) (Fword) (Ftold) (Fwrong) (Fcode) (Fat) (Fway) (Fnext) (FisEnd) (FisFallen) (Fwritten) (Fmade) (Fstate) (FhandNext) (FhandSteps) (FhandWritten) (FmarkAt))), ((am 0), .inl (ak 0, 1000, .inl (Atape)))]
def wp_X8_isSign (Fbegin : Int32) (Ftoken : Int32) (Atape : Nat → Int32) (x0 : Int32)  (Φ : Int32 → Prop) : Prop := (¬ Ftoken = 3 → Φ 0 ) ∧ (Ftoken = 3 → vp_in Fbegin 1000 ∧ (¬ (Atape (Fbegin).toNatClampNeg) = x0 → Φ 0 ) ∧ ((Atape (Fbegin).toNatClampNeg) = x0 → Φ 1 ))
set_option maxHeartbeats 4000000 in
set_option maxRecDepth 100000 in
theorem kj_X8_isSign_e {p : Program} {l : Launch} {e : Env} {R : Room} {s : State} {m : MethodId} {args : Array Value} {below : List Frame} {meth : Method} {c : Code} {cells slots : Nat} {Q : State → Prop} {A : Nat → Prop} {D : va_G} {ak : Nat → ClassId} {ad : Nat → Nat} (hx : p.tables.exec = Jvm.exec) (hb : c.code = cX8_isSign) (hown : s.vm.findClass RX8 = some m.cls) (hts : ∀ w ∈ wsX8_isSign, w.before args s = true) (hml : c.maxLocals = 2) (hE : EV D ak s) (hT : ST D ak ad A s s.heap) (hA : ∀ q, s.heap.size ≤ q → A q) (h : Nat) (am : Nat → Nat) (Fthrown : Int32) (Ftaped : Int32) (Fsize : Int32) (Fplace : Int32) (Fbegin : Int32) (Ftoken : Int32) (Fword : Int64) (Ftold : Int32) (Fwrong : Int32) (Fcode : Int32) (Fat : Int32) (Fway : Int32) (Fnext : Int32) (FisEnd : Int32) (FisFallen : Int32) (Fwritten : Int32) (Fmade : Int32) (Fstate : Int32) (FhandNext : Int32) (FhandSteps : Int32) (FhandWritten : Int32) (FmarkAt : Int32) (Atape : Nat → Int32) (x0 : Int32)  (Φ : Int32 → Prop)
    (kR26 : ∀ (r : Int32)  (H : Heap) (locs : List Loc) (ls : Array Slot), (r = 0 ∨ r = 1) → Φ r  → va_P D vwCl (wW_X8_isSign ak ad h am Fthrown Ftaped Fsize Fplace Fbegin Ftoken Fword Ftold Fwrong Fcode Fat Fway Fnext FisEnd FisFallen Fwritten Fmade Fstate FhandNext FhandSteps FhandWritten FmarkAt Atape) H → va_D A (wW_X8_isSign ak ad h am Fthrown Ftaped Fsize Fplace Fbegin Ftoken Fword Ftold Fwrong Fcode Fat Fway Fnext FisEnd FisFallen Fwritten Fmade Fstate FhandNext FhandSteps FhandWritten FmarkAt Atape) → va_S A s.heap H locs → W p l e R s m args below meth c H locs cells slots Q (F0 m 26 ls [.int r]))
    : ∀  (H : Heap) (locs : List Loc) (ls : Array Slot), wp_X8_isSign Fbegin Ftoken Atape x0  Φ → va_P D vwCl (wW_X8_isSign ak ad h am Fthrown Ftaped Fsize Fplace Fbegin Ftoken Fword Ftold Fwrong Fcode Fat Fway Fnext FisEnd FisFallen Fwritten Fmade Fstate FhandNext FhandSteps FhandWritten FmarkAt Atape) H → va_D A (wW_X8_isSign ak ad h am Fthrown Ftaped Fsize Fplace Fbegin Ftoken Fword Ftold Fwrong Fcode Fat Fway Fnext FisEnd FisFallen Fwritten Fmade Fstate FhandNext FhandSteps FhandWritten FmarkAt Atape) → va_S A s.heap H locs → lv_has ls 2 [(0, .ref h), (1, .int (x0))] → W p l e R s m args below meth c H locs cells slots Q (F0 m 0 ls ([])) := by
  intro  H locs ls hw hP hD hS hl
  delta wp_X8_isSign at hw
  refine lv_aload_n hx hb dX8_isSign_0 rfl (lv_at hl 0 rfl) ?_
  refine vt_get (D := D) (ci := 7) (v := .int (Ftoken)) (C := RX8) (T := TX8) (N := 69) hx hb hts (fun w h => wm_c (wc_X8 w h)) hown hE.1 hP 0 rfl rfl 6 (by decide) tX8_6 (hts (.fieldLink RX8 178 "WornLinesModel" "token" "I") (wm_c hw_5)) (fun _ h9 => h9) rfl dX8_isSign_1 ?_
  refine lv_iconst (v := 3) hx hb dX8_isSign_4 (by decide) ?_
  refine lv_icmp_ne (tgt := 25) hx hb dX8_isSign_5 (by decide) (fun c_1 => ?_) (fun c_1 => ?_)
  · replace hw := hw.1 c_1
    refine lv_iconst (v := 0) hx hb dX8_isSign_25 (by decide) ?_
    exact kR26 0  _ _ _ (Or.inl rfl) hw hP hD hS
  · replace hw := hw.2 c_1
    refine lv_aload_n hx hb dX8_isSign_8 rfl (lv_at hl 0 rfl) ?_
    refine vt_get (D := D) (ci := 7) (v := .ref (am 0)) (C := RX8) (T := TX8) (N := 69) hx hb hts (fun w h => wm_c (wc_X8 w h)) hown hE.1 hP 0 rfl rfl 2 (by decide) tX8_2 (hts (.fieldLink RX8 7 "WornLinesModel" "tape" "[I") (wm_c hw_0)) (fun _ h9 => h9) rfl dX8_isSign_9 ?_
    refine lv_aload_n hx hb dX8_isSign_12 rfl (lv_at hl 0 rfl) ?_
    refine vt_get (D := D) (ci := 7) (v := .int (Fbegin)) (C := RX8) (T := TX8) (N := 69) hx hb hts (fun w h => wm_c (wc_X8 w h)) hown hE.1 hP 0 rfl rfl 5 (by decide) tX8_5 (hts (.fieldLink RX8 168 "WornLinesModel" "begin" "I") (wm_c hw_7)) (fun _ h9 => h9) rfl dX8_isSign_13 ?_
    obtain ⟨h_2, hw⟩ := hw
    refine va_iald hx hb hE.1 hP 1 0 rfl rfl (h_2) dX8_isSign_16 ?_
    refine lv_iload_n hx hb dX8_isSign_17 rfl (lv_at hl 1 rfl) ?_
    refine lv_icmp_ne (tgt := 25) hx hb dX8_isSign_18 (by decide) (fun c_3 => ?_) (fun c_3 => ?_)
    · replace hw := hw.1 c_3
      refine lv_iconst (v := 0) hx hb dX8_isSign_25 (by decide) ?_
      exact kR26 0  _ _ _ (Or.inl rfl) hw hP hD hS
    · replace hw := hw.2 c_3
      refine lv_iconst (v := 1) hx hb dX8_isSign_21 (by decide) ?_
      refine lv_goto (tgt := 26) hx hb dX8_isSign_22 (by decide) ?_
      exact kR26 1  _ _ _ (Or.inr rfl) hw hP hD hS
set_option maxHeartbeats 4000000 in
set_option maxRecDepth 100000 in
theorem c_X8_isSign (l : Launch) (D : va_G) (ak : Nat → ClassId) (ad : Nat → Nat) (sz : Nat) (h : Nat) (am : Nat → Nat) (Fthrown : Int32) (Ftaped : Int32) (Fsize : Int32) (Fplace : Int32) (Fbegin : Int32) (Ftoken : Int32) (Fword : Int64) (Ftold : Int32) (Fwrong : Int32) (Fcode : Int32) (Fat : Int32) (Fway : Int32) (Fnext : Int32) (FisEnd : Int32) (FisFallen : Int32) (Fwritten : Int32) (Fmade : Int32) (Fstate : Int32) (FhandNext : Int32) (FhandSteps : Int32) (FhandWritten : Int32) (FmarkAt : Int32) (Atape : Nat → Int32) (x0 : Int32) (Φ : Int32 → Prop) (hf : wp_X8_isSign Fbegin Ftoken Atape x0 Φ) : Met l yX8_isSign wsX8_isSign ({ frames := 0, cells := 0, slots := 0, locals := 0 }) (cPre D ak ad [.ref h, .int (x0)] ((wW_X8_isSign ak ad h am Fthrown Ftaped Fsize Fplace Fbegin Ftoken Fword Ftold Fwrong Fcode Fat Fway Fnext FisEnd FisFallen Fwritten Fmade Fstate FhandNext FhandSteps FhandWritten FmarkAt Atape)) sz) (cI D (S := Unit) (fun (r : Int32) (u : Unit) => Φ r ) (fun u => (wW_X8_isSign ak ad h am Fthrown Ftaped Fsize Fplace Fbegin Ftoken Fword Ftold Fwrong Fcode Fat Fway Fnext FisEnd FisFallen Fwritten Fmade Fstate FhandNext FhandSteps FhandWritten FmarkAt Atape)) ((wW_X8_isSign ak ad h am Fthrown Ftaped Fsize Fplace Fbegin Ftoken Fword Ftold Fwrong Fcode Fat Fway Fnext FisEnd FisFallen Fwritten Fmade Fstate FhandNext FhandSteps FhandWritten FmarkAt Atape)) sz) 0 0 (va_A ((wW_X8_isSign ak ad h am Fthrown Ftaped Fsize Fplace Fbegin Ftoken Fword Ftold Fwrong Fcode Fat Fway Fnext FisEnd FisFallen Fwritten Fmade Fstate FhandNext FhandSteps FhandWritten FmarkAt Atape)) sz) := by
  refine Met.ofW (cc := cX8_isSign) (maxL := 2) (ret := (some .boolean)) (by decide) rfl ?_
  intro p e s m args below meth c s₁ B hml hv
  obtain ⟨rfl, hsz, hP, hE, hD0, hT⟩ := hv
  have hx := B.exec
  have hb := B.bytes
  have hr := B.returns
  have hts := atoms_spec (ws := wsX8_isSign) B.pre
  have hown : s.vm.findClass RX8 = some m.cls := findClass_of_methodNamed B.named
  have hlocks := B.notSynchronized
  subst hsz
  have hD := hD0.self (sz := s.heap.size)
  generalize hAe : va_A ((wW_X8_isSign ak ad h am Fthrown Ftaped Fsize Fplace Fbegin Ftoken Fword Ftold Fwrong Fcode Fat Fway Fnext FisEnd FisFallen Fwritten Fmade Fstate FhandNext FhandSteps FhandWritten FmarkAt Atape)) s.heap.size = A at hD hT ⊢
  have hA : ∀ q : Nat, s.heap.size ≤ q → A q := fun q h => by rw [← hAe]; exact Or.inr h
  have hS : va_S A s.heap s.heap [] := va_S.rf
  have hl := lv_entry ([.ref h, .int (x0)]) (n := 2) (Nat.le_of_ble_eq_true rfl)
  rw [lg_entry_eq]
  generalize (lg_sl ([.ref h, .int (x0)]) ++ List.replicate (2 - (lg_sl ([.ref h, .int (x0)])).length) Slot.unset).toArray = ls at hl ⊢
  have hl : lv_has ls 2 [(0, .ref h), (1, .int (x0))] := hl
  exact kj_X8_isSign_e hx hb hown hts hml hE hT hA h am Fthrown Ftaped Fsize Fplace Fbegin Ftoken Fword Ftold Fwrong Fcode Fat Fway Fnext FisEnd FisFallen Fwritten Fmade Fstate FhandNext FhandSteps FhandWritten FmarkAt Atape x0 Φ (fun r  H locs ls hz hw hP hD hS => W.zret (v := r) hx hb hr (bl_zn hz) (fun t ht hW => ⟨⟨r, (), rfl, hw, by rw [ht]; exact hP, by rw [hAe]; exact hD⟩, by rw [hAe]; exact hS.F ht⟩) hS.2.2 dX8_isSign_26)  _ _ _ hf hP hD hS hl

def wW_X8_fails (ak : Nat → ClassId) (ad : Nat → Nat) (h : Nat) (am : Nat → Nat) (Fthrown : Int32) (Ftaped : Int32) (Fsize : Int32) (Fplace : Int32) (Fbegin : Int32) (Ftoken : Int32) (Fword : Int64) (Ftold : Int32) (Fwrong : Int32) (Fcode : Int32) (Fat : Int32) (Fway : Int32) (Fnext : Int32) (FisEnd : Int32) (FisFallen : Int32) (Fwritten : Int32) (Fmade : Int32) (Fstate : Int32) (FhandNext : Int32) (FhandSteps : Int32) (FhandWritten : Int32) (FmarkAt : Int32) : va_W := [(h, .inr (7, mob am (Fthrown) (Ftaped) (Fsize) (Fplace) (Fbegin) (Ftoken) (Fword) (Ftold) (Fwrong) (Fcode) (Fat) (Fway) (Fnext) (FisEnd) (FisFallen) (Fwritten) (Fmade) (Fstate) (FhandNext) (FhandSteps) (FhandWritten) (FmarkAt)))]
def wp_X8_fails (Fbegin : Int32) (x0 : Int32) (Fwrong : Int32) (Φ : Int32 → Int32 → Prop) : Prop := Φ 0 (x0 + (16 * Fbegin))
set_option maxHeartbeats 4000000 in
set_option maxRecDepth 100000 in
theorem kj_X8_fails_e {p : Program} {l : Launch} {e : Env} {R : Room} {s : State} {m : MethodId} {args : Array Value} {below : List Frame} {meth : Method} {c : Code} {cells slots : Nat} {Q : State → Prop} {A : Nat → Prop} {D : va_G} {ak : Nat → ClassId} {ad : Nat → Nat} (hx : p.tables.exec = Jvm.exec) (hb : c.code = cX8_fails) (hown : s.vm.findClass RX8 = some m.cls) (hts : ∀ w ∈ wsX8_fails, w.before args s = true) (hml : c.maxLocals = 2) (hE : EV D ak s) (hT : ST D ak ad A s s.heap) (hA : ∀ q, s.heap.size ≤ q → A q) (h : Nat) (am : Nat → Nat) (Fthrown : Int32) (Ftaped : Int32) (Fsize : Int32) (Fplace : Int32) (Fbegin : Int32) (Ftoken : Int32) (Fword : Int64) (Ftold : Int32) (Fcode : Int32) (Fat : Int32) (Fway : Int32) (Fnext : Int32) (FisEnd : Int32) (FisFallen : Int32) (Fwritten : Int32) (Fmade : Int32) (Fstate : Int32) (FhandNext : Int32) (FhandSteps : Int32) (FhandWritten : Int32) (FmarkAt : Int32) (x0 : Int32)  (Φ : Int32 → Int32 → Prop)
    (kR14 : ∀ (r : Int32) (Fwrong : Int32) (H : Heap) (locs : List Loc) (ls : Array Slot), (r = 0 ∨ r = 1) → Φ r Fwrong → va_P D vwCl (wW_X8_fails ak ad h am Fthrown Ftaped Fsize Fplace Fbegin Ftoken Fword Ftold Fwrong Fcode Fat Fway Fnext FisEnd FisFallen Fwritten Fmade Fstate FhandNext FhandSteps FhandWritten FmarkAt) H → va_D A (wW_X8_fails ak ad h am Fthrown Ftaped Fsize Fplace Fbegin Ftoken Fword Ftold Fwrong Fcode Fat Fway Fnext FisEnd FisFallen Fwritten Fmade Fstate FhandNext FhandSteps FhandWritten FmarkAt) → va_S A s.heap H locs → W p l e R s m args below meth c H locs cells slots Q (F0 m 14 ls [.int r]))
    : ∀ (Fwrong : Int32) (H : Heap) (locs : List Loc) (ls : Array Slot), wp_X8_fails Fbegin x0 Fwrong Φ → va_P D vwCl (wW_X8_fails ak ad h am Fthrown Ftaped Fsize Fplace Fbegin Ftoken Fword Ftold Fwrong Fcode Fat Fway Fnext FisEnd FisFallen Fwritten Fmade Fstate FhandNext FhandSteps FhandWritten FmarkAt) H → va_D A (wW_X8_fails ak ad h am Fthrown Ftaped Fsize Fplace Fbegin Ftoken Fword Ftold Fwrong Fcode Fat Fway Fnext FisEnd FisFallen Fwritten Fmade Fstate FhandNext FhandSteps FhandWritten FmarkAt) → va_S A s.heap H locs → lv_has ls 2 [(0, .ref h), (1, .int (x0))] → W p l e R s m args below meth c H locs cells slots Q (F0 m 0 ls ([])) := by
  intro Fwrong H locs ls hw hP hD hS hl
  delta wp_X8_fails at hw
  refine lv_aload_n hx hb dX8_fails_0 rfl (lv_at hl 0 rfl) ?_
  refine lv_iload_n hx hb dX8_fails_1 rfl (lv_at hl 1 rfl) ?_
  refine lv_bipush (v := 16) hx hb dX8_fails_2 (by decide) ?_
  refine lv_aload_n hx hb dX8_fails_4 rfl (lv_at hl 0 rfl) ?_
  refine vt_get (D := D) (ci := 7) (v := .int (Fbegin)) (C := RX8) (T := TX8) (N := 69) hx hb hts (fun w h => wm_c (wc_X8 w h)) hown hE.1 hP 0 rfl rfl 5 (by decide) tX8_5 (hts (.fieldLink RX8 168 "WornLinesModel" "begin" "I") (wm_c hw_7)) (fun _ h9 => h9) rfl dX8_fails_5 ?_
  refine lv_imul hx hb dX8_fails_8 ?_
  refine lv_iadd hx hb dX8_fails_9 ?_
  refine vt_put (D := D) (ci := 7) (v := .int (x0 + (16 * Fbegin))) (ty := .int) (C := RX8) (T := TX8) (N := 69) hx hb hts (fun w h => wm_c (wc_X8 w h)) tyX8 tyX8_ok nmX8 hown hE.1 hP hD hS 0 rfl rfl 9 (by decide) tX8_9 (hts (.fieldLink RX8 189 "WornLinesModel" "wrong" "I") (wm_c hw_16)) (fun _ h9 => h9) rfl pf_0 (rfl) rfl (Nat.le_of_ble_eq_true rfl) dX8_fails_10 (fun H locs hP hD hS => ?_)
  have hP : va_P D vwCl (wW_X8_fails ak ad h am Fthrown Ftaped Fsize Fplace Fbegin Ftoken Fword Ftold (x0 + (16 * Fbegin)) Fcode Fat Fway Fnext FisEnd FisFallen Fwritten Fmade Fstate FhandNext FhandSteps FhandWritten FmarkAt) H := hP
  have hD : va_D A (wW_X8_fails ak ad h am Fthrown Ftaped Fsize Fplace Fbegin Ftoken Fword Ftold (x0 + (16 * Fbegin)) Fcode Fat Fway Fnext FisEnd FisFallen Fwritten Fmade Fstate FhandNext FhandSteps FhandWritten FmarkAt) := hD
  refine lv_iconst (v := 0) hx hb dX8_fails_13 (by decide) ?_
  exact kR14 0 (x0 + (16 * Fbegin)) _ _ _ (Or.inl rfl) hw hP hD hS
set_option maxHeartbeats 4000000 in
set_option maxRecDepth 100000 in
theorem c_X8_fails (l : Launch) (D : va_G) (ak : Nat → ClassId) (ad : Nat → Nat) (sz : Nat) (h : Nat) (am : Nat → Nat) (Fthrown : Int32) (Ftaped : Int32) (Fsize : Int32) (Fplace : Int32) (Fbegin : Int32) (Ftoken : Int32) (Fword : Int64) (Ftold : Int32) (Fwrong : Int32) (Fcode : Int32) (Fat : Int32) (Fway : Int32) (Fnext : Int32) (FisEnd : Int32) (FisFallen : Int32) (Fwritten : Int32) (Fmade : Int32) (Fstate : Int32) (FhandNext : Int32) (FhandSteps : Int32) (FhandWritten : Int32) (FmarkAt : Int32) (x0 : Int32) (Φ : Int32 → Int32 → Prop) (hf : wp_X8_fails Fbegin x0 Fwrong Φ) : Met l yX8_fails wsX8_fails ({ frames := 0, cells := 0, slots := 0, locals := 0 }) (cPre D ak ad [.ref h, .int (x0)] ((wW_X8_fails ak ad h am Fthrown Ftaped Fsize Fplace Fbegin Ftoken Fword Ftold Fwrong Fcode Fat Fway Fnext FisEnd FisFallen Fwritten Fmade Fstate FhandNext FhandSteps FhandWritten FmarkAt)) sz) (cI D (S := (Int32)) (fun (r : Int32) (u : (Int32)) => Φ r u) (fun u => (wW_X8_fails ak ad h am Fthrown Ftaped Fsize Fplace Fbegin Ftoken Fword Ftold u Fcode Fat Fway Fnext FisEnd FisFallen Fwritten Fmade Fstate FhandNext FhandSteps FhandWritten FmarkAt)) ((wW_X8_fails ak ad h am Fthrown Ftaped Fsize Fplace Fbegin Ftoken Fword Ftold Fwrong Fcode Fat Fway Fnext FisEnd FisFallen Fwritten Fmade Fstate FhandNext FhandSteps FhandWritten FmarkAt)) sz) 0 0 (va_A ((wW_X8_fails ak ad h am Fthrown Ftaped Fsize Fplace Fbegin Ftoken Fword Ftold Fwrong Fcode Fat Fway Fnext FisEnd FisFallen Fwritten Fmade Fstate FhandNext FhandSteps FhandWritten FmarkAt)) sz) := by
  refine Met.ofW (cc := cX8_fails) (maxL := 2) (ret := (some .boolean)) (by decide) rfl ?_
  intro p e s m args below meth c s₁ B hml hv
  obtain ⟨rfl, hsz, hP, hE, hD0, hT⟩ := hv
  have hx := B.exec
  have hb := B.bytes
  have hr := B.returns
  have hts := atoms_spec (ws := wsX8_fails) B.pre
  have hown : s.vm.findClass RX8 = some m.cls := findClass_of_methodNamed B.named
  have hlocks := B.notSynchronized
  subst hsz
  have hD := hD0.self (sz := s.heap.size)
  generalize hAe : va_A ((wW_X8_fails ak ad h am Fthrown Ftaped Fsize Fplace Fbegin Ftoken Fword Ftold Fwrong Fcode Fat Fway Fnext FisEnd FisFallen Fwritten Fmade Fstate FhandNext FhandSteps FhandWritten FmarkAt)) s.heap.size = A at hD hT ⊢
  have hA : ∀ q : Nat, s.heap.size ≤ q → A q := fun q h => by rw [← hAe]; exact Or.inr h
  have hS : va_S A s.heap s.heap [] := va_S.rf
  have hl := lv_entry ([.ref h, .int (x0)]) (n := 2) (Nat.le_of_ble_eq_true rfl)
  rw [lg_entry_eq]
  generalize (lg_sl ([.ref h, .int (x0)]) ++ List.replicate (2 - (lg_sl ([.ref h, .int (x0)])).length) Slot.unset).toArray = ls at hl ⊢
  have hl : lv_has ls 2 [(0, .ref h), (1, .int (x0))] := hl
  exact kj_X8_fails_e hx hb hown hts hml hE hT hA h am Fthrown Ftaped Fsize Fplace Fbegin Ftoken Fword Ftold Fcode Fat Fway Fnext FisEnd FisFallen Fwritten Fmade Fstate FhandNext FhandSteps FhandWritten FmarkAt x0 Φ (fun r Fwrong H locs ls hz hw hP hD hS => W.zret (v := r) hx hb hr (bl_zn hz) (fun t ht hW => ⟨⟨r, Fwrong, rfl, hw, by rw [ht]; exact hP, by rw [hAe]; exact hD⟩, by rw [hAe]; exact hS.F ht⟩) hS.2.2 dX8_fails_14) Fwrong _ _ _ hf hP hD hS hl

def wW_X8_puts (ak : Nat → ClassId) (ad : Nat → Nat) (h : Nat) (am : Nat → Nat) (Fthrown : Int32) (Ftaped : Int32) (Fsize : Int32) (Fplace : Int32) (Fbegin : Int32) (Ftoken : Int32) (Fword : Int64) (Ftold : Int32) (Fwrong : Int32) (Fcode : Int32) (Fat : Int32) (Fway : Int32) (Fnext : Int32) (FisEnd : Int32) (FisFallen : Int32) (Fwritten : Int32) (Fmade : Int32) (Fstate : Int32) (FhandNext : Int32) (FhandSteps : Int32) (FhandWritten : Int32) (FmarkAt : Int32) (Acodes : Nat → Int32) : va_W := [(h, .inr (7, mob am (Fthrown) (Ftaped) (Fsize) (Fplace) (Fbegin) (Ftoken) (Fword) (Ftold) (Fwrong) (Fcode) (Fat) (Fway) (Fnext) (FisEnd) (FisFallen) (Fwritten) (Fmade) (Fstate) (FhandNext) (FhandSteps) (FhandWritten) (FmarkAt))), ((am 19), .inl (ak 0, 6000, .inl (Acodes)))]
def wp_X8_puts (x0 : Int32) (Fcode : Int32) (Acodes : Nat → Int32) (Φ : Int32 → (Nat → Int32) → Prop) : Prop := vp_in Fcode 6000 ∧ Φ (Fcode + 1) (upd Acodes (Fcode).toNatClampNeg x0)
set_option maxHeartbeats 4000000 in
set_option maxRecDepth 100000 in
theorem kj_X8_puts_e {p : Program} {l : Launch} {e : Env} {R : Room} {s : State} {m : MethodId} {args : Array Value} {below : List Frame} {meth : Method} {c : Code} {cells slots : Nat} {Q : State → Prop} {A : Nat → Prop} {D : va_G} {ak : Nat → ClassId} {ad : Nat → Nat} (hx : p.tables.exec = Jvm.exec) (hb : c.code = cX8_puts) (hown : s.vm.findClass RX8 = some m.cls) (hts : ∀ w ∈ wsX8_puts, w.before args s = true) (hml : c.maxLocals = 2) (hE : EV D ak s) (hT : ST D ak ad A s s.heap) (hA : ∀ q, s.heap.size ≤ q → A q) (h : Nat) (am : Nat → Nat) (Fthrown : Int32) (Ftaped : Int32) (Fsize : Int32) (Fplace : Int32) (Fbegin : Int32) (Ftoken : Int32) (Fword : Int64) (Ftold : Int32) (Fwrong : Int32) (Fat : Int32) (Fway : Int32) (Fnext : Int32) (FisEnd : Int32) (FisFallen : Int32) (Fwritten : Int32) (Fmade : Int32) (Fstate : Int32) (FhandNext : Int32) (FhandSteps : Int32) (FhandWritten : Int32) (FmarkAt : Int32) (x0 : Int32)  (Φ : Int32 → (Nat → Int32) → Prop)
    (kR20 : ∀ (Fcode : Int32) (Acodes : Nat → Int32) (H : Heap) (locs : List Loc) (ls : Array Slot), Φ Fcode Acodes → va_P D vwCl (wW_X8_puts ak ad h am Fthrown Ftaped Fsize Fplace Fbegin Ftoken Fword Ftold Fwrong Fcode Fat Fway Fnext FisEnd FisFallen Fwritten Fmade Fstate FhandNext FhandSteps FhandWritten FmarkAt Acodes) H → va_D A (wW_X8_puts ak ad h am Fthrown Ftaped Fsize Fplace Fbegin Ftoken Fword Ftold Fwrong Fcode Fat Fway Fnext FisEnd FisFallen Fwritten Fmade Fstate FhandNext FhandSteps FhandWritten FmarkAt Acodes) → va_S A s.heap H locs → W p l e R s m args below meth c H locs cells slots Q (F0 m 20 ls []))
    : ∀ (Fcode : Int32) (Acodes : Nat → Int32) (H : Heap) (locs : List Loc) (ls : Array Slot), wp_X8_puts x0 Fcode Acodes Φ → va_P D vwCl (wW_X8_puts ak ad h am Fthrown Ftaped Fsize Fplace Fbegin Ftoken Fword Ftold Fwrong Fcode Fat Fway Fnext FisEnd FisFallen Fwritten Fmade Fstate FhandNext FhandSteps FhandWritten FmarkAt Acodes) H → va_D A (wW_X8_puts ak ad h am Fthrown Ftaped Fsize Fplace Fbegin Ftoken Fword Ftold Fwrong Fcode Fat Fway Fnext FisEnd FisFallen Fwritten Fmade Fstate FhandNext FhandSteps FhandWritten FmarkAt Acodes) → va_S A s.heap H locs → lv_has ls 2 [(0, .ref h), (1, .int (x0))] → W p l e R s m args below meth c H locs cells slots Q (F0 m 0 ls ([])) := by
  intro Fcode Acodes H locs ls hw hP hD hS hl
  delta wp_X8_puts at hw
  refine lv_aload_n hx hb dX8_puts_0 rfl (lv_at hl 0 rfl) ?_
  refine vt_get (D := D) (ci := 7) (v := .ref (am 19)) (C := RX8) (T := TX8) (N := 69) hx hb hts (fun w h => wm_c (wc_X8 w h)) hown hE.1 hP 0 rfl rfl 28 (by decide) tX8_28 (hts (.fieldLink RX8 68 "WornLinesModel" "codes" "[I") (wm_c hw_17)) (fun _ h9 => h9) rfl dX8_puts_1 ?_
  refine lv_aload_n hx hb dX8_puts_4 rfl (lv_at hl 0 rfl) ?_
  refine vt_get (D := D) (ci := 7) (v := .int (Fcode)) (C := RX8) (T := TX8) (N := 69) hx hb hts (fun w h => wm_c (wc_X8 w h)) hown hE.1 hP 0 rfl rfl 29 (by decide) tX8_29 (hts (.fieldLink RX8 192 "WornLinesModel" "code" "I") (wm_c hw_18)) (fun _ h9 => h9) rfl dX8_puts_5 ?_
  refine lv_iload_n hx hb dX8_puts_8 rfl (lv_at hl 1 rfl) ?_
  obtain ⟨h_1, hw⟩ := hw
  refine va_iast hx hb hE.1 hP hD hS 1 0 rfl rfl (h_1) dX8_puts_9 (fun H locs hP hD hS => ?_)
  have hP : va_P D vwCl (wW_X8_puts ak ad h am Fthrown Ftaped Fsize Fplace Fbegin Ftoken Fword Ftold Fwrong Fcode Fat Fway Fnext FisEnd FisFallen Fwritten Fmade Fstate FhandNext FhandSteps FhandWritten FmarkAt (upd Acodes (Fcode).toNatClampNeg x0)) H := hP
  have hD : va_D A (wW_X8_puts ak ad h am Fthrown Ftaped Fsize Fplace Fbegin Ftoken Fword Ftold Fwrong Fcode Fat Fway Fnext FisEnd FisFallen Fwritten Fmade Fstate FhandNext FhandSteps FhandWritten FmarkAt (upd Acodes (Fcode).toNatClampNeg x0)) := hD
  refine lv_aload_n hx hb dX8_puts_10 rfl (lv_at hl 0 rfl) ?_
  refine lv_dup hx hb dX8_puts_11 rfl ?_
  refine vt_get (D := D) (ci := 7) (v := .int (Fcode)) (C := RX8) (T := TX8) (N := 69) hx hb hts (fun w h => wm_c (wc_X8 w h)) hown hE.1 hP 0 rfl rfl 29 (by decide) tX8_29 (hts (.fieldLink RX8 192 "WornLinesModel" "code" "I") (wm_c hw_18)) (fun _ h9 => h9) rfl dX8_puts_12 ?_
  refine lv_iconst (v := 1) hx hb dX8_puts_15 (by decide) ?_
  refine lv_iadd hx hb dX8_puts_16 ?_
  refine vt_put (D := D) (ci := 7) (v := .int (Fcode + 1)) (ty := .int) (C := RX8) (T := TX8) (N := 69) hx hb hts (fun w h => wm_c (wc_X8 w h)) tyX8 tyX8_ok nmX8 hown hE.1 hP hD hS 0 rfl rfl 29 (by decide) tX8_29 (hts (.fieldLink RX8 192 "WornLinesModel" "code" "I") (wm_c hw_18)) (fun _ h9 => h9) rfl pf_0 (rfl) rfl (Nat.le_of_ble_eq_true rfl) dX8_puts_17 (fun H locs hP hD hS => ?_)
  have hP : va_P D vwCl (wW_X8_puts ak ad h am Fthrown Ftaped Fsize Fplace Fbegin Ftoken Fword Ftold Fwrong (Fcode + 1) Fat Fway Fnext FisEnd FisFallen Fwritten Fmade Fstate FhandNext FhandSteps FhandWritten FmarkAt (upd Acodes (Fcode).toNatClampNeg x0)) H := hP
  have hD : va_D A (wW_X8_puts ak ad h am Fthrown Ftaped Fsize Fplace Fbegin Ftoken Fword Ftold Fwrong (Fcode + 1) Fat Fway Fnext FisEnd FisFallen Fwritten Fmade Fstate FhandNext FhandSteps FhandWritten FmarkAt (upd Acodes (Fcode).toNatClampNeg x0)) := hD
  exact kR20 (Fcode + 1) (upd Acodes (Fcode).toNatClampNeg x0) _ _ _ hw hP hD hS
set_option maxHeartbeats 4000000 in
set_option maxRecDepth 100000 in
theorem c_X8_puts (l : Launch) (D : va_G) (ak : Nat → ClassId) (ad : Nat → Nat) (sz : Nat) (h : Nat) (am : Nat → Nat) (Fthrown : Int32) (Ftaped : Int32) (Fsize : Int32) (Fplace : Int32) (Fbegin : Int32) (Ftoken : Int32) (Fword : Int64) (Ftold : Int32) (Fwrong : Int32) (Fcode : Int32) (Fat : Int32) (Fway : Int32) (Fnext : Int32) (FisEnd : Int32) (FisFallen : Int32) (Fwritten : Int32) (Fmade : Int32) (Fstate : Int32) (FhandNext : Int32) (FhandSteps : Int32) (FhandWritten : Int32) (FmarkAt : Int32) (Acodes : Nat → Int32) (x0 : Int32) (Φ : Int32 → (Nat → Int32) → Prop) (hf : wp_X8_puts x0 Fcode Acodes Φ) : Met l yX8_puts wsX8_puts ({ frames := 0, cells := 0, slots := 0, locals := 0 }) (cPre D ak ad [.ref h, .int (x0)] ((wW_X8_puts ak ad h am Fthrown Ftaped Fsize Fplace Fbegin Ftoken Fword Ftold Fwrong Fcode Fat Fway Fnext FisEnd FisFallen Fwritten Fmade Fstate FhandNext FhandSteps FhandWritten FmarkAt Acodes)) sz) (cV D (S := (Int32) × (Nat → Int32)) (fun (u : (Int32) × (Nat → Int32)) => Φ u.1 u.2) (fun u => (wW_X8_puts ak ad h am Fthrown Ftaped Fsize Fplace Fbegin Ftoken Fword Ftold Fwrong u.1 Fat Fway Fnext FisEnd FisFallen Fwritten Fmade Fstate FhandNext FhandSteps FhandWritten FmarkAt u.2)) ((wW_X8_puts ak ad h am Fthrown Ftaped Fsize Fplace Fbegin Ftoken Fword Ftold Fwrong Fcode Fat Fway Fnext FisEnd FisFallen Fwritten Fmade Fstate FhandNext FhandSteps FhandWritten FmarkAt Acodes)) sz) 0 0 (va_A ((wW_X8_puts ak ad h am Fthrown Ftaped Fsize Fplace Fbegin Ftoken Fword Ftold Fwrong Fcode Fat Fway Fnext FisEnd FisFallen Fwritten Fmade Fstate FhandNext FhandSteps FhandWritten FmarkAt Acodes)) sz) := by
  refine Met.ofW (cc := cX8_puts) (maxL := 2) (ret := none) (by decide) rfl ?_
  intro p e s m args below meth c s₁ B hml hv
  obtain ⟨rfl, hsz, hP, hE, hD0, hT⟩ := hv
  have hx := B.exec
  have hb := B.bytes
  have hr := B.returns
  have hts := atoms_spec (ws := wsX8_puts) B.pre
  have hown : s.vm.findClass RX8 = some m.cls := findClass_of_methodNamed B.named
  have hlocks := B.notSynchronized
  subst hsz
  have hD := hD0.self (sz := s.heap.size)
  generalize hAe : va_A ((wW_X8_puts ak ad h am Fthrown Ftaped Fsize Fplace Fbegin Ftoken Fword Ftold Fwrong Fcode Fat Fway Fnext FisEnd FisFallen Fwritten Fmade Fstate FhandNext FhandSteps FhandWritten FmarkAt Acodes)) s.heap.size = A at hD hT ⊢
  have hA : ∀ q : Nat, s.heap.size ≤ q → A q := fun q h => by rw [← hAe]; exact Or.inr h
  have hS : va_S A s.heap s.heap [] := va_S.rf
  have hl := lv_entry ([.ref h, .int (x0)]) (n := 2) (Nat.le_of_ble_eq_true rfl)
  rw [lg_entry_eq]
  generalize (lg_sl ([.ref h, .int (x0)]) ++ List.replicate (2 - (lg_sl ([.ref h, .int (x0)])).length) Slot.unset).toArray = ls at hl ⊢
  have hl : lv_has ls 2 [(0, .ref h), (1, .int (x0))] := hl
  exact kj_X8_puts_e hx hb hown hts hml hE hT hA h am Fthrown Ftaped Fsize Fplace Fbegin Ftoken Fword Ftold Fwrong Fat Fway Fnext FisEnd FisFallen Fwritten Fmade Fstate FhandNext FhandSteps FhandWritten FmarkAt x0 Φ (fun Fcode Acodes H locs ls hw hP hD hS => W.vret hx hb hr (fun t ht hW => ⟨⟨(Fcode, Acodes), rfl, hw, by rw [ht]; exact hP, by rw [hAe]; exact hD⟩, by rw [hAe]; exact hS.F ht⟩) hS.2.2 dX8_puts_20) Fcode Acodes _ _ _ hf hP hD hS hl

def wW_X8_isKept (ak : Nat → ClassId) (ad : Nat → Nat) (h : Nat) (am : Nat → Nat) (Fthrown : Int32) (Ftaped : Int32) (Fsize : Int32) (Fplace : Int32) (Fbegin : Int32) (Ftoken : Int32) (Fword : Int64) (Ftold : Int32) (Fwrong : Int32) (Fcode : Int32) (Fat : Int32) (Fway : Int32) (Fnext : Int32) (FisEnd : Int32) (FisFallen : Int32) (Fwritten : Int32) (Fmade : Int32) (Fstate : Int32) (FhandNext : Int32) (FhandSteps : Int32) (FhandWritten : Int32) (FmarkAt : Int32) : va_W := [(h, .inr (7, mob am (Fthrown) (Ftaped) (Fsize) (Fplace) (Fbegin) (Ftoken) (Fword) (Ftold) (Fwrong) (Fcode) (Fat) (Fway) (Fnext) (FisEnd) (FisFallen) (Fwritten) (Fmade) (Fstate) (FhandNext) (FhandSteps) (FhandWritten) (FmarkAt)))]
def wp_X8_isKept (Ftoken : Int32) (Fword : Int64)  (Φ : Int32 → Prop) : Prop := (Ftoken = 1 → ((lg_cmp Fword 10506516) = 0 → Φ 1 ) ∧ (¬ (lg_cmp Fword 10506516) = 0 → ((lg_cmp Fword 1162531) = 0 → Φ 1 ) ∧ (¬ (lg_cmp Fword 1162531) = 0 → ((lg_cmp Fword 1903978) = 0 → Φ 1 ) ∧ (¬ (lg_cmp Fword 1903978) = 0 → ((lg_cmp Fword 63030) = 0 → Φ 1 ) ∧ (¬ (lg_cmp Fword 63030) = 0 → ((lg_cmp Fword 5070782) = 0 → Φ 1 ) ∧ (¬ (lg_cmp Fword 5070782) = 0 → ((lg_cmp Fword 243140) = 0 → Φ 1 ) ∧ (¬ (lg_cmp Fword 243140) = 0 → ((lg_cmp Fword 14006) = 0 → Φ 1 ) ∧ (¬ (lg_cmp Fword 14006) = 0 → ((lg_cmp Fword 12584543) = 0 → Φ 1 ) ∧ (¬ (lg_cmp Fword 12584543) = 0 → ((lg_cmp Fword 204) = 0 → Φ 1 ) ∧ (¬ (lg_cmp Fword 204) = 0 → ((lg_cmp Fword 249) = 0 → Φ 1 ) ∧ (¬ (lg_cmp Fword 249) = 0 → ((lg_cmp Fword 60114) = 0 → Φ 1 ) ∧ (¬ (lg_cmp Fword 60114) = 0 → ((lg_cmp Fword 220309) = 0 → Φ 1 ) ∧ (¬ (lg_cmp Fword 220309) = 0 → ((lg_cmp Fword 259906) = 0 → Φ 1 ) ∧ (¬ (lg_cmp Fword 259906) = 0 → ((lg_cmp Fword 79) = 0 → Φ 1 ) ∧ (¬ (lg_cmp Fword 79) = 0 → ((lg_cmp Fword 158537) = 0 → Φ 1 ) ∧ (¬ (lg_cmp Fword 158537) = 0 → ((lg_cmp Fword 464144) = 0 → Φ 1 ) ∧ (¬ (lg_cmp Fword 464144) = 0 → ((lg_cmp Fword 10631) = 0 → Φ 1 ) ∧ (¬ (lg_cmp Fword 10631) = 0 → ((lg_cmp Fword 1111) = 0 → Φ 1 ) ∧ (¬ (lg_cmp Fword 1111) = 0 → (¬ (lg_cmp Fword 423) = 0 → Φ 0 ) ∧ ((lg_cmp Fword 423) = 0 → Φ 1 )))))))))))))))))))) ∧ (¬ Ftoken = 1 → Φ 1 )
set_option maxHeartbeats 4000000 in
set_option maxRecDepth 100000 in
theorem kj_X8_isKept_e {p : Program} {l : Launch} {e : Env} {R : Room} {s : State} {m : MethodId} {args : Array Value} {below : List Frame} {meth : Method} {c : Code} {cells slots : Nat} {Q : State → Prop} {A : Nat → Prop} {D : va_G} {ak : Nat → ClassId} {ad : Nat → Nat} (hx : p.tables.exec = Jvm.exec) (hb : c.code = cX8_isKept) (hown : s.vm.findClass RX8 = some m.cls) (hts : ∀ w ∈ wsX8_isKept, w.before args s = true) (hml : c.maxLocals = 1) (hE : EV D ak s) (hT : ST D ak ad A s s.heap) (hA : ∀ q, s.heap.size ≤ q → A q) (h : Nat) (am : Nat → Nat) (Fthrown : Int32) (Ftaped : Int32) (Fsize : Int32) (Fplace : Int32) (Fbegin : Int32) (Ftoken : Int32) (Fword : Int64) (Ftold : Int32) (Fwrong : Int32) (Fcode : Int32) (Fat : Int32) (Fway : Int32) (Fnext : Int32) (FisEnd : Int32) (FisFallen : Int32) (Fwritten : Int32) (Fmade : Int32) (Fstate : Int32) (FhandNext : Int32) (FhandSteps : Int32) (FhandWritten : Int32) (FmarkAt : Int32)  (Φ : Int32 → Prop)
    (kR9 : ∀ (r : Int32)  (H : Heap) (locs : List Loc) (ls : Array Slot), (r = 0 ∨ r = 1) → Φ r  → va_P D vwCl (wW_X8_isKept ak ad h am Fthrown Ftaped Fsize Fplace Fbegin Ftoken Fword Ftold Fwrong Fcode Fat Fway Fnext FisEnd FisFallen Fwritten Fmade Fstate FhandNext FhandSteps FhandWritten FmarkAt) H → va_D A (wW_X8_isKept ak ad h am Fthrown Ftaped Fsize Fplace Fbegin Ftoken Fword Ftold Fwrong Fcode Fat Fway Fnext FisEnd FisFallen Fwritten Fmade Fstate FhandNext FhandSteps FhandWritten FmarkAt) → va_S A s.heap H locs → W p l e R s m args below meth c H locs cells slots Q (F0 m 9 ls [.int r]))
    (kR224 : ∀ (r : Int32)  (H : Heap) (locs : List Loc) (ls : Array Slot), (r = 0 ∨ r = 1) → Φ r  → va_P D vwCl (wW_X8_isKept ak ad h am Fthrown Ftaped Fsize Fplace Fbegin Ftoken Fword Ftold Fwrong Fcode Fat Fway Fnext FisEnd FisFallen Fwritten Fmade Fstate FhandNext FhandSteps FhandWritten FmarkAt) H → va_D A (wW_X8_isKept ak ad h am Fthrown Ftaped Fsize Fplace Fbegin Ftoken Fword Ftold Fwrong Fcode Fat Fway Fnext FisEnd FisFallen Fwritten Fmade Fstate FhandNext FhandSteps FhandWritten FmarkAt) → va_S A s.heap H locs → W p l e R s m args below meth c H locs cells slots Q (F0 m 224 ls [.int r]))
    : ∀  (H : Heap) (locs : List Loc) (ls : Array Slot), wp_X8_isKept Ftoken Fword  Φ → va_P D vwCl (wW_X8_isKept ak ad h am Fthrown Ftaped Fsize Fplace Fbegin Ftoken Fword Ftold Fwrong Fcode Fat Fway Fnext FisEnd FisFallen Fwritten Fmade Fstate FhandNext FhandSteps FhandWritten FmarkAt) H → va_D A (wW_X8_isKept ak ad h am Fthrown Ftaped Fsize Fplace Fbegin Ftoken Fword Ftold Fwrong Fcode Fat Fway Fnext FisEnd FisFallen Fwritten Fmade Fstate FhandNext FhandSteps FhandWritten FmarkAt) → va_S A s.heap H locs → lv_has ls 1 [(0, .ref h)] → W p l e R s m args below meth c H locs cells slots Q (F0 m 0 ls ([])) := by
  intro  H locs ls hw hP hD hS hl
  delta wp_X8_isKept at hw
  refine lv_aload_n hx hb dX8_isKept_0 rfl (lv_at hl 0 rfl) ?_
  refine vt_get (D := D) (ci := 7) (v := .int (Ftoken)) (C := RX8) (T := TX8) (N := 69) hx hb hts (fun w h => wm_c (wc_X8 w h)) hown hE.1 hP 0 rfl rfl 6 (by decide) tX8_6 (hts (.fieldLink RX8 178 "WornLinesModel" "token" "I") (wm_c hw_5)) (fun _ h9 => h9) rfl dX8_isKept_1 ?_
  refine lv_iconst (v := 1) hx hb dX8_isKept_4 (by decide) ?_
  refine lv_icmp_eq (tgt := 10) hx hb dX8_isKept_5 (by decide) (fun c_1 => ?_) (fun c_1 => ?_)
  · replace hw := hw.1 c_1
    refine lv_aload_n hx hb dX8_isKept_10 rfl (lv_at hl 0 rfl) ?_
    refine vt_get (D := D) (ci := 7) (v := .long (Fword)) (C := RX8) (T := TX8) (N := 69) hx hb hts (fun w h => wm_c (wc_X8 w h)) hown hE.1 hP 0 rfl rfl 7 (by decide) tX8_7 (hts (.fieldLink RX8 171 "WornLinesModel" "word" "J") (wm_c hw_9)) (fun _ h9 => h9) rfl dX8_isKept_11 ?_
    refine lv_ldc2 hx hb hown (hts (.constantLong RX8 195 (10506516)) (wm_c hw_19)) dX8_isKept_14 ?_
    refine W.lcmp hx hb dX8_isKept_17 ?_
    refine lv_if_eq (tgt := 219) hx hb dX8_isKept_18 (by decide) (fun c_2 => ?_) (fun c_2 => ?_)
    · replace hw := hw.1 c_2
      refine lv_iconst (v := 1) hx hb dX8_isKept_219 (by decide) ?_
      refine lv_goto (tgt := 224) hx hb dX8_isKept_220 (by decide) ?_
      exact kR224 1  _ _ _ (Or.inr rfl) hw hP hD hS
    · replace hw := hw.2 c_2
      refine lv_aload_n hx hb dX8_isKept_21 rfl (lv_at hl 0 rfl) ?_
      refine vt_get (D := D) (ci := 7) (v := .long (Fword)) (C := RX8) (T := TX8) (N := 69) hx hb hts (fun w h => wm_c (wc_X8 w h)) hown hE.1 hP 0 rfl rfl 7 (by decide) tX8_7 (hts (.fieldLink RX8 171 "WornLinesModel" "word" "J") (wm_c hw_9)) (fun _ h9 => h9) rfl dX8_isKept_22 ?_
      refine lv_ldc2 hx hb hown (hts (.constantLong RX8 197 (1162531)) (wm_c hw_20)) dX8_isKept_25 ?_
      refine W.lcmp hx hb dX8_isKept_28 ?_
      refine lv_if_eq (tgt := 219) hx hb dX8_isKept_29 (by decide) (fun c_3 => ?_) (fun c_3 => ?_)
      · replace hw := hw.1 c_3
        refine lv_iconst (v := 1) hx hb dX8_isKept_219 (by decide) ?_
        refine lv_goto (tgt := 224) hx hb dX8_isKept_220 (by decide) ?_
        exact kR224 1  _ _ _ (Or.inr rfl) hw hP hD hS
      · replace hw := hw.2 c_3
        refine lv_aload_n hx hb dX8_isKept_32 rfl (lv_at hl 0 rfl) ?_
        refine vt_get (D := D) (ci := 7) (v := .long (Fword)) (C := RX8) (T := TX8) (N := 69) hx hb hts (fun w h => wm_c (wc_X8 w h)) hown hE.1 hP 0 rfl rfl 7 (by decide) tX8_7 (hts (.fieldLink RX8 171 "WornLinesModel" "word" "J") (wm_c hw_9)) (fun _ h9 => h9) rfl dX8_isKept_33 ?_
        refine lv_ldc2 hx hb hown (hts (.constantLong RX8 199 (1903978)) (wm_c hw_21)) dX8_isKept_36 ?_
        refine W.lcmp hx hb dX8_isKept_39 ?_
        refine lv_if_eq (tgt := 219) hx hb dX8_isKept_40 (by decide) (fun c_4 => ?_) (fun c_4 => ?_)
        · replace hw := hw.1 c_4
          refine lv_iconst (v := 1) hx hb dX8_isKept_219 (by decide) ?_
          refine lv_goto (tgt := 224) hx hb dX8_isKept_220 (by decide) ?_
          exact kR224 1  _ _ _ (Or.inr rfl) hw hP hD hS
        · replace hw := hw.2 c_4
          refine lv_aload_n hx hb dX8_isKept_43 rfl (lv_at hl 0 rfl) ?_
          refine vt_get (D := D) (ci := 7) (v := .long (Fword)) (C := RX8) (T := TX8) (N := 69) hx hb hts (fun w h => wm_c (wc_X8 w h)) hown hE.1 hP 0 rfl rfl 7 (by decide) tX8_7 (hts (.fieldLink RX8 171 "WornLinesModel" "word" "J") (wm_c hw_9)) (fun _ h9 => h9) rfl dX8_isKept_44 ?_
          refine lv_ldc2 hx hb hown (hts (.constantLong RX8 201 (63030)) (wm_c hw_22)) dX8_isKept_47 ?_
          refine W.lcmp hx hb dX8_isKept_50 ?_
          refine lv_if_eq (tgt := 219) hx hb dX8_isKept_51 (by decide) (fun c_5 => ?_) (fun c_5 => ?_)
          · replace hw := hw.1 c_5
            refine lv_iconst (v := 1) hx hb dX8_isKept_219 (by decide) ?_
            refine lv_goto (tgt := 224) hx hb dX8_isKept_220 (by decide) ?_
            exact kR224 1  _ _ _ (Or.inr rfl) hw hP hD hS
          · replace hw := hw.2 c_5
            refine lv_aload_n hx hb dX8_isKept_54 rfl (lv_at hl 0 rfl) ?_
            refine vt_get (D := D) (ci := 7) (v := .long (Fword)) (C := RX8) (T := TX8) (N := 69) hx hb hts (fun w h => wm_c (wc_X8 w h)) hown hE.1 hP 0 rfl rfl 7 (by decide) tX8_7 (hts (.fieldLink RX8 171 "WornLinesModel" "word" "J") (wm_c hw_9)) (fun _ h9 => h9) rfl dX8_isKept_55 ?_
            refine lv_ldc2 hx hb hown (hts (.constantLong RX8 203 (5070782)) (wm_c hw_23)) dX8_isKept_58 ?_
            refine W.lcmp hx hb dX8_isKept_61 ?_
            refine lv_if_eq (tgt := 219) hx hb dX8_isKept_62 (by decide) (fun c_6 => ?_) (fun c_6 => ?_)
            · replace hw := hw.1 c_6
              refine lv_iconst (v := 1) hx hb dX8_isKept_219 (by decide) ?_
              refine lv_goto (tgt := 224) hx hb dX8_isKept_220 (by decide) ?_
              exact kR224 1  _ _ _ (Or.inr rfl) hw hP hD hS
            · replace hw := hw.2 c_6
              refine lv_aload_n hx hb dX8_isKept_65 rfl (lv_at hl 0 rfl) ?_
              refine vt_get (D := D) (ci := 7) (v := .long (Fword)) (C := RX8) (T := TX8) (N := 69) hx hb hts (fun w h => wm_c (wc_X8 w h)) hown hE.1 hP 0 rfl rfl 7 (by decide) tX8_7 (hts (.fieldLink RX8 171 "WornLinesModel" "word" "J") (wm_c hw_9)) (fun _ h9 => h9) rfl dX8_isKept_66 ?_
              refine lv_ldc2 hx hb hown (hts (.constantLong RX8 205 (243140)) (wm_c hw_24)) dX8_isKept_69 ?_
              refine W.lcmp hx hb dX8_isKept_72 ?_
              refine lv_if_eq (tgt := 219) hx hb dX8_isKept_73 (by decide) (fun c_7 => ?_) (fun c_7 => ?_)
              · replace hw := hw.1 c_7
                refine lv_iconst (v := 1) hx hb dX8_isKept_219 (by decide) ?_
                refine lv_goto (tgt := 224) hx hb dX8_isKept_220 (by decide) ?_
                exact kR224 1  _ _ _ (Or.inr rfl) hw hP hD hS
              · replace hw := hw.2 c_7
                refine lv_aload_n hx hb dX8_isKept_76 rfl (lv_at hl 0 rfl) ?_
                refine vt_get (D := D) (ci := 7) (v := .long (Fword)) (C := RX8) (T := TX8) (N := 69) hx hb hts (fun w h => wm_c (wc_X8 w h)) hown hE.1 hP 0 rfl rfl 7 (by decide) tX8_7 (hts (.fieldLink RX8 171 "WornLinesModel" "word" "J") (wm_c hw_9)) (fun _ h9 => h9) rfl dX8_isKept_77 ?_
                refine lv_ldc2 hx hb hown (hts (.constantLong RX8 207 (14006)) (wm_c hw_25)) dX8_isKept_80 ?_
                refine W.lcmp hx hb dX8_isKept_83 ?_
                refine lv_if_eq (tgt := 219) hx hb dX8_isKept_84 (by decide) (fun c_8 => ?_) (fun c_8 => ?_)
                · replace hw := hw.1 c_8
                  refine lv_iconst (v := 1) hx hb dX8_isKept_219 (by decide) ?_
                  refine lv_goto (tgt := 224) hx hb dX8_isKept_220 (by decide) ?_
                  exact kR224 1  _ _ _ (Or.inr rfl) hw hP hD hS
                · replace hw := hw.2 c_8
                  refine lv_aload_n hx hb dX8_isKept_87 rfl (lv_at hl 0 rfl) ?_
                  refine vt_get (D := D) (ci := 7) (v := .long (Fword)) (C := RX8) (T := TX8) (N := 69) hx hb hts (fun w h => wm_c (wc_X8 w h)) hown hE.1 hP 0 rfl rfl 7 (by decide) tX8_7 (hts (.fieldLink RX8 171 "WornLinesModel" "word" "J") (wm_c hw_9)) (fun _ h9 => h9) rfl dX8_isKept_88 ?_
                  refine lv_ldc2 hx hb hown (hts (.constantLong RX8 209 (12584543)) (wm_c hw_26)) dX8_isKept_91 ?_
                  refine W.lcmp hx hb dX8_isKept_94 ?_
                  refine lv_if_eq (tgt := 219) hx hb dX8_isKept_95 (by decide) (fun c_9 => ?_) (fun c_9 => ?_)
                  · replace hw := hw.1 c_9
                    refine lv_iconst (v := 1) hx hb dX8_isKept_219 (by decide) ?_
                    refine lv_goto (tgt := 224) hx hb dX8_isKept_220 (by decide) ?_
                    exact kR224 1  _ _ _ (Or.inr rfl) hw hP hD hS
                  · replace hw := hw.2 c_9
                    refine lv_aload_n hx hb dX8_isKept_98 rfl (lv_at hl 0 rfl) ?_
                    refine vt_get (D := D) (ci := 7) (v := .long (Fword)) (C := RX8) (T := TX8) (N := 69) hx hb hts (fun w h => wm_c (wc_X8 w h)) hown hE.1 hP 0 rfl rfl 7 (by decide) tX8_7 (hts (.fieldLink RX8 171 "WornLinesModel" "word" "J") (wm_c hw_9)) (fun _ h9 => h9) rfl dX8_isKept_99 ?_
                    refine lv_ldc2 hx hb hown (hts (.constantLong RX8 211 (204)) (wm_c hw_27)) dX8_isKept_102 ?_
                    refine W.lcmp hx hb dX8_isKept_105 ?_
                    refine lv_if_eq (tgt := 219) hx hb dX8_isKept_106 (by decide) (fun c_10 => ?_) (fun c_10 => ?_)
                    · replace hw := hw.1 c_10
                      refine lv_iconst (v := 1) hx hb dX8_isKept_219 (by decide) ?_
                      refine lv_goto (tgt := 224) hx hb dX8_isKept_220 (by decide) ?_
                      exact kR224 1  _ _ _ (Or.inr rfl) hw hP hD hS
                    · replace hw := hw.2 c_10
                      refine lv_aload_n hx hb dX8_isKept_109 rfl (lv_at hl 0 rfl) ?_
                      refine vt_get (D := D) (ci := 7) (v := .long (Fword)) (C := RX8) (T := TX8) (N := 69) hx hb hts (fun w h => wm_c (wc_X8 w h)) hown hE.1 hP 0 rfl rfl 7 (by decide) tX8_7 (hts (.fieldLink RX8 171 "WornLinesModel" "word" "J") (wm_c hw_9)) (fun _ h9 => h9) rfl dX8_isKept_110 ?_
                      refine lv_ldc2 hx hb hown (hts (.constantLong RX8 213 (249)) (wm_c hw_28)) dX8_isKept_113 ?_
                      refine W.lcmp hx hb dX8_isKept_116 ?_
                      refine lv_if_eq (tgt := 219) hx hb dX8_isKept_117 (by decide) (fun c_11 => ?_) (fun c_11 => ?_)
                      · replace hw := hw.1 c_11
                        refine lv_iconst (v := 1) hx hb dX8_isKept_219 (by decide) ?_
                        refine lv_goto (tgt := 224) hx hb dX8_isKept_220 (by decide) ?_
                        exact kR224 1  _ _ _ (Or.inr rfl) hw hP hD hS
                      · replace hw := hw.2 c_11
                        refine lv_aload_n hx hb dX8_isKept_120 rfl (lv_at hl 0 rfl) ?_
                        refine vt_get (D := D) (ci := 7) (v := .long (Fword)) (C := RX8) (T := TX8) (N := 69) hx hb hts (fun w h => wm_c (wc_X8 w h)) hown hE.1 hP 0 rfl rfl 7 (by decide) tX8_7 (hts (.fieldLink RX8 171 "WornLinesModel" "word" "J") (wm_c hw_9)) (fun _ h9 => h9) rfl dX8_isKept_121 ?_
                        refine lv_ldc2 hx hb hown (hts (.constantLong RX8 215 (60114)) (wm_c hw_29)) dX8_isKept_124 ?_
                        refine W.lcmp hx hb dX8_isKept_127 ?_
                        refine lv_if_eq (tgt := 219) hx hb dX8_isKept_128 (by decide) (fun c_12 => ?_) (fun c_12 => ?_)
                        · replace hw := hw.1 c_12
                          refine lv_iconst (v := 1) hx hb dX8_isKept_219 (by decide) ?_
                          refine lv_goto (tgt := 224) hx hb dX8_isKept_220 (by decide) ?_
                          exact kR224 1  _ _ _ (Or.inr rfl) hw hP hD hS
                        · replace hw := hw.2 c_12
                          refine lv_aload_n hx hb dX8_isKept_131 rfl (lv_at hl 0 rfl) ?_
                          refine vt_get (D := D) (ci := 7) (v := .long (Fword)) (C := RX8) (T := TX8) (N := 69) hx hb hts (fun w h => wm_c (wc_X8 w h)) hown hE.1 hP 0 rfl rfl 7 (by decide) tX8_7 (hts (.fieldLink RX8 171 "WornLinesModel" "word" "J") (wm_c hw_9)) (fun _ h9 => h9) rfl dX8_isKept_132 ?_
                          refine lv_ldc2 hx hb hown (hts (.constantLong RX8 217 (220309)) (wm_c hw_30)) dX8_isKept_135 ?_
                          refine W.lcmp hx hb dX8_isKept_138 ?_
                          refine lv_if_eq (tgt := 219) hx hb dX8_isKept_139 (by decide) (fun c_13 => ?_) (fun c_13 => ?_)
                          · replace hw := hw.1 c_13
                            refine lv_iconst (v := 1) hx hb dX8_isKept_219 (by decide) ?_
                            refine lv_goto (tgt := 224) hx hb dX8_isKept_220 (by decide) ?_
                            exact kR224 1  _ _ _ (Or.inr rfl) hw hP hD hS
                          · replace hw := hw.2 c_13
                            refine lv_aload_n hx hb dX8_isKept_142 rfl (lv_at hl 0 rfl) ?_
                            refine vt_get (D := D) (ci := 7) (v := .long (Fword)) (C := RX8) (T := TX8) (N := 69) hx hb hts (fun w h => wm_c (wc_X8 w h)) hown hE.1 hP 0 rfl rfl 7 (by decide) tX8_7 (hts (.fieldLink RX8 171 "WornLinesModel" "word" "J") (wm_c hw_9)) (fun _ h9 => h9) rfl dX8_isKept_143 ?_
                            refine lv_ldc2 hx hb hown (hts (.constantLong RX8 219 (259906)) (wm_c hw_31)) dX8_isKept_146 ?_
                            refine W.lcmp hx hb dX8_isKept_149 ?_
                            refine lv_if_eq (tgt := 219) hx hb dX8_isKept_150 (by decide) (fun c_14 => ?_) (fun c_14 => ?_)
                            · replace hw := hw.1 c_14
                              refine lv_iconst (v := 1) hx hb dX8_isKept_219 (by decide) ?_
                              refine lv_goto (tgt := 224) hx hb dX8_isKept_220 (by decide) ?_
                              exact kR224 1  _ _ _ (Or.inr rfl) hw hP hD hS
                            · replace hw := hw.2 c_14
                              refine lv_aload_n hx hb dX8_isKept_153 rfl (lv_at hl 0 rfl) ?_
                              refine vt_get (D := D) (ci := 7) (v := .long (Fword)) (C := RX8) (T := TX8) (N := 69) hx hb hts (fun w h => wm_c (wc_X8 w h)) hown hE.1 hP 0 rfl rfl 7 (by decide) tX8_7 (hts (.fieldLink RX8 171 "WornLinesModel" "word" "J") (wm_c hw_9)) (fun _ h9 => h9) rfl dX8_isKept_154 ?_
                              refine lv_ldc2 hx hb hown (hts (.constantLong RX8 221 (79)) (wm_c hw_32)) dX8_isKept_157 ?_
                              refine W.lcmp hx hb dX8_isKept_160 ?_
                              refine lv_if_eq (tgt := 219) hx hb dX8_isKept_161 (by decide) (fun c_15 => ?_) (fun c_15 => ?_)
                              · replace hw := hw.1 c_15
                                refine lv_iconst (v := 1) hx hb dX8_isKept_219 (by decide) ?_
                                refine lv_goto (tgt := 224) hx hb dX8_isKept_220 (by decide) ?_
                                exact kR224 1  _ _ _ (Or.inr rfl) hw hP hD hS
                              · replace hw := hw.2 c_15
                                refine lv_aload_n hx hb dX8_isKept_164 rfl (lv_at hl 0 rfl) ?_
                                refine vt_get (D := D) (ci := 7) (v := .long (Fword)) (C := RX8) (T := TX8) (N := 69) hx hb hts (fun w h => wm_c (wc_X8 w h)) hown hE.1 hP 0 rfl rfl 7 (by decide) tX8_7 (hts (.fieldLink RX8 171 "WornLinesModel" "word" "J") (wm_c hw_9)) (fun _ h9 => h9) rfl dX8_isKept_165 ?_
                                refine lv_ldc2 hx hb hown (hts (.constantLong RX8 223 (158537)) (wm_c hw_33)) dX8_isKept_168 ?_
                                refine W.lcmp hx hb dX8_isKept_171 ?_
                                refine lv_if_eq (tgt := 219) hx hb dX8_isKept_172 (by decide) (fun c_16 => ?_) (fun c_16 => ?_)
                                · replace hw := hw.1 c_16
                                  refine lv_iconst (v := 1) hx hb dX8_isKept_219 (by decide) ?_
                                  refine lv_goto (tgt := 224) hx hb dX8_isKept_220 (by decide) ?_
                                  exact kR224 1  _ _ _ (Or.inr rfl) hw hP hD hS
                                · replace hw := hw.2 c_16
                                  refine lv_aload_n hx hb dX8_isKept_175 rfl (lv_at hl 0 rfl) ?_
                                  refine vt_get (D := D) (ci := 7) (v := .long (Fword)) (C := RX8) (T := TX8) (N := 69) hx hb hts (fun w h => wm_c (wc_X8 w h)) hown hE.1 hP 0 rfl rfl 7 (by decide) tX8_7 (hts (.fieldLink RX8 171 "WornLinesModel" "word" "J") (wm_c hw_9)) (fun _ h9 => h9) rfl dX8_isKept_176 ?_
                                  refine lv_ldc2 hx hb hown (hts (.constantLong RX8 225 (464144)) (wm_c hw_34)) dX8_isKept_179 ?_
                                  refine W.lcmp hx hb dX8_isKept_182 ?_
                                  refine lv_if_eq (tgt := 219) hx hb dX8_isKept_183 (by decide) (fun c_17 => ?_) (fun c_17 => ?_)
                                  · replace hw := hw.1 c_17
                                    refine lv_iconst (v := 1) hx hb dX8_isKept_219 (by decide) ?_
                                    refine lv_goto (tgt := 224) hx hb dX8_isKept_220 (by decide) ?_
                                    exact kR224 1  _ _ _ (Or.inr rfl) hw hP hD hS
                                  · replace hw := hw.2 c_17
                                    refine lv_aload_n hx hb dX8_isKept_186 rfl (lv_at hl 0 rfl) ?_
                                    refine vt_get (D := D) (ci := 7) (v := .long (Fword)) (C := RX8) (T := TX8) (N := 69) hx hb hts (fun w h => wm_c (wc_X8 w h)) hown hE.1 hP 0 rfl rfl 7 (by decide) tX8_7 (hts (.fieldLink RX8 171 "WornLinesModel" "word" "J") (wm_c hw_9)) (fun _ h9 => h9) rfl dX8_isKept_187 ?_
                                    refine lv_ldc2 hx hb hown (hts (.constantLong RX8 227 (10631)) (wm_c hw_35)) dX8_isKept_190 ?_
                                    refine W.lcmp hx hb dX8_isKept_193 ?_
                                    refine lv_if_eq (tgt := 219) hx hb dX8_isKept_194 (by decide) (fun c_18 => ?_) (fun c_18 => ?_)
                                    · replace hw := hw.1 c_18
                                      refine lv_iconst (v := 1) hx hb dX8_isKept_219 (by decide) ?_
                                      refine lv_goto (tgt := 224) hx hb dX8_isKept_220 (by decide) ?_
                                      exact kR224 1  _ _ _ (Or.inr rfl) hw hP hD hS
                                    · replace hw := hw.2 c_18
                                      refine lv_aload_n hx hb dX8_isKept_197 rfl (lv_at hl 0 rfl) ?_
                                      refine vt_get (D := D) (ci := 7) (v := .long (Fword)) (C := RX8) (T := TX8) (N := 69) hx hb hts (fun w h => wm_c (wc_X8 w h)) hown hE.1 hP 0 rfl rfl 7 (by decide) tX8_7 (hts (.fieldLink RX8 171 "WornLinesModel" "word" "J") (wm_c hw_9)) (fun _ h9 => h9) rfl dX8_isKept_198 ?_
                                      refine lv_ldc2 hx hb hown (hts (.constantLong RX8 229 (1111)) (wm_c hw_36)) dX8_isKept_201 ?_
                                      refine W.lcmp hx hb dX8_isKept_204 ?_
                                      refine lv_if_eq (tgt := 219) hx hb dX8_isKept_205 (by decide) (fun c_19 => ?_) (fun c_19 => ?_)
                                      · replace hw := hw.1 c_19
                                        refine lv_iconst (v := 1) hx hb dX8_isKept_219 (by decide) ?_
                                        refine lv_goto (tgt := 224) hx hb dX8_isKept_220 (by decide) ?_
                                        exact kR224 1  _ _ _ (Or.inr rfl) hw hP hD hS
                                      · replace hw := hw.2 c_19
                                        refine lv_aload_n hx hb dX8_isKept_208 rfl (lv_at hl 0 rfl) ?_
                                        refine vt_get (D := D) (ci := 7) (v := .long (Fword)) (C := RX8) (T := TX8) (N := 69) hx hb hts (fun w h => wm_c (wc_X8 w h)) hown hE.1 hP 0 rfl rfl 7 (by decide) tX8_7 (hts (.fieldLink RX8 171 "WornLinesModel" "word" "J") (wm_c hw_9)) (fun _ h9 => h9) rfl dX8_isKept_209 ?_
                                        refine lv_ldc2 hx hb hown (hts (.constantLong RX8 231 (423)) (wm_c hw_37)) dX8_isKept_212 ?_
                                        refine W.lcmp hx hb dX8_isKept_215 ?_
                                        refine lv_if_ne (tgt := 223) hx hb dX8_isKept_216 (by decide) (fun c_20 => ?_) (fun c_20 => ?_)
                                        · replace hw := hw.1 c_20
                                          refine lv_iconst (v := 0) hx hb dX8_isKept_223 (by decide) ?_
                                          exact kR224 0  _ _ _ (Or.inl rfl) hw hP hD hS
                                        · replace hw := hw.2 c_20
                                          refine lv_iconst (v := 1) hx hb dX8_isKept_219 (by decide) ?_
                                          refine lv_goto (tgt := 224) hx hb dX8_isKept_220 (by decide) ?_
                                          exact kR224 1  _ _ _ (Or.inr rfl) hw hP hD hS
  · replace hw := hw.2 c_1
    refine lv_iconst (v := 1) hx hb dX8_isKept_8 (by decide) ?_
    exact kR9 1  _ _ _ (Or.inr rfl) hw hP hD hS
set_option maxHeartbeats 4000000 in
set_option maxRecDepth 100000 in
theorem c_X8_isKept (l : Launch) (D : va_G) (ak : Nat → ClassId) (ad : Nat → Nat) (sz : Nat) (h : Nat) (am : Nat → Nat) (Fthrown : Int32) (Ftaped : Int32) (Fsize : Int32) (Fplace : Int32) (Fbegin : Int32) (Ftoken : Int32) (Fword : Int64) (Ftold : Int32) (Fwrong : Int32) (Fcode : Int32) (Fat : Int32) (Fway : Int32) (Fnext : Int32) (FisEnd : Int32) (FisFallen : Int32) (Fwritten : Int32) (Fmade : Int32) (Fstate : Int32) (FhandNext : Int32) (FhandSteps : Int32) (FhandWritten : Int32) (FmarkAt : Int32) (Φ : Int32 → Prop) (hf : wp_X8_isKept Ftoken Fword Φ) : Met l yX8_isKept wsX8_isKept ({ frames := 0, cells := 0, slots := 0, locals := 0 }) (cPre D ak ad [.ref h] ((wW_X8_isKept ak ad h am Fthrown Ftaped Fsize Fplace Fbegin Ftoken Fword Ftold Fwrong Fcode Fat Fway Fnext FisEnd FisFallen Fwritten Fmade Fstate FhandNext FhandSteps FhandWritten FmarkAt)) sz) (cI D (S := Unit) (fun (r : Int32) (u : Unit) => Φ r ) (fun u => (wW_X8_isKept ak ad h am Fthrown Ftaped Fsize Fplace Fbegin Ftoken Fword Ftold Fwrong Fcode Fat Fway Fnext FisEnd FisFallen Fwritten Fmade Fstate FhandNext FhandSteps FhandWritten FmarkAt)) ((wW_X8_isKept ak ad h am Fthrown Ftaped Fsize Fplace Fbegin Ftoken Fword Ftold Fwrong Fcode Fat Fway Fnext FisEnd FisFallen Fwritten Fmade Fstate FhandNext FhandSteps FhandWritten FmarkAt)) sz) 0 0 (va_A ((wW_X8_isKept ak ad h am Fthrown Ftaped Fsize Fplace Fbegin Ftoken Fword Ftold Fwrong Fcode Fat Fway Fnext FisEnd FisFallen Fwritten Fmade Fstate FhandNext FhandSteps FhandWritten FmarkAt)) sz) := by
  refine Met.ofW (cc := cX8_isKept) (maxL := 1) (ret := (some .boolean)) (by decide) rfl ?_
  intro p e s m args below meth c s₁ B hml hv
  obtain ⟨rfl, hsz, hP, hE, hD0, hT⟩ := hv
  have hx := B.exec
  have hb := B.bytes
  have hr := B.returns
  have hts := atoms_spec (ws := wsX8_isKept) B.pre
  have hown : s.vm.findClass RX8 = some m.cls := findClass_of_methodNamed B.named
  have hlocks := B.notSynchronized
  subst hsz
  have hD := hD0.self (sz := s.heap.size)
  generalize hAe : va_A ((wW_X8_isKept ak ad h am Fthrown Ftaped Fsize Fplace Fbegin Ftoken Fword Ftold Fwrong Fcode Fat Fway Fnext FisEnd FisFallen Fwritten Fmade Fstate FhandNext FhandSteps FhandWritten FmarkAt)) s.heap.size = A at hD hT ⊢
  have hA : ∀ q : Nat, s.heap.size ≤ q → A q := fun q h => by rw [← hAe]; exact Or.inr h
  have hS : va_S A s.heap s.heap [] := va_S.rf
  have hl := lv_entry ([.ref h]) (n := 1) (Nat.le_of_ble_eq_true rfl)
  rw [lg_entry_eq]
  generalize (lg_sl ([.ref h]) ++ List.replicate (1 - (lg_sl ([.ref h])).length) Slot.unset).toArray = ls at hl ⊢
  have hl : lv_has ls 1 [(0, .ref h)] := hl
  exact kj_X8_isKept_e hx hb hown hts hml hE hT hA h am Fthrown Ftaped Fsize Fplace Fbegin Ftoken Fword Ftold Fwrong Fcode Fat Fway Fnext FisEnd FisFallen Fwritten Fmade Fstate FhandNext FhandSteps FhandWritten FmarkAt Φ (fun r  H locs ls hz hw hP hD hS => W.zret (v := r) hx hb hr (bl_zn hz) (fun t ht hW => ⟨⟨r, (), rfl, hw, by rw [ht]; exact hP, by rw [hAe]; exact hD⟩, by rw [hAe]; exact hS.F ht⟩) hS.2.2 dX8_isKept_9) (fun r  H locs ls hz hw hP hD hS => W.zret (v := r) hx hb hr (bl_zn hz) (fun t ht hW => ⟨⟨r, (), rfl, hw, by rw [ht]; exact hP, by rw [hAe]; exact hD⟩, by rw [hAe]; exact hS.F ht⟩) hS.2.2 dX8_isKept_224)  _ _ _ hf hP hD hS hl

def wW_X8_cellOf (ak : Nat → ClassId) (ad : Nat → Nat) (h : Nat) (am : Nat → Nat) (Fthrown : Int32) (Ftaped : Int32) (Fsize : Int32) (Fplace : Int32) (Fbegin : Int32) (Ftoken : Int32) (Fword : Int64) (Ftold : Int32) (Fwrong : Int32) (Fcode : Int32) (Fat : Int32) (Fway : Int32) (Fnext : Int32) (FisEnd : Int32) (FisFallen : Int32) (Fwritten : Int32) (Fmade : Int32) (Fstate : Int32) (FhandNext : Int32) (FhandSteps : Int32) (FhandWritten : Int32) (FmarkAt : Int32) (Acells : Nat → Int32) (AcellName : Nat → Int64) : va_W := [(h, .inr (7, mob am (Fthrown) (Ftaped) (Fsize) (Fplace) (Fbegin) (Ftoken) (Fword) (Ftold) (Fwrong) (Fcode) (Fat) (Fway) (Fnext) (FisEnd) (FisFallen) (Fwritten) (Fmade) (Fstate) (FhandNext) (FhandSteps) (FhandWritten) (FmarkAt))), ((am 2), .inl (ak 0, 6, .inl (Acells))), ((am 6), .inl (ak 1, 6, .inr (.inl (AcellName))))]
def lb_X8_cellOf_2 (Fword : Int64) (Acells : Nat → Int32) (AcellName : Nat → Int64)  (Φ : Int32 → Prop) (back : Int32 → Prop) (l1 : Int32) : Prop := ((Acells 1) ≤ l1 → Φ (-1) ) ∧ (¬ (Acells 1) ≤ l1 → vp_in l1 6 ∧ (¬ (lg_cmp (AcellName (l1).toNatClampNeg) Fword) = 0 → back (l1 + 1)) ∧ ((lg_cmp (AcellName (l1).toNatClampNeg) Fword) = 0 → Φ l1 ))
def lf_X8_cellOf_2 (Fword : Int64) (Acells : Nat → Int32) (AcellName : Nat → Int64)  (Φ : Int32 → Prop) : Nat → Int32 → Prop
  | 0, _ => False
  | n_ + 1, l1 => lb_X8_cellOf_2 Fword Acells AcellName  Φ (lf_X8_cellOf_2 Fword Acells AcellName  Φ n_) l1
theorem li_X8_cellOf_2 (Fword : Int64) (Acells : Nat → Int32) (AcellName : Nat → Int64)  (Φ : Int32 → Prop) (Inv : Int32 → Prop) (mu : Int32 → Nat) (hs : ∀ (back : Int32 → Prop) (l1 : Int32), Inv l1 → (∀ (l1' : Int32), Inv l1' → mu l1' < mu l1 → back l1') → lb_X8_cellOf_2 Fword Acells AcellName  Φ back l1) : ∀ (n_ : Nat) (l1 : Int32), Inv l1 → mu l1 < n_ → lf_X8_cellOf_2 Fword Acells AcellName  Φ n_ l1 := by
  intro n_
  induction n_ with
  | zero => intro l1 _ h; exact absurd h (Nat.not_lt_zero _)
  | succ n_ ih => intro l1 hI hm; exact hs _ l1 hI (fun l1' h1 h2 => ih l1' h1 (by omega))
set_option maxHeartbeats 4000000 in
set_option maxRecDepth 100000 in
theorem lp_X8_cellOf_2 {p : Program} {l : Launch} {e : Env} {R : Room} {s : State} {m : MethodId} {args : Array Value} {below : List Frame} {meth : Method} {c : Code} {cells slots : Nat} {Q : State → Prop} {A : Nat → Prop} {D : va_G} {ak : Nat → ClassId} {ad : Nat → Nat} (hx : p.tables.exec = Jvm.exec) (hb : c.code = cX8_cellOf) (hown : s.vm.findClass RX8 = some m.cls) (hts : ∀ w ∈ wsX8_cellOf, w.before args s = true) (hml : c.maxLocals = 2) (hE : EV D ak s) (hT : ST D ak ad A s s.heap) (hA : ∀ q, s.heap.size ≤ q → A q) (h : Nat) (am : Nat → Nat) (Fthrown : Int32) (Ftaped : Int32) (Fsize : Int32) (Fplace : Int32) (Fbegin : Int32) (Ftoken : Int32) (Fword : Int64) (Ftold : Int32) (Fwrong : Int32) (Fcode : Int32) (Fat : Int32) (Fway : Int32) (Fnext : Int32) (FisEnd : Int32) (FisFallen : Int32) (Fwritten : Int32) (Fmade : Int32) (Fstate : Int32) (FhandNext : Int32) (FhandSteps : Int32) (FhandWritten : Int32) (FmarkAt : Int32) (Acells : Nat → Int32) (AcellName : Nat → Int64)  (Φ : Int32 → Prop)
    (kR27 : ∀ (r : Int32)  (H : Heap) (locs : List Loc) (ls : Array Slot), Φ r  → va_P D vwCl (wW_X8_cellOf ak ad h am Fthrown Ftaped Fsize Fplace Fbegin Ftoken Fword Ftold Fwrong Fcode Fat Fway Fnext FisEnd FisFallen Fwritten Fmade Fstate FhandNext FhandSteps FhandWritten FmarkAt Acells AcellName) H → va_D A (wW_X8_cellOf ak ad h am Fthrown Ftaped Fsize Fplace Fbegin Ftoken Fword Ftold Fwrong Fcode Fat Fway Fnext FisEnd FisFallen Fwritten Fmade Fstate FhandNext FhandSteps FhandWritten FmarkAt Acells AcellName) → va_S A s.heap H locs → W p l e R s m args below meth c H locs cells slots Q (F0 m 27 ls [.int r]))
    (kR35 : ∀ (r : Int32)  (H : Heap) (locs : List Loc) (ls : Array Slot), Φ r  → va_P D vwCl (wW_X8_cellOf ak ad h am Fthrown Ftaped Fsize Fplace Fbegin Ftoken Fword Ftold Fwrong Fcode Fat Fway Fnext FisEnd FisFallen Fwritten Fmade Fstate FhandNext FhandSteps FhandWritten FmarkAt Acells AcellName) H → va_D A (wW_X8_cellOf ak ad h am Fthrown Ftaped Fsize Fplace Fbegin Ftoken Fword Ftold Fwrong Fcode Fat Fway Fnext FisEnd FisFallen Fwritten Fmade Fstate FhandNext FhandSteps FhandWritten FmarkAt Acells AcellName) → va_S A s.heap H locs → W p l e R s m args below meth c H locs cells slots Q (F0 m 35 ls [.int r]))
    : ∀ (n_ : Nat) (l1 : Int32) (H : Heap) (locs : List Loc) (ls : Array Slot), lf_X8_cellOf_2 Fword Acells AcellName  Φ n_ l1 → va_P D vwCl (wW_X8_cellOf ak ad h am Fthrown Ftaped Fsize Fplace Fbegin Ftoken Fword Ftold Fwrong Fcode Fat Fway Fnext FisEnd FisFallen Fwritten Fmade Fstate FhandNext FhandSteps FhandWritten FmarkAt Acells AcellName) H → va_D A (wW_X8_cellOf ak ad h am Fthrown Ftaped Fsize Fplace Fbegin Ftoken Fword Ftold Fwrong Fcode Fat Fway Fnext FisEnd FisFallen Fwritten Fmade Fstate FhandNext FhandSteps FhandWritten FmarkAt Acells AcellName) → va_S A s.heap H locs → lv_has ls 2 [(0, .ref h), (1, .int (l1))] → W p l e R s m args below meth c H locs cells slots Q (F0 m 2 ls ([])) := by
  intro n_
  induction n_ with
  | zero =>
    intro l1 H locs ls hw
    exact hw.elim
  | succ n_ ih =>
    intro l1 H locs ls hw hP hD hS hl
    have hw : lb_X8_cellOf_2 Fword Acells AcellName  Φ (lf_X8_cellOf_2 Fword Acells AcellName  Φ n_) l1 := hw
    delta lb_X8_cellOf_2 at hw
    refine lv_iload_n hx hb dX8_cellOf_2 rfl (lv_at hl 1 rfl) ?_
    refine lv_aload_n hx hb dX8_cellOf_3 rfl (lv_at hl 0 rfl) ?_
    refine vt_get (D := D) (ci := 7) (v := .ref (am 2)) (C := RX8) (T := TX8) (N := 69) hx hb hts (fun w h => wm_c (wc_X8 w h)) hown hE.1 hP 0 rfl rfl 11 (by decide) tX8_11 (hts (.fieldLink RX8 16 "WornLinesModel" "cells" "[I") (wm_c hw_38)) (fun _ h9 => h9) rfl dX8_cellOf_4 ?_
    refine lv_iconst (v := 1) hx hb dX8_cellOf_7 (by decide) ?_
    refine va_iald hx hb hE.1 hP 1 0 rfl rfl (by unfold vp_in; decide) dX8_cellOf_8 ?_
    refine W.eq (g2 := F0 m 9 ls (.int (Acells 1) :: .int (l1) :: [])) rfl ?_
    refine lv_icmp_ge (tgt := 34) hx hb dX8_cellOf_9 (by decide) (fun c_1 => ?_) (fun c_1 => ?_)
    · replace hw := hw.1 c_1
      refine lv_iconst (v := (-1)) hx hb dX8_cellOf_34 (by decide) ?_
      exact kR35 (-1)  _ _ _ hw hP hD hS
    · replace hw := hw.2 c_1
      refine lv_aload_n hx hb dX8_cellOf_12 rfl (lv_at hl 0 rfl) ?_
      refine vt_get (D := D) (ci := 7) (v := .ref (am 6)) (C := RX8) (T := TX8) (N := 69) hx hb hts (fun w h => wm_c (wc_X8 w h)) hown hE.1 hP 0 rfl rfl 15 (by decide) tX8_15 (hts (.fieldLink RX8 29 "WornLinesModel" "cellName" "[J") (wm_c hw_39)) (fun _ h9 => h9) rfl dX8_cellOf_13 ?_
      refine lv_iload_n hx hb dX8_cellOf_16 rfl (lv_at hl 1 rfl) ?_
      obtain ⟨h_2, hw⟩ := hw
      refine va_lald hx hb hE.1 hP 2 1 rfl rfl (h_2) dX8_cellOf_17 ?_
      refine lv_aload_n hx hb dX8_cellOf_18 rfl (lv_at hl 0 rfl) ?_
      refine vt_get (D := D) (ci := 7) (v := .long (Fword)) (C := RX8) (T := TX8) (N := 69) hx hb hts (fun w h => wm_c (wc_X8 w h)) hown hE.1 hP 0 rfl rfl 7 (by decide) tX8_7 (hts (.fieldLink RX8 171 "WornLinesModel" "word" "J") (wm_c hw_9)) (fun _ h9 => h9) rfl dX8_cellOf_19 ?_
      refine W.lcmp hx hb dX8_cellOf_22 ?_
      refine lv_if_ne (tgt := 28) hx hb dX8_cellOf_23 (by decide) (fun c_3 => ?_) (fun c_3 => ?_)
      · replace hw := hw.1 c_3
        refine lv_iinc (v := (l1 + 1)) (lv' := [(1, .int (l1 + 1)), (0, .ref h)]) hx hb dX8_cellOf_28 hl (k := 1) rfl (rfl) (by decide) rfl (fun ls hl => ?_)
        refine lv_goto (tgt := 2) hx hb dX8_cellOf_31 (by decide) ?_
        exact ih (l1 + 1) _ _ _ hw hP hD hS (lv_sub hl [1, 0] rfl)
      · replace hw := hw.2 c_3
        refine lv_iload_n hx hb dX8_cellOf_26 rfl (lv_at hl 1 rfl) ?_
        exact kR27 l1  _ _ _ hw hP hD hS

def wp_X8_cellOf (Fword : Int64) (Acells : Nat → Int32) (AcellName : Nat → Int64)  (Φ : Int32 → Prop) : Prop := (∃ n_, lf_X8_cellOf_2 Fword Acells AcellName  Φ n_ 0)
set_option maxHeartbeats 4000000 in
set_option maxRecDepth 100000 in
theorem kj_X8_cellOf_e {p : Program} {l : Launch} {e : Env} {R : Room} {s : State} {m : MethodId} {args : Array Value} {below : List Frame} {meth : Method} {c : Code} {cells slots : Nat} {Q : State → Prop} {A : Nat → Prop} {D : va_G} {ak : Nat → ClassId} {ad : Nat → Nat} (hx : p.tables.exec = Jvm.exec) (hb : c.code = cX8_cellOf) (hown : s.vm.findClass RX8 = some m.cls) (hts : ∀ w ∈ wsX8_cellOf, w.before args s = true) (hml : c.maxLocals = 2) (hE : EV D ak s) (hT : ST D ak ad A s s.heap) (hA : ∀ q, s.heap.size ≤ q → A q) (h : Nat) (am : Nat → Nat) (Fthrown : Int32) (Ftaped : Int32) (Fsize : Int32) (Fplace : Int32) (Fbegin : Int32) (Ftoken : Int32) (Fword : Int64) (Ftold : Int32) (Fwrong : Int32) (Fcode : Int32) (Fat : Int32) (Fway : Int32) (Fnext : Int32) (FisEnd : Int32) (FisFallen : Int32) (Fwritten : Int32) (Fmade : Int32) (Fstate : Int32) (FhandNext : Int32) (FhandSteps : Int32) (FhandWritten : Int32) (FmarkAt : Int32) (Acells : Nat → Int32) (AcellName : Nat → Int64)  (Φ : Int32 → Prop)
    (kR27 : ∀ (r : Int32)  (H : Heap) (locs : List Loc) (ls : Array Slot), Φ r  → va_P D vwCl (wW_X8_cellOf ak ad h am Fthrown Ftaped Fsize Fplace Fbegin Ftoken Fword Ftold Fwrong Fcode Fat Fway Fnext FisEnd FisFallen Fwritten Fmade Fstate FhandNext FhandSteps FhandWritten FmarkAt Acells AcellName) H → va_D A (wW_X8_cellOf ak ad h am Fthrown Ftaped Fsize Fplace Fbegin Ftoken Fword Ftold Fwrong Fcode Fat Fway Fnext FisEnd FisFallen Fwritten Fmade Fstate FhandNext FhandSteps FhandWritten FmarkAt Acells AcellName) → va_S A s.heap H locs → W p l e R s m args below meth c H locs cells slots Q (F0 m 27 ls [.int r]))
    (kR35 : ∀ (r : Int32)  (H : Heap) (locs : List Loc) (ls : Array Slot), Φ r  → va_P D vwCl (wW_X8_cellOf ak ad h am Fthrown Ftaped Fsize Fplace Fbegin Ftoken Fword Ftold Fwrong Fcode Fat Fway Fnext FisEnd FisFallen Fwritten Fmade Fstate FhandNext FhandSteps FhandWritten FmarkAt Acells AcellName) H → va_D A (wW_X8_cellOf ak ad h am Fthrown Ftaped Fsize Fplace Fbegin Ftoken Fword Ftold Fwrong Fcode Fat Fway Fnext FisEnd FisFallen Fwritten Fmade Fstate FhandNext FhandSteps FhandWritten FmarkAt Acells AcellName) → va_S A s.heap H locs → W p l e R s m args below meth c H locs cells slots Q (F0 m 35 ls [.int r]))
    : ∀  (H : Heap) (locs : List Loc) (ls : Array Slot), wp_X8_cellOf Fword Acells AcellName  Φ → va_P D vwCl (wW_X8_cellOf ak ad h am Fthrown Ftaped Fsize Fplace Fbegin Ftoken Fword Ftold Fwrong Fcode Fat Fway Fnext FisEnd FisFallen Fwritten Fmade Fstate FhandNext FhandSteps FhandWritten FmarkAt Acells AcellName) H → va_D A (wW_X8_cellOf ak ad h am Fthrown Ftaped Fsize Fplace Fbegin Ftoken Fword Ftold Fwrong Fcode Fat Fway Fnext FisEnd FisFallen Fwritten Fmade Fstate FhandNext FhandSteps FhandWritten FmarkAt Acells AcellName) → va_S A s.heap H locs → lv_has ls 2 [(0, .ref h)] → W p l e R s m args below meth c H locs cells slots Q (F0 m 0 ls ([])) := by
  intro  H locs ls hw hP hD hS hl
  delta wp_X8_cellOf at hw
  refine lv_iconst (v := 0) hx hb dX8_cellOf_0 (by decide) ?_
  refine lv_istore_n (lv' := [(1, .int (0)), (0, .ref h)]) hx hb dX8_cellOf_1 rfl hl (by decide) rfl (fun ls hl => ?_)
  obtain ⟨n1_, hw⟩ := hw
  exact lp_X8_cellOf_2 hx hb hown hts hml hE hT hA h am Fthrown Ftaped Fsize Fplace Fbegin Ftoken Fword Ftold Fwrong Fcode Fat Fway Fnext FisEnd FisFallen Fwritten Fmade Fstate FhandNext FhandSteps FhandWritten FmarkAt Acells AcellName  Φ  kR27 kR35 n1_ 0 _ _ _ hw hP hD hS (lv_sub hl [1, 0] rfl)
set_option maxHeartbeats 4000000 in
set_option maxRecDepth 100000 in
theorem c_X8_cellOf (l : Launch) (D : va_G) (ak : Nat → ClassId) (ad : Nat → Nat) (sz : Nat) (h : Nat) (am : Nat → Nat) (Fthrown : Int32) (Ftaped : Int32) (Fsize : Int32) (Fplace : Int32) (Fbegin : Int32) (Ftoken : Int32) (Fword : Int64) (Ftold : Int32) (Fwrong : Int32) (Fcode : Int32) (Fat : Int32) (Fway : Int32) (Fnext : Int32) (FisEnd : Int32) (FisFallen : Int32) (Fwritten : Int32) (Fmade : Int32) (Fstate : Int32) (FhandNext : Int32) (FhandSteps : Int32) (FhandWritten : Int32) (FmarkAt : Int32) (Acells : Nat → Int32) (AcellName : Nat → Int64) (Φ : Int32 → Prop) (hf : wp_X8_cellOf Fword Acells AcellName Φ) : Met l yX8_cellOf wsX8_cellOf ({ frames := 0, cells := 0, slots := 0, locals := 0 }) (cPre D ak ad [.ref h] ((wW_X8_cellOf ak ad h am Fthrown Ftaped Fsize Fplace Fbegin Ftoken Fword Ftold Fwrong Fcode Fat Fway Fnext FisEnd FisFallen Fwritten Fmade Fstate FhandNext FhandSteps FhandWritten FmarkAt Acells AcellName)) sz) (cI D (S := Unit) (fun (r : Int32) (u : Unit) => Φ r ) (fun u => (wW_X8_cellOf ak ad h am Fthrown Ftaped Fsize Fplace Fbegin Ftoken Fword Ftold Fwrong Fcode Fat Fway Fnext FisEnd FisFallen Fwritten Fmade Fstate FhandNext FhandSteps FhandWritten FmarkAt Acells AcellName)) ((wW_X8_cellOf ak ad h am Fthrown Ftaped Fsize Fplace Fbegin Ftoken Fword Ftold Fwrong Fcode Fat Fway Fnext FisEnd FisFallen Fwritten Fmade Fstate FhandNext FhandSteps FhandWritten FmarkAt Acells AcellName)) sz) 0 0 (va_A ((wW_X8_cellOf ak ad h am Fthrown Ftaped Fsize Fplace Fbegin Ftoken Fword Ftold Fwrong Fcode Fat Fway Fnext FisEnd FisFallen Fwritten Fmade Fstate FhandNext FhandSteps FhandWritten FmarkAt Acells AcellName)) sz) := by
  refine Met.ofW (cc := cX8_cellOf) (maxL := 2) (ret := (some .int)) (by decide) rfl ?_
  intro p e s m args below meth c s₁ B hml hv
  obtain ⟨rfl, hsz, hP, hE, hD0, hT⟩ := hv
  have hx := B.exec
  have hb := B.bytes
  have hr := B.returns
  have hts := atoms_spec (ws := wsX8_cellOf) B.pre
  have hown : s.vm.findClass RX8 = some m.cls := findClass_of_methodNamed B.named
  have hlocks := B.notSynchronized
  subst hsz
  have hD := hD0.self (sz := s.heap.size)
  generalize hAe : va_A ((wW_X8_cellOf ak ad h am Fthrown Ftaped Fsize Fplace Fbegin Ftoken Fword Ftold Fwrong Fcode Fat Fway Fnext FisEnd FisFallen Fwritten Fmade Fstate FhandNext FhandSteps FhandWritten FmarkAt Acells AcellName)) s.heap.size = A at hD hT ⊢
  have hA : ∀ q : Nat, s.heap.size ≤ q → A q := fun q h => by rw [← hAe]; exact Or.inr h
  have hS : va_S A s.heap s.heap [] := va_S.rf
  have hl := lv_entry ([.ref h]) (n := 2) (Nat.le_of_ble_eq_true rfl)
  rw [lg_entry_eq]
  generalize (lg_sl ([.ref h]) ++ List.replicate (2 - (lg_sl ([.ref h])).length) Slot.unset).toArray = ls at hl ⊢
  have hl : lv_has ls 2 [(0, .ref h)] := hl
  exact kj_X8_cellOf_e hx hb hown hts hml hE hT hA h am Fthrown Ftaped Fsize Fplace Fbegin Ftoken Fword Ftold Fwrong Fcode Fat Fway Fnext FisEnd FisFallen Fwritten Fmade Fstate FhandNext FhandSteps FhandWritten FmarkAt Acells AcellName Φ (fun r  H locs ls hw hP hD hS => W.iret (v := r) hx hb hr (fun t ht hW => ⟨⟨r, (), rfl, hw, by rw [ht]; exact hP, by rw [hAe]; exact hD⟩, by rw [hAe]; exact hS.F ht⟩) hS.2.2 dX8_cellOf_27) (fun r  H locs ls hw hP hD hS => W.iret (v := r) hx hb hr (fun t ht hW => ⟨⟨r, (), rfl, hw, by rw [ht]; exact hP, by rw [hAe]; exact hD⟩, by rw [hAe]; exact hS.F ht⟩) hS.2.2 dX8_cellOf_35)  _ _ _ hf hP hD hS hl

def wW_X8_stuffOf (ak : Nat → ClassId) (ad : Nat → Nat) (h : Nat) (am : Nat → Nat) (Fthrown : Int32) (Ftaped : Int32) (Fsize : Int32) (Fplace : Int32) (Fbegin : Int32) (Ftoken : Int32) (Fword : Int64) (Ftold : Int32) (Fwrong : Int32) (Fcode : Int32) (Fat : Int32) (Fway : Int32) (Fnext : Int32) (FisEnd : Int32) (FisFallen : Int32) (Fwritten : Int32) (Fmade : Int32) (Fstate : Int32) (FhandNext : Int32) (FhandSteps : Int32) (FhandWritten : Int32) (FmarkAt : Int32) (Astuffs : Nat → Int32) (AstuffName : Nat → Int64) : va_W := [(h, .inr (7, mob am (Fthrown) (Ftaped) (Fsize) (Fplace) (Fbegin) (Ftoken) (Fword) (Ftold) (Fwrong) (Fcode) (Fat) (Fway) (Fnext) (FisEnd) (FisFallen) (Fwritten) (Fmade) (Fstate) (FhandNext) (FhandSteps) (FhandWritten) (FmarkAt))), ((am 1), .inl (ak 0, 6, .inl (Astuffs))), ((am 5), .inl (ak 1, 4, .inr (.inl (AstuffName))))]
def lb_X8_stuffOf_2 (Fword : Int64) (Astuffs : Nat → Int32) (AstuffName : Nat → Int64)  (Φ : Int32 → Prop) (back : Int32 → Prop) (l1 : Int32) : Prop := ((Astuffs 1) ≤ l1 → Φ (-1) ) ∧ (¬ (Astuffs 1) ≤ l1 → vp_in l1 4 ∧ (¬ (lg_cmp (AstuffName (l1).toNatClampNeg) Fword) = 0 → back (l1 + 1)) ∧ ((lg_cmp (AstuffName (l1).toNatClampNeg) Fword) = 0 → Φ l1 ))
def lf_X8_stuffOf_2 (Fword : Int64) (Astuffs : Nat → Int32) (AstuffName : Nat → Int64)  (Φ : Int32 → Prop) : Nat → Int32 → Prop
  | 0, _ => False
  | n_ + 1, l1 => lb_X8_stuffOf_2 Fword Astuffs AstuffName  Φ (lf_X8_stuffOf_2 Fword Astuffs AstuffName  Φ n_) l1
theorem li_X8_stuffOf_2 (Fword : Int64) (Astuffs : Nat → Int32) (AstuffName : Nat → Int64)  (Φ : Int32 → Prop) (Inv : Int32 → Prop) (mu : Int32 → Nat) (hs : ∀ (back : Int32 → Prop) (l1 : Int32), Inv l1 → (∀ (l1' : Int32), Inv l1' → mu l1' < mu l1 → back l1') → lb_X8_stuffOf_2 Fword Astuffs AstuffName  Φ back l1) : ∀ (n_ : Nat) (l1 : Int32), Inv l1 → mu l1 < n_ → lf_X8_stuffOf_2 Fword Astuffs AstuffName  Φ n_ l1 := by
  intro n_
  induction n_ with
  | zero => intro l1 _ h; exact absurd h (Nat.not_lt_zero _)
  | succ n_ ih => intro l1 hI hm; exact hs _ l1 hI (fun l1' h1 h2 => ih l1' h1 (by omega))
set_option maxHeartbeats 4000000 in
set_option maxRecDepth 100000 in
theorem lp_X8_stuffOf_2 {p : Program} {l : Launch} {e : Env} {R : Room} {s : State} {m : MethodId} {args : Array Value} {below : List Frame} {meth : Method} {c : Code} {cells slots : Nat} {Q : State → Prop} {A : Nat → Prop} {D : va_G} {ak : Nat → ClassId} {ad : Nat → Nat} (hx : p.tables.exec = Jvm.exec) (hb : c.code = cX8_stuffOf) (hown : s.vm.findClass RX8 = some m.cls) (hts : ∀ w ∈ wsX8_stuffOf, w.before args s = true) (hml : c.maxLocals = 2) (hE : EV D ak s) (hT : ST D ak ad A s s.heap) (hA : ∀ q, s.heap.size ≤ q → A q) (h : Nat) (am : Nat → Nat) (Fthrown : Int32) (Ftaped : Int32) (Fsize : Int32) (Fplace : Int32) (Fbegin : Int32) (Ftoken : Int32) (Fword : Int64) (Ftold : Int32) (Fwrong : Int32) (Fcode : Int32) (Fat : Int32) (Fway : Int32) (Fnext : Int32) (FisEnd : Int32) (FisFallen : Int32) (Fwritten : Int32) (Fmade : Int32) (Fstate : Int32) (FhandNext : Int32) (FhandSteps : Int32) (FhandWritten : Int32) (FmarkAt : Int32) (Astuffs : Nat → Int32) (AstuffName : Nat → Int64)  (Φ : Int32 → Prop)
    (kR27 : ∀ (r : Int32)  (H : Heap) (locs : List Loc) (ls : Array Slot), Φ r  → va_P D vwCl (wW_X8_stuffOf ak ad h am Fthrown Ftaped Fsize Fplace Fbegin Ftoken Fword Ftold Fwrong Fcode Fat Fway Fnext FisEnd FisFallen Fwritten Fmade Fstate FhandNext FhandSteps FhandWritten FmarkAt Astuffs AstuffName) H → va_D A (wW_X8_stuffOf ak ad h am Fthrown Ftaped Fsize Fplace Fbegin Ftoken Fword Ftold Fwrong Fcode Fat Fway Fnext FisEnd FisFallen Fwritten Fmade Fstate FhandNext FhandSteps FhandWritten FmarkAt Astuffs AstuffName) → va_S A s.heap H locs → W p l e R s m args below meth c H locs cells slots Q (F0 m 27 ls [.int r]))
    (kR35 : ∀ (r : Int32)  (H : Heap) (locs : List Loc) (ls : Array Slot), Φ r  → va_P D vwCl (wW_X8_stuffOf ak ad h am Fthrown Ftaped Fsize Fplace Fbegin Ftoken Fword Ftold Fwrong Fcode Fat Fway Fnext FisEnd FisFallen Fwritten Fmade Fstate FhandNext FhandSteps FhandWritten FmarkAt Astuffs AstuffName) H → va_D A (wW_X8_stuffOf ak ad h am Fthrown Ftaped Fsize Fplace Fbegin Ftoken Fword Ftold Fwrong Fcode Fat Fway Fnext FisEnd FisFallen Fwritten Fmade Fstate FhandNext FhandSteps FhandWritten FmarkAt Astuffs AstuffName) → va_S A s.heap H locs → W p l e R s m args below meth c H locs cells slots Q (F0 m 35 ls [.int r]))
    : ∀ (n_ : Nat) (l1 : Int32) (H : Heap) (locs : List Loc) (ls : Array Slot), lf_X8_stuffOf_2 Fword Astuffs AstuffName  Φ n_ l1 → va_P D vwCl (wW_X8_stuffOf ak ad h am Fthrown Ftaped Fsize Fplace Fbegin Ftoken Fword Ftold Fwrong Fcode Fat Fway Fnext FisEnd FisFallen Fwritten Fmade Fstate FhandNext FhandSteps FhandWritten FmarkAt Astuffs AstuffName) H → va_D A (wW_X8_stuffOf ak ad h am Fthrown Ftaped Fsize Fplace Fbegin Ftoken Fword Ftold Fwrong Fcode Fat Fway Fnext FisEnd FisFallen Fwritten Fmade Fstate FhandNext FhandSteps FhandWritten FmarkAt Astuffs AstuffName) → va_S A s.heap H locs → lv_has ls 2 [(0, .ref h), (1, .int (l1))] → W p l e R s m args below meth c H locs cells slots Q (F0 m 2 ls ([])) := by
  intro n_
  induction n_ with
  | zero =>
    intro l1 H locs ls hw
    exact hw.elim
  | succ n_ ih =>
    intro l1 H locs ls hw hP hD hS hl
    have hw : lb_X8_stuffOf_2 Fword Astuffs AstuffName  Φ (lf_X8_stuffOf_2 Fword Astuffs AstuffName  Φ n_) l1 := hw
    delta lb_X8_stuffOf_2 at hw
    refine lv_iload_n hx hb dX8_stuffOf_2 rfl (lv_at hl 1 rfl) ?_
    refine lv_aload_n hx hb dX8_stuffOf_3 rfl (lv_at hl 0 rfl) ?_
    refine vt_get (D := D) (ci := 7) (v := .ref (am 1)) (C := RX8) (T := TX8) (N := 69) hx hb hts (fun w h => wm_c (wc_X8 w h)) hown hE.1 hP 0 rfl rfl 10 (by decide) tX8_10 (hts (.fieldLink RX8 13 "WornLinesModel" "stuffs" "[I") (wm_c hw_40)) (fun _ h9 => h9) rfl dX8_stuffOf_4 ?_
    refine lv_iconst (v := 1) hx hb dX8_stuffOf_7 (by decide) ?_
    refine va_iald hx hb hE.1 hP 1 0 rfl rfl (by unfold vp_in; decide) dX8_stuffOf_8 ?_
    refine W.eq (g2 := F0 m 9 ls (.int (Astuffs 1) :: .int (l1) :: [])) rfl ?_
    refine lv_icmp_ge (tgt := 34) hx hb dX8_stuffOf_9 (by decide) (fun c_1 => ?_) (fun c_1 => ?_)
    · replace hw := hw.1 c_1
      refine lv_iconst (v := (-1)) hx hb dX8_stuffOf_34 (by decide) ?_
      exact kR35 (-1)  _ _ _ hw hP hD hS
    · replace hw := hw.2 c_1
      refine lv_aload_n hx hb dX8_stuffOf_12 rfl (lv_at hl 0 rfl) ?_
      refine vt_get (D := D) (ci := 7) (v := .ref (am 5)) (C := RX8) (T := TX8) (N := 69) hx hb hts (fun w h => wm_c (wc_X8 w h)) hown hE.1 hP 0 rfl rfl 14 (by decide) tX8_14 (hts (.fieldLink RX8 25 "WornLinesModel" "stuffName" "[J") (wm_c hw_41)) (fun _ h9 => h9) rfl dX8_stuffOf_13 ?_
      refine lv_iload_n hx hb dX8_stuffOf_16 rfl (lv_at hl 1 rfl) ?_
      obtain ⟨h_2, hw⟩ := hw
      refine va_lald hx hb hE.1 hP 2 1 rfl rfl (h_2) dX8_stuffOf_17 ?_
      refine lv_aload_n hx hb dX8_stuffOf_18 rfl (lv_at hl 0 rfl) ?_
      refine vt_get (D := D) (ci := 7) (v := .long (Fword)) (C := RX8) (T := TX8) (N := 69) hx hb hts (fun w h => wm_c (wc_X8 w h)) hown hE.1 hP 0 rfl rfl 7 (by decide) tX8_7 (hts (.fieldLink RX8 171 "WornLinesModel" "word" "J") (wm_c hw_9)) (fun _ h9 => h9) rfl dX8_stuffOf_19 ?_
      refine W.lcmp hx hb dX8_stuffOf_22 ?_
      refine lv_if_ne (tgt := 28) hx hb dX8_stuffOf_23 (by decide) (fun c_3 => ?_) (fun c_3 => ?_)
      · replace hw := hw.1 c_3
        refine lv_iinc (v := (l1 + 1)) (lv' := [(1, .int (l1 + 1)), (0, .ref h)]) hx hb dX8_stuffOf_28 hl (k := 1) rfl (rfl) (by decide) rfl (fun ls hl => ?_)
        refine lv_goto (tgt := 2) hx hb dX8_stuffOf_31 (by decide) ?_
        exact ih (l1 + 1) _ _ _ hw hP hD hS (lv_sub hl [1, 0] rfl)
      · replace hw := hw.2 c_3
        refine lv_iload_n hx hb dX8_stuffOf_26 rfl (lv_at hl 1 rfl) ?_
        exact kR27 l1  _ _ _ hw hP hD hS

def wp_X8_stuffOf (Fword : Int64) (Astuffs : Nat → Int32) (AstuffName : Nat → Int64)  (Φ : Int32 → Prop) : Prop := (∃ n_, lf_X8_stuffOf_2 Fword Astuffs AstuffName  Φ n_ 0)
set_option maxHeartbeats 4000000 in
set_option maxRecDepth 100000 in
theorem kj_X8_stuffOf_e {p : Program} {l : Launch} {e : Env} {R : Room} {s : State} {m : MethodId} {args : Array Value} {below : List Frame} {meth : Method} {c : Code} {cells slots : Nat} {Q : State → Prop} {A : Nat → Prop} {D : va_G} {ak : Nat → ClassId} {ad : Nat → Nat} (hx : p.tables.exec = Jvm.exec) (hb : c.code = cX8_stuffOf) (hown : s.vm.findClass RX8 = some m.cls) (hts : ∀ w ∈ wsX8_stuffOf, w.before args s = true) (hml : c.maxLocals = 2) (hE : EV D ak s) (hT : ST D ak ad A s s.heap) (hA : ∀ q, s.heap.size ≤ q → A q) (h : Nat) (am : Nat → Nat) (Fthrown : Int32) (Ftaped : Int32) (Fsize : Int32) (Fplace : Int32) (Fbegin : Int32) (Ftoken : Int32) (Fword : Int64) (Ftold : Int32) (Fwrong : Int32) (Fcode : Int32) (Fat : Int32) (Fway : Int32) (Fnext : Int32) (FisEnd : Int32) (FisFallen : Int32) (Fwritten : Int32) (Fmade : Int32) (Fstate : Int32) (FhandNext : Int32) (FhandSteps : Int32) (FhandWritten : Int32) (FmarkAt : Int32) (Astuffs : Nat → Int32) (AstuffName : Nat → Int64)  (Φ : Int32 → Prop)
    (kR27 : ∀ (r : Int32)  (H : Heap) (locs : List Loc) (ls : Array Slot), Φ r  → va_P D vwCl (wW_X8_stuffOf ak ad h am Fthrown Ftaped Fsize Fplace Fbegin Ftoken Fword Ftold Fwrong Fcode Fat Fway Fnext FisEnd FisFallen Fwritten Fmade Fstate FhandNext FhandSteps FhandWritten FmarkAt Astuffs AstuffName) H → va_D A (wW_X8_stuffOf ak ad h am Fthrown Ftaped Fsize Fplace Fbegin Ftoken Fword Ftold Fwrong Fcode Fat Fway Fnext FisEnd FisFallen Fwritten Fmade Fstate FhandNext FhandSteps FhandWritten FmarkAt Astuffs AstuffName) → va_S A s.heap H locs → W p l e R s m args below meth c H locs cells slots Q (F0 m 27 ls [.int r]))
    (kR35 : ∀ (r : Int32)  (H : Heap) (locs : List Loc) (ls : Array Slot), Φ r  → va_P D vwCl (wW_X8_stuffOf ak ad h am Fthrown Ftaped Fsize Fplace Fbegin Ftoken Fword Ftold Fwrong Fcode Fat Fway Fnext FisEnd FisFallen Fwritten Fmade Fstate FhandNext FhandSteps FhandWritten FmarkAt Astuffs AstuffName) H → va_D A (wW_X8_stuffOf ak ad h am Fthrown Ftaped Fsize Fplace Fbegin Ftoken Fword Ftold Fwrong Fcode Fat Fway Fnext FisEnd FisFallen Fwritten Fmade Fstate FhandNext FhandSteps FhandWritten FmarkAt Astuffs AstuffName) → va_S A s.heap H locs → W p l e R s m args below meth c H locs cells slots Q (F0 m 35 ls [.int r]))
    : ∀  (H : Heap) (locs : List Loc) (ls : Array Slot), wp_X8_stuffOf Fword Astuffs AstuffName  Φ → va_P D vwCl (wW_X8_stuffOf ak ad h am Fthrown Ftaped Fsize Fplace Fbegin Ftoken Fword Ftold Fwrong Fcode Fat Fway Fnext FisEnd FisFallen Fwritten Fmade Fstate FhandNext FhandSteps FhandWritten FmarkAt Astuffs AstuffName) H → va_D A (wW_X8_stuffOf ak ad h am Fthrown Ftaped Fsize Fplace Fbegin Ftoken Fword Ftold Fwrong Fcode Fat Fway Fnext FisEnd FisFallen Fwritten Fmade Fstate FhandNext FhandSteps FhandWritten FmarkAt Astuffs AstuffName) → va_S A s.heap H locs → lv_has ls 2 [(0, .ref h)] → W p l e R s m args below meth c H locs cells slots Q (F0 m 0 ls ([])) := by
  intro  H locs ls hw hP hD hS hl
  delta wp_X8_stuffOf at hw
  refine lv_iconst (v := 0) hx hb dX8_stuffOf_0 (by decide) ?_
  refine lv_istore_n (lv' := [(1, .int (0)), (0, .ref h)]) hx hb dX8_stuffOf_1 rfl hl (by decide) rfl (fun ls hl => ?_)
  obtain ⟨n1_, hw⟩ := hw
  exact lp_X8_stuffOf_2 hx hb hown hts hml hE hT hA h am Fthrown Ftaped Fsize Fplace Fbegin Ftoken Fword Ftold Fwrong Fcode Fat Fway Fnext FisEnd FisFallen Fwritten Fmade Fstate FhandNext FhandSteps FhandWritten FmarkAt Astuffs AstuffName  Φ  kR27 kR35 n1_ 0 _ _ _ hw hP hD hS (lv_sub hl [1, 0] rfl)
set_option maxHeartbeats 4000000 in
set_option maxRecDepth 100000 in
theorem c_X8_stuffOf (l : Launch) (D : va_G) (ak : Nat → ClassId) (ad : Nat → Nat) (sz : Nat) (h : Nat) (am : Nat → Nat) (Fthrown : Int32) (Ftaped : Int32) (Fsize : Int32) (Fplace : Int32) (Fbegin : Int32) (Ftoken : Int32) (Fword : Int64) (Ftold : Int32) (Fwrong : Int32) (Fcode : Int32) (Fat : Int32) (Fway : Int32) (Fnext : Int32) (FisEnd : Int32) (FisFallen : Int32) (Fwritten : Int32) (Fmade : Int32) (Fstate : Int32) (FhandNext : Int32) (FhandSteps : Int32) (FhandWritten : Int32) (FmarkAt : Int32) (Astuffs : Nat → Int32) (AstuffName : Nat → Int64) (Φ : Int32 → Prop) (hf : wp_X8_stuffOf Fword Astuffs AstuffName Φ) : Met l yX8_stuffOf wsX8_stuffOf ({ frames := 0, cells := 0, slots := 0, locals := 0 }) (cPre D ak ad [.ref h] ((wW_X8_stuffOf ak ad h am Fthrown Ftaped Fsize Fplace Fbegin Ftoken Fword Ftold Fwrong Fcode Fat Fway Fnext FisEnd FisFallen Fwritten Fmade Fstate FhandNext FhandSteps FhandWritten FmarkAt Astuffs AstuffName)) sz) (cI D (S := Unit) (fun (r : Int32) (u : Unit) => Φ r ) (fun u => (wW_X8_stuffOf ak ad h am Fthrown Ftaped Fsize Fplace Fbegin Ftoken Fword Ftold Fwrong Fcode Fat Fway Fnext FisEnd FisFallen Fwritten Fmade Fstate FhandNext FhandSteps FhandWritten FmarkAt Astuffs AstuffName)) ((wW_X8_stuffOf ak ad h am Fthrown Ftaped Fsize Fplace Fbegin Ftoken Fword Ftold Fwrong Fcode Fat Fway Fnext FisEnd FisFallen Fwritten Fmade Fstate FhandNext FhandSteps FhandWritten FmarkAt Astuffs AstuffName)) sz) 0 0 (va_A ((wW_X8_stuffOf ak ad h am Fthrown Ftaped Fsize Fplace Fbegin Ftoken Fword Ftold Fwrong Fcode Fat Fway Fnext FisEnd FisFallen Fwritten Fmade Fstate FhandNext FhandSteps FhandWritten FmarkAt Astuffs AstuffName)) sz) := by
  refine Met.ofW (cc := cX8_stuffOf) (maxL := 2) (ret := (some .int)) (by decide) rfl ?_
  intro p e s m args below meth c s₁ B hml hv
  obtain ⟨rfl, hsz, hP, hE, hD0, hT⟩ := hv
  have hx := B.exec
  have hb := B.bytes
  have hr := B.returns
  have hts := atoms_spec (ws := wsX8_stuffOf) B.pre
  have hown : s.vm.findClass RX8 = some m.cls := findClass_of_methodNamed B.named
  have hlocks := B.notSynchronized
  subst hsz
  have hD := hD0.self (sz := s.heap.size)
  generalize hAe : va_A ((wW_X8_stuffOf ak ad h am Fthrown Ftaped Fsize Fplace Fbegin Ftoken Fword Ftold Fwrong Fcode Fat Fway Fnext FisEnd FisFallen Fwritten Fmade Fstate FhandNext FhandSteps FhandWritten FmarkAt Astuffs AstuffName)) s.heap.size = A at hD hT ⊢
  have hA : ∀ q : Nat, s.heap.size ≤ q → A q := fun q h => by rw [← hAe]; exact Or.inr h
  have hS : va_S A s.heap s.heap [] := va_S.rf
  have hl := lv_entry ([.ref h]) (n := 2) (Nat.le_of_ble_eq_true rfl)
  rw [lg_entry_eq]
  generalize (lg_sl ([.ref h]) ++ List.replicate (2 - (lg_sl ([.ref h])).length) Slot.unset).toArray = ls at hl ⊢
  have hl : lv_has ls 2 [(0, .ref h)] := hl
  exact kj_X8_stuffOf_e hx hb hown hts hml hE hT hA h am Fthrown Ftaped Fsize Fplace Fbegin Ftoken Fword Ftold Fwrong Fcode Fat Fway Fnext FisEnd FisFallen Fwritten Fmade Fstate FhandNext FhandSteps FhandWritten FmarkAt Astuffs AstuffName Φ (fun r  H locs ls hw hP hD hS => W.iret (v := r) hx hb hr (fun t ht hW => ⟨⟨r, (), rfl, hw, by rw [ht]; exact hP, by rw [hAe]; exact hD⟩, by rw [hAe]; exact hS.F ht⟩) hS.2.2 dX8_stuffOf_27) (fun r  H locs ls hw hP hD hS => W.iret (v := r) hx hb hr (fun t ht hW => ⟨⟨r, (), rfl, hw, by rw [ht]; exact hP, by rw [hAe]; exact hD⟩, by rw [hAe]; exact hS.F ht⟩) hS.2.2 dX8_stuffOf_35)  _ _ _ hf hP hD hS hl
end
