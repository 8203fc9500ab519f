theorem dX8_nextToken_345 : decode cX8_nextToken 345 = .ok (.iload_n 1, 1) := by decide +kernel
theorem dX8_nextToken_346 : decode cX8_nextToken 346 = .ok (.bipush 45, 2) := by decide +kernel
theorem dX8_nextToken_348 : decode cX8_nextToken 348 = .ok (.if_icmp .eq 15, 3) := by decide +kernel
theorem dX8_nextToken_363 : decode cX8_nextToken 363 = .ok (.iconst 3, 1) := by decide +kernel
theorem dX8_nextToken_364 : decode cX8_nextToken 364 = .ok (.goto 4, 3) := by decide +kernel
theorem dX8_nextToken_368 : decode cX8_nextToken 368 = .ok (.putfield 178, 3) := by decide +kernel
theorem dX8_nextToken_351 : decode cX8_nextToken 351 = .ok (.iload_n 1, 1) := by decide +kernel
theorem dX8_nextToken_352 : decode cX8_nextToken 352 = .ok (.bipush 59, 2) := by decide +kernel
theorem dX8_nextToken_354 : decode cX8_nextToken 354 = .ok (.if_icmp .lt 13, 3) := by decide +kernel
theorem dX8_nextToken_367 : decode cX8_nextToken 367 = .ok (.iconst 4, 1) := by decide +kernel
theorem dX8_nextToken_357 : decode cX8_nextToken 357 = .ok (.iload_n 1, 1) := by decide +kernel
theorem dX8_nextToken_358 : decode cX8_nextToken 358 = .ok (.bipush 61, 2) := by decide +kernel
theorem dX8_nextToken_360 : decode cX8_nextToken 360 = .ok (.if_icmp .gt 7, 3) := by decide +kernel
theorem dX8_nextToken_322 : decode cX8_nextToken 322 = .ok (.aload_n 0, 1) := by decide +kernel
theorem dX8_nextToken_323 : decode cX8_nextToken 323 = .ok (.dup, 1) := by decide +kernel
theorem dX8_nextToken_324 : decode cX8_nextToken 324 = .ok (.getfield 165, 3) := by decide +kernel
theorem dX8_nextToken_327 : decode cX8_nextToken 327 = .ok (.iconst 1, 1) := by decide +kernel
theorem dX8_nextToken_328 : decode cX8_nextToken 328 = .ok (.iadd, 1) := by decide +kernel
theorem dX8_nextToken_329 : decode cX8_nextToken 329 = .ok (.putfield 165, 3) := by decide +kernel
theorem dX8_nextToken_332 : decode cX8_nextToken 332 = .ok (.aload_n 0, 1) := by decide +kernel
theorem dX8_nextToken_333 : decode cX8_nextToken 333 = .ok (.iload_n 1, 1) := by decide +kernel
theorem dX8_nextToken_334 : decode cX8_nextToken 334 = .ok (.bipush 40, 2) := by decide +kernel
theorem dX8_nextToken_336 : decode cX8_nextToken 336 = .ok (.if_icmp .lt 9, 3) := by decide +kernel
theorem dX8_nextToken_339 : decode cX8_nextToken 339 = .ok (.iload_n 1, 1) := by decide +kernel
theorem dX8_nextToken_340 : decode cX8_nextToken 340 = .ok (.bipush 43, 2) := by decide +kernel
theorem dX8_nextToken_342 : decode cX8_nextToken 342 = .ok (.if_icmp .le 21, 3) := by decide +kernel
theorem dX8_nextToken_299 : decode cX8_nextToken 299 = .ok (.aload_n 0, 1) := by decide +kernel
theorem dX8_nextToken_300 : decode cX8_nextToken 300 = .ok (.aload_n 0, 1) := by decide +kernel
theorem dX8_nextToken_301 : decode cX8_nextToken 301 = .ok (.getfield 165, 3) := by decide +kernel
theorem dX8_nextToken_304 : decode cX8_nextToken 304 = .ok (.aload_n 0, 1) := by decide +kernel
theorem dX8_nextToken_305 : decode cX8_nextToken 305 = .ok (.getfield 168, 3) := by decide +kernel
theorem dX8_nextToken_308 : decode cX8_nextToken 308 = .ok (.isub, 1) := by decide +kernel
theorem dX8_nextToken_309 : decode cX8_nextToken 309 = .ok (.iconst 4, 1) := by decide +kernel
theorem dX8_nextToken_310 : decode cX8_nextToken 310 = .ok (.if_icmp .le 7, 3) := by decide +kernel
theorem dX8_nextToken_317 : decode cX8_nextToken 317 = .ok (.iconst 2, 1) := by decide +kernel
theorem dX8_nextToken_318 : decode cX8_nextToken 318 = .ok (.putfield 178, 3) := by decide +kernel
theorem dX8_nextToken_313 : decode cX8_nextToken 313 = .ok (.iconst 4, 1) := by decide +kernel
theorem dX8_nextToken_314 : decode cX8_nextToken 314 = .ok (.goto 4, 3) := by decide +kernel
theorem dX8_nextToken_224 : decode cX8_nextToken 224 = .ok (.aload_n 0, 1) := by decide +kernel
theorem dX8_nextToken_225 : decode cX8_nextToken 225 = .ok (.aload_n 0, 1) := by decide +kernel
theorem dX8_nextToken_226 : decode cX8_nextToken 226 = .ok (.getfield 165, 3) := by decide +kernel
set_option maxRecDepth 20000 in
theorem ggX8_nextToken_X8_signAt : GoodIn wsX8_nextToken wsX8_signAt := gup gc_X8_signAt
set_option maxRecDepth 20000 in
theorem gX8_nextToken_X8_signAt : GoodIn wsX8_nextToken (wsV RX8 181 RX8 yX8_signAt wsX8_signAt) := gup (glV hw_12 hw_13 hw_14 hw_15 gc_X8_signAt)
theorem dX8_nextToken_229 : decode cX8_nextToken 229 = .ok (.invokevirtual 181, 3) := by decide +kernel
theorem dX8_nextToken_232 : decode cX8_nextToken 232 = .ok (.bipush 48, 2) := by decide +kernel
theorem dX8_nextToken_234 : decode cX8_nextToken 234 = .ok (.if_icmp .lt 65, 3) := by decide +kernel
theorem dX8_nextToken_237 : decode cX8_nextToken 237 = .ok (.aload_n 0, 1) := by decide +kernel
theorem dX8_nextToken_238 : decode cX8_nextToken 238 = .ok (.aload_n 0, 1) := by decide +kernel
theorem dX8_nextToken_239 : decode cX8_nextToken 239 = .ok (.getfield 165, 3) := by decide +kernel
theorem dX8_nextToken_242 : decode cX8_nextToken 242 = .ok (.invokevirtual 181, 3) := by decide +kernel
theorem dX8_nextToken_245 : decode cX8_nextToken 245 = .ok (.bipush 57, 2) := by decide +kernel
theorem dX8_nextToken_247 : decode cX8_nextToken 247 = .ok (.if_icmp .gt 52, 3) := by decide +kernel
theorem dX8_nextToken_250 : decode cX8_nextToken 250 = .ok (.aload_n 0, 1) := by decide +kernel
theorem dX8_nextToken_251 : decode cX8_nextToken 251 = .ok (.getfield 165, 3) := by decide +kernel
theorem dX8_nextToken_254 : decode cX8_nextToken 254 = .ok (.aload_n 0, 1) := by decide +kernel
theorem dX8_nextToken_255 : decode cX8_nextToken 255 = .ok (.getfield 168, 3) := by decide +kernel
theorem dX8_nextToken_258 : decode cX8_nextToken 258 = .ok (.isub, 1) := by decide +kernel
theorem dX8_nextToken_259 : decode cX8_nextToken 259 = .ok (.iconst 4, 1) := by decide +kernel
theorem dX8_nextToken_260 : decode cX8_nextToken 260 = .ok (.if_icmp .ge 26, 3) := by decide +kernel
theorem dX8_nextToken_286 : decode cX8_nextToken 286 = .ok (.aload_n 0, 1) := by decide +kernel
theorem dX8_nextToken_287 : decode cX8_nextToken 287 = .ok (.dup, 1) := by decide +kernel
theorem dX8_nextToken_288 : decode cX8_nextToken 288 = .ok (.getfield 165, 3) := by decide +kernel
theorem dX8_nextToken_291 : decode cX8_nextToken 291 = .ok (.iconst 1, 1) := by decide +kernel
theorem dX8_nextToken_292 : decode cX8_nextToken 292 = .ok (.iadd, 1) := by decide +kernel
theorem dX8_nextToken_293 : decode cX8_nextToken 293 = .ok (.putfield 165, 3) := by decide +kernel
theorem dX8_nextToken_296 : decode cX8_nextToken 296 = .ok (.goto (-72), 3) := by decide +kernel
theorem dX8_nextToken_263 : decode cX8_nextToken 263 = .ok (.aload_n 0, 1) := by decide +kernel
theorem dX8_nextToken_264 : decode cX8_nextToken 264 = .ok (.aload_n 0, 1) := by decide +kernel
theorem dX8_nextToken_265 : decode cX8_nextToken 265 = .ok (.getfield 175, 3) := by decide +kernel
theorem dX8_nextToken_268 : decode cX8_nextToken 268 = .ok (.bipush 10, 2) := by decide +kernel
theorem dX8_nextToken_270 : decode cX8_nextToken 270 = .ok (.imul, 1) := by decide +kernel
theorem dX8_nextToken_271 : decode cX8_nextToken 271 = .ok (.aload_n 0, 1) := by decide +kernel
theorem dX8_nextToken_272 : decode cX8_nextToken 272 = .ok (.aload_n 0, 1) := by decide +kernel
theorem dX8_nextToken_273 : decode cX8_nextToken 273 = .ok (.getfield 165, 3) := by decide +kernel
theorem dX8_nextToken_276 : decode cX8_nextToken 276 = .ok (.invokevirtual 181, 3) := by decide +kernel
theorem dX8_nextToken_279 : decode cX8_nextToken 279 = .ok (.iadd, 1) := by decide +kernel
theorem dX8_nextToken_280 : decode cX8_nextToken 280 = .ok (.bipush 48, 2) := by decide +kernel
theorem dX8_nextToken_282 : decode cX8_nextToken 282 = .ok (.isub, 1) := by decide +kernel
theorem dX8_nextToken_283 : decode cX8_nextToken 283 = .ok (.putfield 175, 3) := by decide +kernel
theorem dX8_nextToken_212 : decode cX8_nextToken 212 = .ok (.iload_n 1, 1) := by decide +kernel
theorem dX8_nextToken_213 : decode cX8_nextToken 213 = .ok (.bipush 48, 2) := by decide +kernel
theorem dX8_nextToken_215 : decode cX8_nextToken 215 = .ok (.if_icmp .lt 107, 3) := by decide +kernel
theorem dX8_nextToken_218 : decode cX8_nextToken 218 = .ok (.iload_n 1, 1) := by decide +kernel
theorem dX8_nextToken_219 : decode cX8_nextToken 219 = .ok (.bipush 57, 2) := by decide +kernel
theorem dX8_nextToken_221 : decode cX8_nextToken 221 = .ok (.if_icmp .gt 101, 3) := by decide +kernel
theorem dX8_nextToken_188 : decode cX8_nextToken 188 = .ok (.aload_n 0, 1) := by decide +kernel
theorem dX8_nextToken_189 : decode cX8_nextToken 189 = .ok (.aload_n 0, 1) := by decide +kernel
theorem dX8_nextToken_190 : decode cX8_nextToken 190 = .ok (.getfield 165, 3) := by decide +kernel
theorem dX8_nextToken_193 : decode cX8_nextToken 193 = .ok (.aload_n 0, 1) := by decide +kernel
theorem dX8_nextToken_194 : decode cX8_nextToken 194 = .ok (.getfield 168, 3) := by decide +kernel
theorem dX8_nextToken_197 : decode cX8_nextToken 197 = .ok (.isub, 1) := by decide +kernel
theorem dX8_nextToken_198 : decode cX8_nextToken 198 = .ok (.bipush 8, 2) := by decide +kernel
theorem dX8_nextToken_200 : decode cX8_nextToken 200 = .ok (.if_icmp .le 7, 3) := by decide +kernel
theorem dX8_nextToken_207 : decode cX8_nextToken 207 = .ok (.iconst 1, 1) := by decide +kernel
theorem dX8_nextToken_208 : decode cX8_nextToken 208 = .ok (.putfield 178, 3) := by decide +kernel
theorem dX8_nextToken_203 : decode cX8_nextToken 203 = .ok (.iconst 4, 1) := by decide +kernel
theorem dX8_nextToken_204 : decode cX8_nextToken 204 = .ok (.goto 4, 3) := by decide +kernel
theorem dX8_nextToken_109 : decode cX8_nextToken 109 = .ok (.aload_n 0, 1) := by decide +kernel
theorem dX8_nextToken_110 : decode cX8_nextToken 110 = .ok (.aload_n 0, 1) := by decide +kernel
theorem dX8_nextToken_111 : decode cX8_nextToken 111 = .ok (.getfield 165, 3) := by decide +kernel
theorem dX8_nextToken_114 : decode cX8_nextToken 114 = .ok (.invokevirtual 181, 3) := by decide +kernel
theorem dX8_nextToken_117 : decode cX8_nextToken 117 = .ok (.bipush 97, 2) := by decide +kernel
theorem dX8_nextToken_119 : decode cX8_nextToken 119 = .ok (.if_icmp .lt 69, 3) := by decide +kernel
theorem dX8_nextToken_122 : decode cX8_nextToken 122 = .ok (.aload_n 0, 1) := by decide +kernel
theorem dX8_nextToken_123 : decode cX8_nextToken 123 = .ok (.aload_n 0, 1) := by decide +kernel
theorem dX8_nextToken_124 : decode cX8_nextToken 124 = .ok (.getfield 165, 3) := by decide +kernel
theorem dX8_nextToken_127 : decode cX8_nextToken 127 = .ok (.invokevirtual 181, 3) := by decide +kernel
theorem dX8_nextToken_130 : decode cX8_nextToken 130 = .ok (.bipush 122, 2) := by decide +kernel
theorem dX8_nextToken_132 : decode cX8_nextToken 132 = .ok (.if_icmp .gt 56, 3) := by decide +kernel
theorem dX8_nextToken_135 : decode cX8_nextToken 135 = .ok (.aload_n 0, 1) := by decide +kernel
theorem dX8_nextToken_136 : decode cX8_nextToken 136 = .ok (.getfield 165, 3) := by decide +kernel
theorem dX8_nextToken_139 : decode cX8_nextToken 139 = .ok (.aload_n 0, 1) := by decide +kernel
theorem dX8_nextToken_140 : decode cX8_nextToken 140 = .ok (.getfield 168, 3) := by decide +kernel
theorem dX8_nextToken_143 : decode cX8_nextToken 143 = .ok (.isub, 1) := by decide +kernel
theorem dX8_nextToken_144 : decode cX8_nextToken 144 = .ok (.bipush 8, 2) := by decide +kernel
theorem dX8_nextToken_146 : decode cX8_nextToken 146 = .ok (.if_icmp .ge 29, 3) := by decide +kernel
theorem dX8_nextToken_175 : decode cX8_nextToken 175 = .ok (.aload_n 0, 1) := by decide +kernel
theorem dX8_nextToken_176 : decode cX8_nextToken 176 = .ok (.dup, 1) := by decide +kernel
theorem dX8_nextToken_177 : decode cX8_nextToken 177 = .ok (.getfield 165, 3) := by decide +kernel
theorem dX8_nextToken_180 : decode cX8_nextToken 180 = .ok (.iconst 1, 1) := by decide +kernel
theorem dX8_nextToken_181 : decode cX8_nextToken 181 = .ok (.iadd, 1) := by decide +kernel
theorem dX8_nextToken_182 : decode cX8_nextToken 182 = .ok (.putfield 165, 3) := by decide +kernel
theorem dX8_nextToken_185 : decode cX8_nextToken 185 = .ok (.goto (-76), 3) := by decide +kernel
theorem dX8_nextToken_149 : decode cX8_nextToken 149 = .ok (.aload_n 0, 1) := by decide +kernel
theorem dX8_nextToken_150 : decode cX8_nextToken 150 = .ok (.aload_n 0, 1) := by decide +kernel
theorem dX8_nextToken_151 : decode cX8_nextToken 151 = .ok (.getfield 171, 3) := by decide +kernel
theorem dX8_nextToken_154 : decode cX8_nextToken 154 = .ok (.ldc2_w 185, 3) := by decide +kernel
theorem dX8_nextToken_157 : decode cX8_nextToken 157 = .ok (.lmul, 1) := by decide +kernel
theorem dX8_nextToken_158 : decode cX8_nextToken 158 = .ok (.aload_n 0, 1) := by decide +kernel
theorem dX8_nextToken_159 : decode cX8_nextToken 159 = .ok (.aload_n 0, 1) := by decide +kernel
theorem dX8_nextToken_160 : decode cX8_nextToken 160 = .ok (.getfield 165, 3) := by decide +kernel
theorem dX8_nextToken_163 : decode cX8_nextToken 163 = .ok (.invokevirtual 181, 3) := by decide +kernel
theorem dX8_nextToken_166 : decode cX8_nextToken 166 = .ok (.i2l, 1) := by decide +kernel
theorem dX8_nextToken_167 : decode cX8_nextToken 167 = .ok (.ladd, 1) := by decide +kernel
theorem dX8_nextToken_168 : decode cX8_nextToken 168 = .ok (.ldc2_w 187, 3) := by decide +kernel
theorem dX8_nextToken_171 : decode cX8_nextToken 171 = .ok (.lsub, 1) := by decide +kernel
theorem dX8_nextToken_172 : decode cX8_nextToken 172 = .ok (.putfield 171, 3) := by decide +kernel
theorem dX8_nextToken_52 : decode cX8_nextToken 52 = .ok (.aload_n 0, 1) := by decide +kernel
theorem dX8_nextToken_53 : decode cX8_nextToken 53 = .ok (.aload_n 0, 1) := by decide +kernel
theorem dX8_nextToken_54 : decode cX8_nextToken 54 = .ok (.getfield 165, 3) := by decide +kernel
theorem dX8_nextToken_57 : decode cX8_nextToken 57 = .ok (.putfield 168, 3) := by decide +kernel
theorem dX8_nextToken_60 : decode cX8_nextToken 60 = .ok (.aload_n 0, 1) := by decide +kernel
theorem dX8_nextToken_61 : decode cX8_nextToken 61 = .ok (.lconst 0, 1) := by decide +kernel
theorem dX8_nextToken_62 : decode cX8_nextToken 62 = .ok (.putfield 171, 3) := by decide +kernel
theorem dX8_nextToken_65 : decode cX8_nextToken 65 = .ok (.aload_n 0, 1) := by decide +kernel
theorem dX8_nextToken_66 : decode cX8_nextToken 66 = .ok (.iconst 0, 1) := by decide +kernel
theorem dX8_nextToken_67 : decode cX8_nextToken 67 = .ok (.putfield 175, 3) := by decide +kernel
theorem dX8_nextToken_70 : decode cX8_nextToken 70 = .ok (.aload_n 0, 1) := by decide +kernel
theorem dX8_nextToken_71 : decode cX8_nextToken 71 = .ok (.getfield 165, 3) := by decide +kernel
theorem dX8_nextToken_74 : decode cX8_nextToken 74 = .ok (.aload_n 0, 1) := by decide +kernel
theorem dX8_nextToken_75 : decode cX8_nextToken 75 = .ok (.getfield 162, 3) := by decide +kernel
theorem dX8_nextToken_78 : decode cX8_nextToken 78 = .ok (.if_icmp .ne 9, 3) := by decide +kernel
theorem dX8_nextToken_87 : decode cX8_nextToken 87 = .ok (.aload_n 0, 1) := by decide +kernel
theorem dX8_nextToken_88 : decode cX8_nextToken 88 = .ok (.getfield 7, 3) := by decide +kernel
theorem dX8_nextToken_91 : decode cX8_nextToken 91 = .ok (.aload_n 0, 1) := by decide +kernel
theorem dX8_nextToken_92 : decode cX8_nextToken 92 = .ok (.getfield 165, 3) := by decide +kernel
theorem dX8_nextToken_95 : decode cX8_nextToken 95 = .ok (.iaload, 1) := by decide +kernel
theorem dX8_nextToken_96 : decode cX8_nextToken 96 = .ok (.istore_n 1, 1) := by decide +kernel
theorem dX8_nextToken_97 : decode cX8_nextToken 97 = .ok (.iload_n 1, 1) := by decide +kernel
theorem dX8_nextToken_98 : decode cX8_nextToken 98 = .ok (.bipush 97, 2) := by decide +kernel
theorem dX8_nextToken_100 : decode cX8_nextToken 100 = .ok (.if_icmp .lt 112, 3) := by decide +kernel
theorem dX8_nextToken_103 : decode cX8_nextToken 103 = .ok (.iload_n 1, 1) := by decide +kernel
theorem dX8_nextToken_104 : decode cX8_nextToken 104 = .ok (.bipush 122, 2) := by decide +kernel
theorem dX8_nextToken_106 : decode cX8_nextToken 106 = .ok (.if_icmp .gt 106, 3) := by decide +kernel
theorem dX8_nextToken_81 : decode cX8_nextToken 81 = .ok (.aload_n 0, 1) := by decide +kernel
theorem dX8_nextToken_82 : decode cX8_nextToken 82 = .ok (.iconst 0, 1) := by decide +kernel
theorem dX8_nextToken_83 : decode cX8_nextToken 83 = .ok (.putfield 178, 3) := by decide +kernel
theorem dX8_nextToken_0 : decode cX8_nextToken 0 = .ok (.aload_n 0, 1) := by decide +kernel
theorem dX8_nextToken_1 : decode cX8_nextToken 1 = .ok (.getfield 165, 3) := by decide +kernel
theorem dX8_nextToken_4 : decode cX8_nextToken 4 = .ok (.aload_n 0, 1) := by decide +kernel
theorem dX8_nextToken_5 : decode cX8_nextToken 5 = .ok (.getfield 162, 3) := by decide +kernel
theorem dX8_nextToken_8 : decode cX8_nextToken 8 = .ok (.if_icmp .ge 44, 3) := by decide +kernel
theorem dX8_nextToken_11 : decode cX8_nextToken 11 = .ok (.aload_n 0, 1) := by decide +kernel
theorem dX8_nextToken_12 : decode cX8_nextToken 12 = .ok (.getfield 7, 3) := by decide +kernel
theorem dX8_nextToken_15 : decode cX8_nextToken 15 = .ok (.aload_n 0, 1) := by decide +kernel
theorem dX8_nextToken_16 : decode cX8_nextToken 16 = .ok (.getfield 165, 3) := by decide +kernel
theorem dX8_nextToken_19 : decode cX8_nextToken 19 = .ok (.iaload, 1) := by decide +kernel
theorem dX8_nextToken_20 : decode cX8_nextToken 20 = .ok (.bipush 32, 2) := by decide +kernel
theorem dX8_nextToken_22 : decode cX8_nextToken 22 = .ok (.if_icmp .eq 17, 3) := by decide +kernel
theorem dX8_nextToken_39 : decode cX8_nextToken 39 = .ok (.aload_n 0, 1) := by decide +kernel
theorem dX8_nextToken_40 : decode cX8_nextToken 40 = .ok (.dup, 1) := by decide +kernel
theorem dX8_nextToken_41 : decode cX8_nextToken 41 = .ok (.getfield 165, 3) := by decide +kernel
theorem dX8_nextToken_44 : decode cX8_nextToken 44 = .ok (.iconst 1, 1) := by decide +kernel
theorem dX8_nextToken_45 : decode cX8_nextToken 45 = .ok (.iadd, 1) := by decide +kernel
theorem dX8_nextToken_46 : decode cX8_nextToken 46 = .ok (.putfield 165, 3) := by decide +kernel
theorem dX8_nextToken_49 : decode cX8_nextToken 49 = .ok (.goto (-49), 3) := by decide +kernel
theorem dX8_nextToken_25 : decode cX8_nextToken 25 = .ok (.aload_n 0, 1) := by decide +kernel
theorem dX8_nextToken_26 : decode cX8_nextToken 26 = .ok (.getfield 7, 3) := by decide +kernel
theorem dX8_nextToken_29 : decode cX8_nextToken 29 = .ok (.aload_n 0, 1) := by decide +kernel
theorem dX8_nextToken_30 : decode cX8_nextToken 30 = .ok (.getfield 165, 3) := by decide +kernel
theorem dX8_nextToken_33 : decode cX8_nextToken 33 = .ok (.iaload, 1) := by decide +kernel
theorem dX8_nextToken_34 : decode cX8_nextToken 34 = .ok (.bipush 10, 2) := by decide +kernel
theorem dX8_nextToken_36 : decode cX8_nextToken 36 = .ok (.if_icmp .ne 16, 3) := by decide +kernel
theorem dX8_nextToken_86 : decode cX8_nextToken 86 = .ok (.return_, 1) := by decide +kernel
theorem dX8_nextToken_211 : decode cX8_nextToken 211 = .ok (.return_, 1) := by decide +kernel
theorem dX8_nextToken_321 : decode cX8_nextToken 321 = .ok (.return_, 1) := by decide +kernel
theorem dX8_nextToken_371 : decode cX8_nextToken 371 = .ok (.return_, 1) := by decide +kernel
def wW_X8_nextToken (ak : Nat → ClassId) (ad : Nat → Nat) (h : Nat) (am : Nat → Nat) (Fthrown : Int32) (Ftaped : Int32) (Fsize : Int32) (Fplace : Int32) (Fbegin : Int32) (Ftoken : Int32) (Fword : Int64) (Ftold : Int32) (Fwrong : Int32) (Fcode : Int32) (Fat : Int32) (Fway : Int32) (Fnext : Int32) (FisEnd : Int32) (FisFallen : Int32) (Fwritten : Int32) (Fmade : Int32) (Fstate : Int32) (FhandNext : Int32) (FhandSteps : Int32) (FhandWritten : Int32) (FmarkAt : Int32) (Atape : Nat → Int32) : va_W := [(h, .inr (7, mob am (Fthrown) (Ftaped) (Fsize) (Fplace) (Fbegin) (Ftoken) (Fword) (Ftold) (Fwrong) (Fcode) (Fat) (Fway) (Fnext) (FisEnd) (FisFallen) (Fwritten) (Fmade) (Fstate) (FhandNext) (FhandSteps) (FhandWritten) (FmarkAt))), ((am 0), .inl (ak 0, 1000, .inl (Atape)))]
def kf_X8_nextToken_345 (Fsize : Int32) (Atape : Nat → Int32)  (Φ : Int32 → Int32 → Int32 → Int64 → Int32 → Prop) (Fplace : Int32) (Fbegin : Int32) (Ftoken : Int32) (Fword : Int64) (Ftold : Int32) (l1 : Int32) : Prop := (l1 = 45 → Φ Fplace Fbegin 3 Fword Ftold) ∧ (¬ l1 = 45 → (l1 < 59 → Φ Fplace Fbegin 4 Fword Ftold) ∧ (¬ l1 < 59 → (61 < l1 → Φ Fplace Fbegin 4 Fword Ftold) ∧ (¬ 61 < l1 → Φ Fplace Fbegin 3 Fword Ftold)))
set_option maxHeartbeats 4000000 in
set_option maxRecDepth 100000 in
theorem kj_X8_nextToken_345 {p : Program} {l : Launch} {e : Env} {R : Room} {s : State} {m : MethodId} {args : Array Value} {below : List Frame} {meth : Method} {c : Code} {cells slots : Nat} {Q : State → Prop} {A : Nat → Prop} {D : va_G} {ak : Nat → ClassId} {ad : Nat → Nat} (hx : p.tables.exec = Jvm.exec) (hb : c.code = cX8_nextToken) (hown : s.vm.findClass RX8 = some m.cls) (hts : ∀ w ∈ wsX8_nextToken, w.before args s = true) (hml : c.maxLocals = 2) (hE : EV D ak s) (hT : ST D ak ad A s s.heap) (hA : ∀ q, s.heap.size ≤ q → A q) (hRf : 1 ≤ R.frames) (hRl : 21 ≤ R.locals) (hRc : cells ≤ R.cells ∧ slots ≤ R.slots) (h : Nat) (am : Nat → Nat) (Fthrown : Int32) (Ftaped : Int32) (Fsize : Int32) (Fwrong : Int32) (Fcode : Int32) (Fat : Int32) (Fway : Int32) (Fnext : Int32) (FisEnd : Int32) (FisFallen : Int32) (Fwritten : Int32) (Fmade : Int32) (Fstate : Int32) (FhandNext : Int32) (FhandSteps : Int32) (FhandWritten : Int32) (FmarkAt : Int32) (Atape : Nat → Int32)  (Φ : Int32 → Int32 → Int32 → Int64 → Int32 → Prop)
    (kR86 : ∀ (Fplace : Int32) (Fbegin : Int32) (Ftoken : Int32) (Fword : Int64) (Ftold : Int32) (H : Heap) (locs : List Loc) (ls : Array Slot), Φ Fplace Fbegin Ftoken Fword Ftold → va_P D vwCl (wW_X8_nextToken ak ad h am Fthrown Ftaped Fsize Fplace Fbegin Ftoken Fword Ftold Fwrong Fcode Fat Fway Fnext FisEnd FisFallen Fwritten Fmade Fstate FhandNext FhandSteps FhandWritten FmarkAt Atape) H → va_D A (wW_X8_nextToken ak ad h am Fthrown Ftaped Fsize Fplace Fbegin Ftoken Fword Ftold Fwrong Fcode Fat Fway Fnext FisEnd FisFallen Fwritten Fmade Fstate FhandNext FhandSteps FhandWritten FmarkAt Atape) → va_S A s.heap H locs → W p l e R s m args below meth c H locs cells slots Q (F0 m 86 ls []))
    (kR211 : ∀ (Fplace : Int32) (Fbegin : Int32) (Ftoken : Int32) (Fword : Int64) (Ftold : Int32) (H : Heap) (locs : List Loc) (ls : Array Slot), Φ Fplace Fbegin Ftoken Fword Ftold → va_P D vwCl (wW_X8_nextToken ak ad h am Fthrown Ftaped Fsize Fplace Fbegin Ftoken Fword Ftold Fwrong Fcode Fat Fway Fnext FisEnd FisFallen Fwritten Fmade Fstate FhandNext FhandSteps FhandWritten FmarkAt Atape) H → va_D A (wW_X8_nextToken ak ad h am Fthrown Ftaped Fsize Fplace Fbegin Ftoken Fword Ftold Fwrong Fcode Fat Fway Fnext FisEnd FisFallen Fwritten Fmade Fstate FhandNext FhandSteps FhandWritten FmarkAt Atape) → va_S A s.heap H locs → W p l e R s m args below meth c H locs cells slots Q (F0 m 211 ls []))
    (kR321 : ∀ (Fplace : Int32) (Fbegin : Int32) (Ftoken : Int32) (Fword : Int64) (Ftold : Int32) (H : Heap) (locs : List Loc) (ls : Array Slot), Φ Fplace Fbegin Ftoken Fword Ftold → va_P D vwCl (wW_X8_nextToken ak ad h am Fthrown Ftaped Fsize Fplace Fbegin Ftoken Fword Ftold Fwrong Fcode Fat Fway Fnext FisEnd FisFallen Fwritten Fmade Fstate FhandNext FhandSteps FhandWritten FmarkAt Atape) H → va_D A (wW_X8_nextToken ak ad h am Fthrown Ftaped Fsize Fplace Fbegin Ftoken Fword Ftold Fwrong Fcode Fat Fway Fnext FisEnd FisFallen Fwritten Fmade Fstate FhandNext FhandSteps FhandWritten FmarkAt Atape) → va_S A s.heap H locs → W p l e R s m args below meth c H locs cells slots Q (F0 m 321 ls []))
    (kR371 : ∀ (Fplace : Int32) (Fbegin : Int32) (Ftoken : Int32) (Fword : Int64) (Ftold : Int32) (H : Heap) (locs : List Loc) (ls : Array Slot), Φ Fplace Fbegin Ftoken Fword Ftold → va_P D vwCl (wW_X8_nextToken ak ad h am Fthrown Ftaped Fsize Fplace Fbegin Ftoken Fword Ftold Fwrong Fcode Fat Fway Fnext FisEnd FisFallen Fwritten Fmade Fstate FhandNext FhandSteps FhandWritten FmarkAt Atape) H → va_D A (wW_X8_nextToken ak ad h am Fthrown Ftaped Fsize Fplace Fbegin Ftoken Fword Ftold Fwrong Fcode Fat Fway Fnext FisEnd FisFallen Fwritten Fmade Fstate FhandNext FhandSteps FhandWritten FmarkAt Atape) → va_S A s.heap H locs → W p l e R s m args below meth c H locs cells slots Q (F0 m 371 ls []))
    : ∀ (Fplace : Int32) (Fbegin : Int32) (Ftoken : Int32) (Fword : Int64) (Ftold : Int32) (l1 : Int32) (H : Heap) (locs : List Loc) (ls : Array Slot), kf_X8_nextToken_345 Fsize Atape  Φ Fplace Fbegin Ftoken Fword Ftold l1 → va_P D vwCl (wW_X8_nextToken ak ad h am Fthrown Ftaped Fsize Fplace Fbegin Ftoken Fword Ftold Fwrong Fcode Fat Fway Fnext FisEnd FisFallen Fwritten Fmade Fstate FhandNext FhandSteps FhandWritten FmarkAt Atape) H → va_D A (wW_X8_nextToken ak ad h am Fthrown Ftaped Fsize Fplace Fbegin Ftoken Fword Ftold Fwrong Fcode Fat Fway Fnext FisEnd FisFallen Fwritten Fmade Fstate FhandNext FhandSteps FhandWritten FmarkAt Atape) → va_S A s.heap H locs → lv_has ls 2 [(1, .int (l1))] → W p l e R s m args below meth c H locs cells slots Q (F0 m 345 ls (.ref h :: [])) := by
  intro Fplace Fbegin Ftoken Fword Ftold l1 H locs ls hw hP hD hS hl
  delta kf_X8_nextToken_345 at hw
  refine lv_iload_n hx hb dX8_nextToken_345 rfl (lv_at hl 0 rfl) ?_
  refine lv_bipush (v := 45) hx hb dX8_nextToken_346 (by decide) ?_
  refine lv_icmp_eq (tgt := 363) hx hb dX8_nextToken_348 (by decide) (fun c_7 => ?_) (fun c_7 => ?_)
  · replace hw := hw.1 c_7
    refine lv_iconst (v := 3) hx hb dX8_nextToken_363 (by decide) ?_
    refine lv_goto (tgt := 368) hx hb dX8_nextToken_364 (by decide) ?_
    refine va_put (D := D) (ci := 7) (v := .int (3)) (ty := .int) (C := RX8) (T := TX8) (N := 69) hx hb hts (fun w h => wm_c (wc_X8 w h)) tyX8 tyX8_ok nmX8 hown hE.1 hP hD hS 0 rfl rfl 6 (by decide) (hts (.fieldLink RX8 178 "WornLinesModel" "token" "I") (wm_c hw_5)) (fun _ h9 => h9) rfl (by decide +kernel) (rfl) rfl (Nat.le_of_ble_eq_true rfl) dX8_nextToken_368 (fun H locs hP hD hS => ?_)
    have hP : va_P D vwCl (wW_X8_nextToken ak ad h am Fthrown Ftaped Fsize Fplace Fbegin 3 Fword Ftold Fwrong Fcode Fat Fway Fnext FisEnd FisFallen Fwritten Fmade Fstate FhandNext FhandSteps FhandWritten FmarkAt Atape) H := hP
    have hD : va_D A (wW_X8_nextToken ak ad h am Fthrown Ftaped Fsize Fplace Fbegin 3 Fword Ftold Fwrong Fcode Fat Fway Fnext FisEnd FisFallen Fwritten Fmade Fstate FhandNext FhandSteps FhandWritten FmarkAt Atape) := hD
    exact kR371 Fplace Fbegin 3 Fword Ftold _ _ _ hw hP hD hS
  · replace hw := hw.2 c_7
    refine lv_iload_n hx hb dX8_nextToken_351 rfl (lv_at hl 0 rfl) ?_
    refine lv_bipush (v := 59) hx hb dX8_nextToken_352 (by decide) ?_
    refine lv_icmp_lt (tgt := 367) hx hb dX8_nextToken_354 (by decide) (fun c_8 => ?_) (fun c_8 => ?_)
    · replace hw := hw.1 c_8
      refine lv_iconst (v := 4) hx hb dX8_nextToken_367 (by decide) ?_
      refine va_put (D := D) (ci := 7) (v := .int (4)) (ty := .int) (C := RX8) (T := TX8) (N := 69) hx hb hts (fun w h => wm_c (wc_X8 w h)) tyX8 tyX8_ok nmX8 hown hE.1 hP hD hS 0 rfl rfl 6 (by decide) (hts (.fieldLink RX8 178 "WornLinesModel" "token" "I") (wm_c hw_5)) (fun _ h9 => h9) rfl (by decide +kernel) (rfl) rfl (Nat.le_of_ble_eq_true rfl) dX8_nextToken_368 (fun H locs hP hD hS => ?_)
      have hP : va_P D vwCl (wW_X8_nextToken ak ad h am Fthrown Ftaped Fsize Fplace Fbegin 4 Fword Ftold Fwrong Fcode Fat Fway Fnext FisEnd FisFallen Fwritten Fmade Fstate FhandNext FhandSteps FhandWritten FmarkAt Atape) H := hP
      have hD : va_D A (wW_X8_nextToken ak ad h am Fthrown Ftaped Fsize Fplace Fbegin 4 Fword Ftold Fwrong Fcode Fat Fway Fnext FisEnd FisFallen Fwritten Fmade Fstate FhandNext FhandSteps FhandWritten FmarkAt Atape) := hD
      exact kR371 Fplace Fbegin 4 Fword Ftold _ _ _ hw hP hD hS
    · replace hw := hw.2 c_8
      refine lv_iload_n hx hb dX8_nextToken_357 rfl (lv_at hl 0 rfl) ?_
      refine lv_bipush (v := 61) hx hb dX8_nextToken_358 (by decide) ?_
      refine lv_icmp_gt (tgt := 367) hx hb dX8_nextToken_360 (by decide) (fun c_9 => ?_) (fun c_9 => ?_)
      · replace hw := hw.1 c_9
        refine lv_iconst (v := 4) hx hb dX8_nextToken_367 (by decide) ?_
        refine va_put (D := D) (ci := 7) (v := .int (4)) (ty := .int) (C := RX8) (T := TX8) (N := 69) hx hb hts (fun w h => wm_c (wc_X8 w h)) tyX8 tyX8_ok nmX8 hown hE.1 hP hD hS 0 rfl rfl 6 (by decide) (hts (.fieldLink RX8 178 "WornLinesModel" "token" "I") (wm_c hw_5)) (fun _ h9 => h9) rfl (by decide +kernel) (rfl) rfl (Nat.le_of_ble_eq_true rfl) dX8_nextToken_368 (fun H locs hP hD hS => ?_)
        have hP : va_P D vwCl (wW_X8_nextToken ak ad h am Fthrown Ftaped Fsize Fplace Fbegin 4 Fword Ftold Fwrong Fcode Fat Fway Fnext FisEnd FisFallen Fwritten Fmade Fstate FhandNext FhandSteps FhandWritten FmarkAt Atape) H := hP
        have hD : va_D A (wW_X8_nextToken ak ad h am Fthrown Ftaped Fsize Fplace Fbegin 4 Fword Ftold Fwrong Fcode Fat Fway Fnext FisEnd FisFallen Fwritten Fmade Fstate FhandNext FhandSteps FhandWritten FmarkAt Atape) := hD
        exact kR371 Fplace Fbegin 4 Fword Ftold _ _ _ hw hP hD hS
      · replace hw := hw.2 c_9
        refine lv_iconst (v := 3) hx hb dX8_nextToken_363 (by decide) ?_
        refine lv_goto (tgt := 368) hx hb dX8_nextToken_364 (by decide) ?_
        refine va_put (D := D) (ci := 7) (v := .int (3)) (ty := .int) (C := RX8) (T := TX8) (N := 69) hx hb hts (fun w h => wm_c (wc_X8 w h)) tyX8 tyX8_ok nmX8 hown hE.1 hP hD hS 0 rfl rfl 6 (by decide) (hts (.fieldLink RX8 178 "WornLinesModel" "token" "I") (wm_c hw_5)) (fun _ h9 => h9) rfl (by decide +kernel) (rfl) rfl (Nat.le_of_ble_eq_true rfl) dX8_nextToken_368 (fun H locs hP hD hS => ?_)
        have hP : va_P D vwCl (wW_X8_nextToken ak ad h am Fthrown Ftaped Fsize Fplace Fbegin 3 Fword Ftold Fwrong Fcode Fat Fway Fnext FisEnd FisFallen Fwritten Fmade Fstate FhandNext FhandSteps FhandWritten FmarkAt Atape) H := hP
        have hD : va_D A (wW_X8_nextToken ak ad h am Fthrown Ftaped Fsize Fplace Fbegin 3 Fword Ftold Fwrong Fcode Fat Fway Fnext FisEnd FisFallen Fwritten Fmade Fstate FhandNext FhandSteps FhandWritten FmarkAt Atape) := hD
        exact kR371 Fplace Fbegin 3 Fword Ftold _ _ _ hw hP hD hS

def kf_X8_nextToken_322 (Fsize : Int32) (Atape : Nat → Int32)  (Φ : Int32 → Int32 → Int32 → Int64 → Int32 → Prop) (Fplace : Int32) (Fbegin : Int32) (Ftoken : Int32) (Fword : Int64) (Ftold : Int32) (l1 : Int32) : Prop := (l1 < 40 → kf_X8_nextToken_345 Fsize Atape  Φ (Fplace + 1) Fbegin Ftoken Fword Ftold l1) ∧ (¬ l1 < 40 → (l1 ≤ 43 → Φ (Fplace + 1) Fbegin 3 Fword Ftold) ∧ (¬ l1 ≤ 43 → kf_X8_nextToken_345 Fsize Atape  Φ (Fplace + 1) Fbegin Ftoken Fword Ftold l1))
set_option maxHeartbeats 4000000 in
set_option maxRecDepth 100000 in
theorem kj_X8_nextToken_322 {p : Program} {l : Launch} {e : Env} {R : Room} {s : State} {m : MethodId} {args : Array Value} {below : List Frame} {meth : Method} {c : Code} {cells slots : Nat} {Q : State → Prop} {A : Nat → Prop} {D : va_G} {ak : Nat → ClassId} {ad : Nat → Nat} (hx : p.tables.exec = Jvm.exec) (hb : c.code = cX8_nextToken) (hown : s.vm.findClass RX8 = some m.cls) (hts : ∀ w ∈ wsX8_nextToken, w.before args s = true) (hml : c.maxLocals = 2) (hE : EV D ak s) (hT : ST D ak ad A s s.heap) (hA : ∀ q, s.heap.size ≤ q → A q) (hRf : 1 ≤ R.frames) (hRl : 21 ≤ R.locals) (hRc : cells ≤ R.cells ∧ slots ≤ R.slots) (h : Nat) (am : Nat → Nat) (Fthrown : Int32) (Ftaped : Int32) (Fsize : Int32) (Fwrong : Int32) (Fcode : Int32) (Fat : Int32) (Fway : Int32) (Fnext : Int32) (FisEnd : Int32) (FisFallen : Int32) (Fwritten : Int32) (Fmade : Int32) (Fstate : Int32) (FhandNext : Int32) (FhandSteps : Int32) (FhandWritten : Int32) (FmarkAt : Int32) (Atape : Nat → Int32)  (Φ : Int32 → Int32 → Int32 → Int64 → Int32 → Prop)
    (kR86 : ∀ (Fplace : Int32) (Fbegin : Int32) (Ftoken : Int32) (Fword : Int64) (Ftold : Int32) (H : Heap) (locs : List Loc) (ls : Array Slot), Φ Fplace Fbegin Ftoken Fword Ftold → va_P D vwCl (wW_X8_nextToken ak ad h am Fthrown Ftaped Fsize Fplace Fbegin Ftoken Fword Ftold Fwrong Fcode Fat Fway Fnext FisEnd FisFallen Fwritten Fmade Fstate FhandNext FhandSteps FhandWritten FmarkAt Atape) H → va_D A (wW_X8_nextToken ak ad h am Fthrown Ftaped Fsize Fplace Fbegin Ftoken Fword Ftold Fwrong Fcode Fat Fway Fnext FisEnd FisFallen Fwritten Fmade Fstate FhandNext FhandSteps FhandWritten FmarkAt Atape) → va_S A s.heap H locs → W p l e R s m args below meth c H locs cells slots Q (F0 m 86 ls []))
    (kR211 : ∀ (Fplace : Int32) (Fbegin : Int32) (Ftoken : Int32) (Fword : Int64) (Ftold : Int32) (H : Heap) (locs : List Loc) (ls : Array Slot), Φ Fplace Fbegin Ftoken Fword Ftold → va_P D vwCl (wW_X8_nextToken ak ad h am Fthrown Ftaped Fsize Fplace Fbegin Ftoken Fword Ftold Fwrong Fcode Fat Fway Fnext FisEnd FisFallen Fwritten Fmade Fstate FhandNext FhandSteps FhandWritten FmarkAt Atape) H → va_D A (wW_X8_nextToken ak ad h am Fthrown Ftaped Fsize Fplace Fbegin Ftoken Fword Ftold Fwrong Fcode Fat Fway Fnext FisEnd FisFallen Fwritten Fmade Fstate FhandNext FhandSteps FhandWritten FmarkAt Atape) → va_S A s.heap H locs → W p l e R s m args below meth c H locs cells slots Q (F0 m 211 ls []))
    (kR321 : ∀ (Fplace : Int32) (Fbegin : Int32) (Ftoken : Int32) (Fword : Int64) (Ftold : Int32) (H : Heap) (locs : List Loc) (ls : Array Slot), Φ Fplace Fbegin Ftoken Fword Ftold → va_P D vwCl (wW_X8_nextToken ak ad h am Fthrown Ftaped Fsize Fplace Fbegin Ftoken Fword Ftold Fwrong Fcode Fat Fway Fnext FisEnd FisFallen Fwritten Fmade Fstate FhandNext FhandSteps FhandWritten FmarkAt Atape) H → va_D A (wW_X8_nextToken ak ad h am Fthrown Ftaped Fsize Fplace Fbegin Ftoken Fword Ftold Fwrong Fcode Fat Fway Fnext FisEnd FisFallen Fwritten Fmade Fstate FhandNext FhandSteps FhandWritten FmarkAt Atape) → va_S A s.heap H locs → W p l e R s m args below meth c H locs cells slots Q (F0 m 321 ls []))
    (kR371 : ∀ (Fplace : Int32) (Fbegin : Int32) (Ftoken : Int32) (Fword : Int64) (Ftold : Int32) (H : Heap) (locs : List Loc) (ls : Array Slot), Φ Fplace Fbegin Ftoken Fword Ftold → va_P D vwCl (wW_X8_nextToken ak ad h am Fthrown Ftaped Fsize Fplace Fbegin Ftoken Fword Ftold Fwrong Fcode Fat Fway Fnext FisEnd FisFallen Fwritten Fmade Fstate FhandNext FhandSteps FhandWritten FmarkAt Atape) H → va_D A (wW_X8_nextToken ak ad h am Fthrown Ftaped Fsize Fplace Fbegin Ftoken Fword Ftold Fwrong Fcode Fat Fway Fnext FisEnd FisFallen Fwritten Fmade Fstate FhandNext FhandSteps FhandWritten FmarkAt Atape) → va_S A s.heap H locs → W p l e R s m args below meth c H locs cells slots Q (F0 m 371 ls []))
    : ∀ (Fplace : Int32) (Fbegin : Int32) (Ftoken : Int32) (Fword : Int64) (Ftold : Int32) (l1 : Int32) (H : Heap) (locs : List Loc) (ls : Array Slot), kf_X8_nextToken_322 Fsize Atape  Φ Fplace Fbegin Ftoken Fword Ftold l1 → va_P D vwCl (wW_X8_nextToken ak ad h am Fthrown Ftaped Fsize Fplace Fbegin Ftoken Fword Ftold Fwrong Fcode Fat Fway Fnext FisEnd FisFallen Fwritten Fmade Fstate FhandNext FhandSteps FhandWritten FmarkAt Atape) H → va_D A (wW_X8_nextToken ak ad h am Fthrown Ftaped Fsize Fplace Fbegin Ftoken Fword Ftold Fwrong Fcode Fat Fway Fnext FisEnd FisFallen Fwritten Fmade Fstate FhandNext FhandSteps FhandWritten FmarkAt Atape) → va_S A s.heap H locs → lv_has ls 2 [(0, .ref h), (1, .int (l1))] → W p l e R s m args below meth c H locs cells slots Q (F0 m 322 ls ([])) := by
  intro Fplace Fbegin Ftoken Fword Ftold l1 H locs ls hw hP hD hS hl
  delta kf_X8_nextToken_322 at hw
  refine lv_aload_n hx hb dX8_nextToken_322 rfl (lv_at hl 0 rfl) ?_
  refine lv_dup hx hb dX8_nextToken_323 rfl ?_
  refine va_get (D := D) (ci := 7) (v := .int (Fplace)) (C := RX8) (T := TX8) (N := 69) hx hb hts (fun w h => wm_c (wc_X8 w h)) hown hE.1 hP 0 rfl rfl 4 (by decide) (hts (.fieldLink RX8 165 "WornLinesModel" "place" "I") (wm_c hw_6)) (fun _ h9 => h9) rfl dX8_nextToken_324 ?_
  refine lv_iconst (v := 1) hx hb dX8_nextToken_327 (by decide) ?_
  refine lv_iadd hx hb dX8_nextToken_328 ?_
  refine va_put (D := D) (ci := 7) (v := .int (Fplace + 1)) (ty := .int) (C := RX8) (T := TX8) (N := 69) hx hb hts (fun w h => wm_c (wc_X8 w h)) tyX8 tyX8_ok nmX8 hown hE.1 hP hD hS 0 rfl rfl 4 (by decide) (hts (.fieldLink RX8 165 "WornLinesModel" "place" "I") (wm_c hw_6)) (fun _ h9 => h9) rfl (by decide +kernel) (rfl) rfl (Nat.le_of_ble_eq_true rfl) dX8_nextToken_329 (fun H locs hP hD hS => ?_)
  have hP : va_P D vwCl (wW_X8_nextToken ak ad h am Fthrown Ftaped Fsize (Fplace + 1) Fbegin Ftoken Fword Ftold Fwrong Fcode Fat Fway Fnext FisEnd FisFallen Fwritten Fmade Fstate FhandNext FhandSteps FhandWritten FmarkAt Atape) H := hP
  have hD : va_D A (wW_X8_nextToken ak ad h am Fthrown Ftaped Fsize (Fplace + 1) Fbegin Ftoken Fword Ftold Fwrong Fcode Fat Fway Fnext FisEnd FisFallen Fwritten Fmade Fstate FhandNext FhandSteps FhandWritten FmarkAt Atape) := hD
  refine lv_aload_n hx hb dX8_nextToken_332 rfl (lv_at hl 0 rfl) ?_
  refine lv_iload_n hx hb dX8_nextToken_333 rfl (lv_at hl 1 rfl) ?_
  refine lv_bipush (v := 40) hx hb dX8_nextToken_334 (by decide) ?_
  refine lv_icmp_lt (tgt := 345) hx hb dX8_nextToken_336 (by decide) (fun c_6 => ?_) (fun c_6 => ?_)
  · replace hw := hw.1 c_6
    exact kj_X8_nextToken_345 hx hb hown hts hml hE hT hA hRf hRl hRc h am Fthrown Ftaped Fsize Fwrong Fcode Fat Fway Fnext FisEnd FisFallen Fwritten Fmade Fstate FhandNext FhandSteps FhandWritten FmarkAt Atape  Φ  kR86 kR211 kR321 kR371 (Fplace + 1) Fbegin Ftoken Fword Ftold l1 _ _ _ hw hP hD hS (lv_sub hl [1] rfl)
  · replace hw := hw.2 c_6
    refine lv_iload_n hx hb dX8_nextToken_339 rfl (lv_at hl 1 rfl) ?_
    refine lv_bipush (v := 43) hx hb dX8_nextToken_340 (by decide) ?_
    refine lv_icmp_le (tgt := 363) hx hb dX8_nextToken_342 (by decide) (fun c_10 => ?_) (fun c_10 => ?_)
    · replace hw := hw.1 c_10
      refine lv_iconst (v := 3) hx hb dX8_nextToken_363 (by decide) ?_
      refine lv_goto (tgt := 368) hx hb dX8_nextToken_364 (by decide) ?_
      refine va_put (D := D) (ci := 7) (v := .int (3)) (ty := .int) (C := RX8) (T := TX8) (N := 69) hx hb hts (fun w h => wm_c (wc_X8 w h)) tyX8 tyX8_ok nmX8 hown hE.1 hP hD hS 0 rfl rfl 6 (by decide) (hts (.fieldLink RX8 178 "WornLinesModel" "token" "I") (wm_c hw_5)) (fun _ h9 => h9) rfl (by decide +kernel) (rfl) rfl (Nat.le_of_ble_eq_true rfl) dX8_nextToken_368 (fun H locs hP hD hS => ?_)
      have hP : va_P D vwCl (wW_X8_nextToken ak ad h am Fthrown Ftaped Fsize (Fplace + 1) Fbegin 3 Fword Ftold Fwrong Fcode Fat Fway Fnext FisEnd FisFallen Fwritten Fmade Fstate FhandNext FhandSteps FhandWritten FmarkAt Atape) H := hP
      have hD : va_D A (wW_X8_nextToken ak ad h am Fthrown Ftaped Fsize (Fplace + 1) Fbegin 3 Fword Ftold Fwrong Fcode Fat Fway Fnext FisEnd FisFallen Fwritten Fmade Fstate FhandNext FhandSteps FhandWritten FmarkAt Atape) := hD
      exact kR371 (Fplace + 1) Fbegin 3 Fword Ftold _ _ _ hw hP hD hS
    · replace hw := hw.2 c_10
      exact kj_X8_nextToken_345 hx hb hown hts hml hE hT hA hRf hRl hRc h am Fthrown Ftaped Fsize Fwrong Fcode Fat Fway Fnext FisEnd FisFallen Fwritten Fmade Fstate FhandNext FhandSteps FhandWritten FmarkAt Atape  Φ  kR86 kR211 kR321 kR371 (Fplace + 1) Fbegin Ftoken Fword Ftold l1 _ _ _ hw hP hD hS (lv_sub hl [1] rfl)

def kf_X8_nextToken_299 (Fsize : Int32) (Atape : Nat → Int32)  (Φ : Int32 → Int32 → Int32 → Int64 → Int32 → Prop) (Fplace : Int32) (Fbegin : Int32) (Ftoken : Int32) (Fword : Int64) (Ftold : Int32) : Prop := ((Fplace - Fbegin) ≤ 4 → Φ Fplace Fbegin 2 Fword Ftold) ∧ (¬ (Fplace - Fbegin) ≤ 4 → Φ Fplace Fbegin 4 Fword Ftold)
set_option maxHeartbeats 4000000 in
set_option maxRecDepth 100000 in
theorem kj_X8_nextToken_299 {p : Program} {l : Launch} {e : Env} {R : Room} {s : State} {m : MethodId} {args : Array Value} {below : List Frame} {meth : Method} {c : Code} {cells slots : Nat} {Q : State → Prop} {A : Nat → Prop} {D : va_G} {ak : Nat → ClassId} {ad : Nat → Nat} (hx : p.tables.exec = Jvm.exec) (hb : c.code = cX8_nextToken) (hown : s.vm.findClass RX8 = some m.cls) (hts : ∀ w ∈ wsX8_nextToken, w.before args s = true) (hml : c.maxLocals = 2) (hE : EV D ak s) (hT : ST D ak ad A s s.heap) (hA : ∀ q, s.heap.size ≤ q → A q) (hRf : 1 ≤ R.frames) (hRl : 21 ≤ R.locals) (hRc : cells ≤ R.cells ∧ slots ≤ R.slots) (h : Nat) (am : Nat → Nat) (Fthrown : Int32) (Ftaped : Int32) (Fsize : Int32) (Fwrong : Int32) (Fcode : Int32) (Fat : Int32) (Fway : Int32) (Fnext : Int32) (FisEnd : Int32) (FisFallen : Int32) (Fwritten : Int32) (Fmade : Int32) (Fstate : Int32) (FhandNext : Int32) (FhandSteps : Int32) (FhandWritten : Int32) (FmarkAt : Int32) (Atape : Nat → Int32)  (Φ : Int32 → Int32 → Int32 → Int64 → Int32 → Prop)
    (kR86 : ∀ (Fplace : Int32) (Fbegin : Int32) (Ftoken : Int32) (Fword : Int64) (Ftold : Int32) (H : Heap) (locs : List Loc) (ls : Array Slot), Φ Fplace Fbegin Ftoken Fword Ftold → va_P D vwCl (wW_X8_nextToken ak ad h am Fthrown Ftaped Fsize Fplace Fbegin Ftoken Fword Ftold Fwrong Fcode Fat Fway Fnext FisEnd FisFallen Fwritten Fmade Fstate FhandNext FhandSteps FhandWritten FmarkAt Atape) H → va_D A (wW_X8_nextToken ak ad h am Fthrown Ftaped Fsize Fplace Fbegin Ftoken Fword Ftold Fwrong Fcode Fat Fway Fnext FisEnd FisFallen Fwritten Fmade Fstate FhandNext FhandSteps FhandWritten FmarkAt Atape) → va_S A s.heap H locs → W p l e R s m args below meth c H locs cells slots Q (F0 m 86 ls []))
    (kR211 : ∀ (Fplace : Int32) (Fbegin : Int32) (Ftoken : Int32) (Fword : Int64) (Ftold : Int32) (H : Heap) (locs : List Loc) (ls : Array Slot), Φ Fplace Fbegin Ftoken Fword Ftold → va_P D vwCl (wW_X8_nextToken ak ad h am Fthrown Ftaped Fsize Fplace Fbegin Ftoken Fword Ftold Fwrong Fcode Fat Fway Fnext FisEnd FisFallen Fwritten Fmade Fstate FhandNext FhandSteps FhandWritten FmarkAt Atape) H → va_D A (wW_X8_nextToken ak ad h am Fthrown Ftaped Fsize Fplace Fbegin Ftoken Fword Ftold Fwrong Fcode Fat Fway Fnext FisEnd FisFallen Fwritten Fmade Fstate FhandNext FhandSteps FhandWritten FmarkAt Atape) → va_S A s.heap H locs → W p l e R s m args below meth c H locs cells slots Q (F0 m 211 ls []))
    (kR321 : ∀ (Fplace : Int32) (Fbegin : Int32) (Ftoken : Int32) (Fword : Int64) (Ftold : Int32) (H : Heap) (locs : List Loc) (ls : Array Slot), Φ Fplace Fbegin Ftoken Fword Ftold → va_P D vwCl (wW_X8_nextToken ak ad h am Fthrown Ftaped Fsize Fplace Fbegin Ftoken Fword Ftold Fwrong Fcode Fat Fway Fnext FisEnd FisFallen Fwritten Fmade Fstate FhandNext FhandSteps FhandWritten FmarkAt Atape) H → va_D A (wW_X8_nextToken ak ad h am Fthrown Ftaped Fsize Fplace Fbegin Ftoken Fword Ftold Fwrong Fcode Fat Fway Fnext FisEnd FisFallen Fwritten Fmade Fstate FhandNext FhandSteps FhandWritten FmarkAt Atape) → va_S A s.heap H locs → W p l e R s m args below meth c H locs cells slots Q (F0 m 321 ls []))
    (kR371 : ∀ (Fplace : Int32) (Fbegin : Int32) (Ftoken : Int32) (Fword : Int64) (Ftold : Int32) (H : Heap) (locs : List Loc) (ls : Array Slot), Φ Fplace Fbegin Ftoken Fword Ftold → va_P D vwCl (wW_X8_nextToken ak ad h am Fthrown Ftaped Fsize Fplace Fbegin Ftoken Fword Ftold Fwrong Fcode Fat Fway Fnext FisEnd FisFallen Fwritten Fmade Fstate FhandNext FhandSteps FhandWritten FmarkAt Atape) H → va_D A (wW_X8_nextToken ak ad h am Fthrown Ftaped Fsize Fplace Fbegin Ftoken Fword Ftold Fwrong Fcode Fat Fway Fnext FisEnd FisFallen Fwritten Fmade Fstate FhandNext FhandSteps FhandWritten FmarkAt Atape) → va_S A s.heap H locs → W p l e R s m args below meth c H locs cells slots Q (F0 m 371 ls []))
    : ∀ (Fplace : Int32) (Fbegin : Int32) (Ftoken : Int32) (Fword : Int64) (Ftold : Int32) (H : Heap) (locs : List Loc) (ls : Array Slot), kf_X8_nextToken_299 Fsize Atape  Φ Fplace Fbegin Ftoken Fword Ftold → va_P D vwCl (wW_X8_nextToken ak ad h am Fthrown Ftaped Fsize Fplace Fbegin Ftoken Fword Ftold Fwrong Fcode Fat Fway Fnext FisEnd FisFallen Fwritten Fmade Fstate FhandNext FhandSteps FhandWritten FmarkAt Atape) H → va_D A (wW_X8_nextToken ak ad h am Fthrown Ftaped Fsize Fplace Fbegin Ftoken Fword Ftold Fwrong Fcode Fat Fway Fnext FisEnd FisFallen Fwritten Fmade Fstate FhandNext FhandSteps FhandWritten FmarkAt Atape) → va_S A s.heap H locs → lv_has ls 2 [(0, .ref h)] → W p l e R s m args below meth c H locs cells slots Q (F0 m 299 ls ([])) := by
  intro Fplace Fbegin Ftoken Fword Ftold H locs ls hw hP hD hS hl
  delta kf_X8_nextToken_299 at hw
  refine lv_aload_n hx hb dX8_nextToken_299 rfl (lv_at hl 0 rfl) ?_
  refine lv_aload_n hx hb dX8_nextToken_300 rfl (lv_at hl 0 rfl) ?_
  refine va_get (D := D) (ci := 7) (v := .int (Fplace)) (C := RX8) (T := TX8) (N := 69) hx hb hts (fun w h => wm_c (wc_X8 w h)) hown hE.1 hP 0 rfl rfl 4 (by decide) (hts (.fieldLink RX8 165 "WornLinesModel" "place" "I") (wm_c hw_6)) (fun _ h9 => h9) rfl dX8_nextToken_301 ?_
  refine lv_aload_n hx hb dX8_nextToken_304 rfl (lv_at hl 0 rfl) ?_
  refine va_get (D := D) (ci := 7) (v := .int (Fbegin)) (C := RX8) (T := TX8) (N := 69) hx hb hts (fun w h => wm_c (wc_X8 w h)) hown hE.1 hP 0 rfl rfl 5 (by decide) (hts (.fieldLink RX8 168 "WornLinesModel" "begin" "I") (wm_c hw_7)) (fun _ h9 => h9) rfl dX8_nextToken_305 ?_
  refine lv_isub hx hb dX8_nextToken_308 ?_
  refine lv_iconst (v := 4) hx hb dX8_nextToken_309 (by decide) ?_
  refine lv_icmp_le (tgt := 317) hx hb dX8_nextToken_310 (by decide) (fun c_15 => ?_) (fun c_15 => ?_)
  · replace hw := hw.1 c_15
    refine lv_iconst (v := 2) hx hb dX8_nextToken_317 (by decide) ?_
    refine va_put (D := D) (ci := 7) (v := .int (2)) (ty := .int) (C := RX8) (T := TX8) (N := 69) hx hb hts (fun w h => wm_c (wc_X8 w h)) tyX8 tyX8_ok nmX8 hown hE.1 hP hD hS 0 rfl rfl 6 (by decide) (hts (.fieldLink RX8 178 "WornLinesModel" "token" "I") (wm_c hw_5)) (fun _ h9 => h9) rfl (by decide +kernel) (rfl) rfl (Nat.le_of_ble_eq_true rfl) dX8_nextToken_318 (fun H locs hP hD hS => ?_)
    have hP : va_P D vwCl (wW_X8_nextToken ak ad h am Fthrown Ftaped Fsize Fplace Fbegin 2 Fword Ftold Fwrong Fcode Fat Fway Fnext FisEnd FisFallen Fwritten Fmade Fstate FhandNext FhandSteps FhandWritten FmarkAt Atape) H := hP
    have hD : va_D A (wW_X8_nextToken ak ad h am Fthrown Ftaped Fsize Fplace Fbegin 2 Fword Ftold Fwrong Fcode Fat Fway Fnext FisEnd FisFallen Fwritten Fmade Fstate FhandNext FhandSteps FhandWritten FmarkAt Atape) := hD
    exact kR321 Fplace Fbegin 2 Fword Ftold _ _ _ hw hP hD hS
  · replace hw := hw.2 c_15
    refine lv_iconst (v := 4) hx hb dX8_nextToken_313 (by decide) ?_
    refine lv_goto (tgt := 318) hx hb dX8_nextToken_314 (by decide) ?_
    refine va_put (D := D) (ci := 7) (v := .int (4)) (ty := .int) (C := RX8) (T := TX8) (N := 69) hx hb hts (fun w h => wm_c (wc_X8 w h)) tyX8 tyX8_ok nmX8 hown hE.1 hP hD hS 0 rfl rfl 6 (by decide) (hts (.fieldLink RX8 178 "WornLinesModel" "token" "I") (wm_c hw_5)) (fun _ h9 => h9) rfl (by decide +kernel) (rfl) rfl (Nat.le_of_ble_eq_true rfl) dX8_nextToken_318 (fun H locs hP hD hS => ?_)
    have hP : va_P D vwCl (wW_X8_nextToken ak ad h am Fthrown Ftaped Fsize Fplace Fbegin 4 Fword Ftold Fwrong Fcode Fat Fway Fnext FisEnd FisFallen Fwritten Fmade Fstate FhandNext FhandSteps FhandWritten FmarkAt Atape) H := hP
    have hD : va_D A (wW_X8_nextToken ak ad h am Fthrown Ftaped Fsize Fplace Fbegin 4 Fword Ftold Fwrong Fcode Fat Fway Fnext FisEnd FisFallen Fwritten Fmade Fstate FhandNext FhandSteps FhandWritten FmarkAt Atape) := hD
    exact kR321 Fplace Fbegin 4 Fword Ftold _ _ _ hw hP hD hS

def lb_X8_nextToken_224 (Fsize : Int32) (Atape : Nat → Int32)  (Φ : Int32 → Int32 → Int32 → Int64 → Int32 → Prop) (back : Int32 → Int32 → Int32 → Int64 → Int32 → Prop) (Fplace : Int32) (Fbegin : Int32) (Ftoken : Int32) (Fword : Int64) (Ftold : Int32) : Prop := wp_X8_signAt Fsize Atape Fplace (fun r_13 => (r_13 < 48 → kf_X8_nextToken_299 Fsize Atape  Φ Fplace Fbegin Ftoken Fword Ftold) ∧ (¬ r_13 < 48 → wp_X8_signAt Fsize Atape Fplace (fun r_17 => (57 < r_17 → kf_X8_nextToken_299 Fsize Atape  Φ Fplace Fbegin Ftoken Fword Ftold) ∧ (¬ 57 < r_17 → (4 ≤ (Fplace - Fbegin) → back (Fplace + 1) Fbegin Ftoken Fword Ftold) ∧ (¬ 4 ≤ (Fplace - Fbegin) → wp_X8_signAt Fsize Atape Fplace (fun r_21 => back (Fplace + 1) Fbegin Ftoken Fword (((Ftold * 10) + r_21) - 48)))))))
def lf_X8_nextToken_224 (Fsize : Int32) (Atape : Nat → Int32)  (Φ : Int32 → Int32 → Int32 → Int64 → Int32 → Prop) : Nat → Int32 → Int32 → Int32 → Int64 → Int32 → Prop
  | 0, _, _, _, _, _ => False
  | n_ + 1, Fplace, Fbegin, Ftoken, Fword, Ftold => lb_X8_nextToken_224 Fsize Atape  Φ (lf_X8_nextToken_224 Fsize Atape  Φ n_) Fplace Fbegin Ftoken Fword Ftold
theorem li_X8_nextToken_224 (Fsize : Int32) (Atape : Nat → Int32)  (Φ : Int32 → Int32 → Int32 → Int64 → Int32 → Prop) (Inv : Int32 → Int32 → Int32 → Int64 → Int32 → Prop) (mu : Int32 → Int32 → Int32 → Int64 → Int32 → Nat) (hs : ∀ (back : Int32 → Int32 → Int32 → Int64 → Int32 → Prop) (Fplace : Int32) (Fbegin : Int32) (Ftoken : Int32) (Fword : Int64) (Ftold : Int32), Inv Fplace Fbegin Ftoken Fword Ftold → (∀ (Fplace' : Int32) (Fbegin' : Int32) (Ftoken' : Int32) (Fword' : Int64) (Ftold' : Int32), Inv Fplace' Fbegin' Ftoken' Fword' Ftold' → mu Fplace' Fbegin' Ftoken' Fword' Ftold' < mu Fplace Fbegin Ftoken Fword Ftold → back Fplace' Fbegin' Ftoken' Fword' Ftold') → lb_X8_nextToken_224 Fsize Atape  Φ back Fplace Fbegin Ftoken Fword Ftold) : ∀ (n_ : Nat) (Fplace : Int32) (Fbegin : Int32) (Ftoken : Int32) (Fword : Int64) (Ftold : Int32), Inv Fplace Fbegin Ftoken Fword Ftold → mu Fplace Fbegin Ftoken Fword Ftold < n_ → lf_X8_nextToken_224 Fsize Atape  Φ n_ Fplace Fbegin Ftoken Fword Ftold := by
  intro n_
  induction n_ with
  | zero => intro Fplace Fbegin Ftoken Fword Ftold _ h; exact absurd h (Nat.not_lt_zero _)
  | succ n_ ih => intro Fplace Fbegin Ftoken Fword Ftold hI hm; exact hs _ Fplace Fbegin Ftoken Fword Ftold hI (fun Fplace' Fbegin' Ftoken' Fword' Ftold' h1 h2 => ih Fplace' Fbegin' Ftoken' Fword' Ftold' h1 (by omega))
set_option maxHeartbeats 4000000 in
set_option maxRecDepth 100000 in
theorem lp_X8_nextToken_224 {p : Program} {l : Launch} {e : Env} {R : Room} {s : State} {m : MethodId} {args : Array Value} {below : List Frame} {meth : Method} {c : Code} {cells slots : Nat} {Q : State → Prop} {A : Nat → Prop} {D : va_G} {ak : Nat → ClassId} {ad : Nat → Nat} (hx : p.tables.exec = Jvm.exec) (hb : c.code = cX8_nextToken) (hown : s.vm.findClass RX8 = some m.cls) (hts : ∀ w ∈ wsX8_nextToken, w.before args s = true) (hml : c.maxLocals = 2) (hE : EV D ak s) (hT : ST D ak ad A s s.heap) (hA : ∀ q, s.heap.size ≤ q → A q) (hRf : 1 ≤ R.frames) (hRl : 21 ≤ R.locals) (hRc : cells ≤ R.cells ∧ slots ≤ R.slots) (h : Nat) (am : Nat → Nat) (Fthrown : Int32) (Ftaped : Int32) (Fsize : Int32) (Fwrong : Int32) (Fcode : Int32) (Fat : Int32) (Fway : Int32) (Fnext : Int32) (FisEnd : Int32) (FisFallen : Int32) (Fwritten : Int32) (Fmade : Int32) (Fstate : Int32) (FhandNext : Int32) (FhandSteps : Int32) (FhandWritten : Int32) (FmarkAt : Int32) (Atape : Nat → Int32)  (Φ : Int32 → Int32 → Int32 → Int64 → Int32 → Prop)
    (kR86 : ∀ (Fplace : Int32) (Fbegin : Int32) (Ftoken : Int32) (Fword : Int64) (Ftold : Int32) (H : Heap) (locs : List Loc) (ls : Array Slot), Φ Fplace Fbegin Ftoken Fword Ftold → va_P D vwCl (wW_X8_nextToken ak ad h am Fthrown Ftaped Fsize Fplace Fbegin Ftoken Fword Ftold Fwrong Fcode Fat Fway Fnext FisEnd FisFallen Fwritten Fmade Fstate FhandNext FhandSteps FhandWritten FmarkAt Atape) H → va_D A (wW_X8_nextToken ak ad h am Fthrown Ftaped Fsize Fplace Fbegin Ftoken Fword Ftold Fwrong Fcode Fat Fway Fnext FisEnd FisFallen Fwritten Fmade Fstate FhandNext FhandSteps FhandWritten FmarkAt Atape) → va_S A s.heap H locs → W p l e R s m args below meth c H locs cells slots Q (F0 m 86 ls []))
    (kR211 : ∀ (Fplace : Int32) (Fbegin : Int32) (Ftoken : Int32) (Fword : Int64) (Ftold : Int32) (H : Heap) (locs : List Loc) (ls : Array Slot), Φ Fplace Fbegin Ftoken Fword Ftold → va_P D vwCl (wW_X8_nextToken ak ad h am Fthrown Ftaped Fsize Fplace Fbegin Ftoken Fword Ftold Fwrong Fcode Fat Fway Fnext FisEnd FisFallen Fwritten Fmade Fstate FhandNext FhandSteps FhandWritten FmarkAt Atape) H → va_D A (wW_X8_nextToken ak ad h am Fthrown Ftaped Fsize Fplace Fbegin Ftoken Fword Ftold Fwrong Fcode Fat Fway Fnext FisEnd FisFallen Fwritten Fmade Fstate FhandNext FhandSteps FhandWritten FmarkAt Atape) → va_S A s.heap H locs → W p l e R s m args below meth c H locs cells slots Q (F0 m 211 ls []))
    (kR321 : ∀ (Fplace : Int32) (Fbegin : Int32) (Ftoken : Int32) (Fword : Int64) (Ftold : Int32) (H : Heap) (locs : List Loc) (ls : Array Slot), Φ Fplace Fbegin Ftoken Fword Ftold → va_P D vwCl (wW_X8_nextToken ak ad h am Fthrown Ftaped Fsize Fplace Fbegin Ftoken Fword Ftold Fwrong Fcode Fat Fway Fnext FisEnd FisFallen Fwritten Fmade Fstate FhandNext FhandSteps FhandWritten FmarkAt Atape) H → va_D A (wW_X8_nextToken ak ad h am Fthrown Ftaped Fsize Fplace Fbegin Ftoken Fword Ftold Fwrong Fcode Fat Fway Fnext FisEnd FisFallen Fwritten Fmade Fstate FhandNext FhandSteps FhandWritten FmarkAt Atape) → va_S A s.heap H locs → W p l e R s m args below meth c H locs cells slots Q (F0 m 321 ls []))
    (kR371 : ∀ (Fplace : Int32) (Fbegin : Int32) (Ftoken : Int32) (Fword : Int64) (Ftold : Int32) (H : Heap) (locs : List Loc) (ls : Array Slot), Φ Fplace Fbegin Ftoken Fword Ftold → va_P D vwCl (wW_X8_nextToken ak ad h am Fthrown Ftaped Fsize Fplace Fbegin Ftoken Fword Ftold Fwrong Fcode Fat Fway Fnext FisEnd FisFallen Fwritten Fmade Fstate FhandNext FhandSteps FhandWritten FmarkAt Atape) H → va_D A (wW_X8_nextToken ak ad h am Fthrown Ftaped Fsize Fplace Fbegin Ftoken Fword Ftold Fwrong Fcode Fat Fway Fnext FisEnd FisFallen Fwritten Fmade Fstate FhandNext FhandSteps FhandWritten FmarkAt Atape) → va_S A s.heap H locs → W p l e R s m args below meth c H locs cells slots Q (F0 m 371 ls []))
    : ∀ (n_ : Nat) (Fplace : Int32) (Fbegin : Int32) (Ftoken : Int32) (Fword : Int64) (Ftold : Int32) (H : Heap) (locs : List Loc) (ls : Array Slot), lf_X8_nextToken_224 Fsize Atape  Φ n_ Fplace Fbegin Ftoken Fword Ftold → va_P D vwCl (wW_X8_nextToken ak ad h am Fthrown Ftaped Fsize Fplace Fbegin Ftoken Fword Ftold Fwrong Fcode Fat Fway Fnext FisEnd FisFallen Fwritten Fmade Fstate FhandNext FhandSteps FhandWritten FmarkAt Atape) H → va_D A (wW_X8_nextToken ak ad h am Fthrown Ftaped Fsize Fplace Fbegin Ftoken Fword Ftold Fwrong Fcode Fat Fway Fnext FisEnd FisFallen Fwritten Fmade Fstate FhandNext FhandSteps FhandWritten FmarkAt Atape) → va_S A s.heap H locs → lv_has ls 2 [(0, .ref h)] → W p l e R s m args below meth c H locs cells slots Q (F0 m 224 ls ([])) := by
  intro n_
  induction n_ with
  | zero =>
    intro Fplace Fbegin Ftoken Fword Ftold H locs ls hw
    exact hw.elim
  | succ n_ ih =>
    intro Fplace Fbegin Ftoken Fword Ftold H locs ls hw hP hD hS hl
    have hw : lb_X8_nextToken_224 Fsize Atape  Φ (lf_X8_nextToken_224 Fsize Atape  Φ n_) Fplace Fbegin Ftoken Fword Ftold := hw
    delta lb_X8_nextToken_224 at hw
    refine lv_aload_n hx hb dX8_nextToken_224 rfl (lv_at hl 0 rfl) ?_
    refine lv_aload_n hx hb dX8_nextToken_225 rfl (lv_at hl 0 rfl) ?_
    refine va_get (D := D) (ci := 7) (v := .int (Fplace)) (C := RX8) (T := TX8) (N := 69) hx hb hts (fun w h => wm_c (wc_X8 w h)) hown hE.1 hP 0 rfl rfl 4 (by decide) (hts (.fieldLink RX8 165 "WornLinesModel" "place" "I") (wm_c hw_6)) (fun _ h9 => h9) rfl dX8_nextToken_226 ?_
    refine kc_i (wc := (wW_X8_signAt ak ad h am Fthrown Ftaped Fsize Fplace Fbegin Ftoken Fword Ftold Fwrong Fcode Fat Fway Fnext FisEnd FisFallen Fwritten Fmade Fstate FhandNext FhandSteps FhandWritten FmarkAt Atape)) (wr := []) hP hD hS hA [0, 1] [] rfl rfl (by decide) (by decide) (va_runV (As := [.int (Fplace)]) (rest := []) ⟨hx, hb, hml, hown, hts⟩ (c_X8_signAt l D ak ad _ h am Fthrown Ftaped Fsize Fplace Fbegin Ftoken Fword Ftold Fwrong Fcode Fat Fway Fnext FisEnd FisFallen Fwritten Fmade Fstate FhandNext FhandSteps FhandWritten FmarkAt Atape Fplace _ hw) (cwV 1 hts gX8_nextToken_X8_signAt rfl rfl rfl (by decide +kernel) ⟨(Nat.le_trans (Nat.le_of_ble_eq_true rfl) hRf), (Nat.le_trans (Nat.le_of_ble_eq_true rfl) hRl)⟩) (kc_preV (As := [.int (Fplace)]) (wc := (wW_X8_signAt ak ad h am Fthrown Ftaped Fsize Fplace Fbegin Ftoken Fword Ftold Fwrong Fcode Fat Fway Fnext FisEnd FisFallen Fwritten Fmade Fstate FhandNext FhandSteps FhandWritten FmarkAt Atape)) hE hT hP hD hS hA [0, 1] (by decide) rfl rfl 0 7 rfl rfl rfl) rfl rfl hl.1 rfl (lv_room (Nat.le_of_ble_eq_true rfl)) dX8_nextToken_229 ⟨hRc.1, hRc.2⟩) (fun r_13 u_12 H locs hw hP hD hS => ?_)
    try dsimp -zeta only at hw
    have hP : va_P D vwCl (wW_X8_nextToken ak ad h am Fthrown Ftaped Fsize Fplace Fbegin Ftoken Fword Ftold Fwrong Fcode Fat Fway Fnext FisEnd FisFallen Fwritten Fmade Fstate FhandNext FhandSteps FhandWritten FmarkAt Atape) H := hP.sub [0, 1] rfl
    have hD : va_D A (wW_X8_nextToken ak ad h am Fthrown Ftaped Fsize Fplace Fbegin Ftoken Fword Ftold Fwrong Fcode Fat Fway Fnext FisEnd FisFallen Fwritten Fmade Fstate FhandNext FhandSteps FhandWritten FmarkAt Atape) := hD.sub [0, 1] (by decide) rfl
    refine lv_bipush (v := 48) hx hb dX8_nextToken_232 (by decide) ?_
    refine lv_icmp_lt (tgt := 299) hx hb dX8_nextToken_234 (by decide) (fun c_14 => ?_) (fun c_14 => ?_)
    · replace hw := hw.1 c_14
      exact kj_X8_nextToken_299 hx hb hown hts hml hE hT hA hRf hRl hRc h am Fthrown Ftaped Fsize Fwrong Fcode Fat Fway Fnext FisEnd FisFallen Fwritten Fmade Fstate FhandNext FhandSteps FhandWritten FmarkAt Atape  Φ  kR86 kR211 kR321 kR371 Fplace Fbegin Ftoken Fword Ftold _ _ _ hw hP hD hS (lv_sub hl [0] rfl)
    · replace hw := hw.2 c_14
      refine lv_aload_n hx hb dX8_nextToken_237 rfl (lv_at hl 0 rfl) ?_
      refine lv_aload_n hx hb dX8_nextToken_238 rfl (lv_at hl 0 rfl) ?_
      refine va_get (D := D) (ci := 7) (v := .int (Fplace)) (C := RX8) (T := TX8) (N := 69) hx hb hts (fun w h => wm_c (wc_X8 w h)) hown hE.1 hP 0 rfl rfl 4 (by decide) (hts (.fieldLink RX8 165 "WornLinesModel" "place" "I") (wm_c hw_6)) (fun _ h9 => h9) rfl dX8_nextToken_239 ?_
      refine kc_i (wc := (wW_X8_signAt ak ad h am Fthrown Ftaped Fsize Fplace Fbegin Ftoken Fword Ftold Fwrong Fcode Fat Fway Fnext FisEnd FisFallen Fwritten Fmade Fstate FhandNext FhandSteps FhandWritten FmarkAt Atape)) (wr := []) hP hD hS hA [0, 1] [] rfl rfl (by decide) (by decide) (va_runV (As := [.int (Fplace)]) (rest := []) ⟨hx, hb, hml, hown, hts⟩ (c_X8_signAt l D ak ad _ h am Fthrown Ftaped Fsize Fplace Fbegin Ftoken Fword Ftold Fwrong Fcode Fat Fway Fnext FisEnd FisFallen Fwritten Fmade Fstate FhandNext FhandSteps FhandWritten FmarkAt Atape Fplace _ hw) (cwV 1 hts gX8_nextToken_X8_signAt rfl rfl rfl (by decide +kernel) ⟨(Nat.le_trans (Nat.le_of_ble_eq_true rfl) hRf), (Nat.le_trans (Nat.le_of_ble_eq_true rfl) hRl)⟩) (kc_preV (As := [.int (Fplace)]) (wc := (wW_X8_signAt ak ad h am Fthrown Ftaped Fsize Fplace Fbegin Ftoken Fword Ftold Fwrong Fcode Fat Fway Fnext FisEnd FisFallen Fwritten Fmade Fstate FhandNext FhandSteps FhandWritten FmarkAt Atape)) hE hT hP hD hS hA [0, 1] (by decide) rfl rfl 0 7 rfl rfl rfl) rfl rfl hl.1 rfl (lv_room (Nat.le_of_ble_eq_true rfl)) dX8_nextToken_242 ⟨hRc.1, hRc.2⟩) (fun r_17 u_16 H locs hw hP hD hS => ?_)
      try dsimp -zeta only at hw
      have hP : va_P D vwCl (wW_X8_nextToken ak ad h am Fthrown Ftaped Fsize Fplace Fbegin Ftoken Fword Ftold Fwrong Fcode Fat Fway Fnext FisEnd FisFallen Fwritten Fmade Fstate FhandNext FhandSteps FhandWritten FmarkAt Atape) H := hP.sub [0, 1] rfl
      have hD : va_D A (wW_X8_nextToken ak ad h am Fthrown Ftaped Fsize Fplace Fbegin Ftoken Fword Ftold Fwrong Fcode Fat Fway Fnext FisEnd FisFallen Fwritten Fmade Fstate FhandNext FhandSteps FhandWritten FmarkAt Atape) := hD.sub [0, 1] (by decide) rfl
      refine lv_bipush (v := 57) hx hb dX8_nextToken_245 (by decide) ?_
      refine lv_icmp_gt (tgt := 299) hx hb dX8_nextToken_247 (by decide) (fun c_18 => ?_) (fun c_18 => ?_)
      · replace hw := hw.1 c_18
        exact kj_X8_nextToken_299 hx hb hown hts hml hE hT hA hRf hRl hRc h am Fthrown Ftaped Fsize Fwrong Fcode Fat Fway Fnext FisEnd FisFallen Fwritten Fmade Fstate FhandNext FhandSteps FhandWritten FmarkAt Atape  Φ  kR86 kR211 kR321 kR371 Fplace Fbegin Ftoken Fword Ftold _ _ _ hw hP hD hS (lv_sub hl [0] rfl)
      · replace hw := hw.2 c_18
        refine lv_aload_n hx hb dX8_nextToken_250 rfl (lv_at hl 0 rfl) ?_
        refine va_get (D := D) (ci := 7) (v := .int (Fplace)) (C := RX8) (T := TX8) (N := 69) hx hb hts (fun w h => wm_c (wc_X8 w h)) hown hE.1 hP 0 rfl rfl 4 (by decide) (hts (.fieldLink RX8 165 "WornLinesModel" "place" "I") (wm_c hw_6)) (fun _ h9 => h9) rfl dX8_nextToken_251 ?_
        refine lv_aload_n hx hb dX8_nextToken_254 rfl (lv_at hl 0 rfl) ?_
        refine va_get (D := D) (ci := 7) (v := .int (Fbegin)) (C := RX8) (T := TX8) (N := 69) hx hb hts (fun w h => wm_c (wc_X8 w h)) hown hE.1 hP 0 rfl rfl 5 (by decide) (hts (.fieldLink RX8 168 "WornLinesModel" "begin" "I") (wm_c hw_7)) (fun _ h9 => h9) rfl dX8_nextToken_255 ?_
        refine lv_isub hx hb dX8_nextToken_258 ?_
        refine lv_iconst (v := 4) hx hb dX8_nextToken_259 (by decide) ?_
        refine lv_icmp_ge (tgt := 286) hx hb dX8_nextToken_260 (by decide) (fun c_19 => ?_) (fun c_19 => ?_)
        · replace hw := hw.1 c_19
          refine lv_aload_n hx hb dX8_nextToken_286 rfl (lv_at hl 0 rfl) ?_
          refine lv_dup hx hb dX8_nextToken_287 rfl ?_
          refine va_get (D := D) (ci := 7) (v := .int (Fplace)) (C := RX8) (T := TX8) (N := 69) hx hb hts (fun w h => wm_c (wc_X8 w h)) hown hE.1 hP 0 rfl rfl 4 (by decide) (hts (.fieldLink RX8 165 "WornLinesModel" "place" "I") (wm_c hw_6)) (fun _ h9 => h9) rfl dX8_nextToken_288 ?_
          refine lv_iconst (v := 1) hx hb dX8_nextToken_291 (by decide) ?_
          refine lv_iadd hx hb dX8_nextToken_292 ?_
          refine va_put (D := D) (ci := 7) (v := .int (Fplace + 1)) (ty := .int) (C := RX8) (T := TX8) (N := 69) hx hb hts (fun w h => wm_c (wc_X8 w h)) tyX8 tyX8_ok nmX8 hown hE.1 hP hD hS 0 rfl rfl 4 (by decide) (hts (.fieldLink RX8 165 "WornLinesModel" "place" "I") (wm_c hw_6)) (fun _ h9 => h9) rfl (by decide +kernel) (rfl) rfl (Nat.le_of_ble_eq_true rfl) dX8_nextToken_293 (fun H locs hP hD hS => ?_)
          have hP : va_P D vwCl (wW_X8_nextToken ak ad h am Fthrown Ftaped Fsize (Fplace + 1) Fbegin Ftoken Fword Ftold Fwrong Fcode Fat Fway Fnext FisEnd FisFallen Fwritten Fmade Fstate FhandNext FhandSteps FhandWritten FmarkAt Atape) H := hP
          have hD : va_D A (wW_X8_nextToken ak ad h am Fthrown Ftaped Fsize (Fplace + 1) Fbegin Ftoken Fword Ftold Fwrong Fcode Fat Fway Fnext FisEnd FisFallen Fwritten Fmade Fstate FhandNext FhandSteps FhandWritten FmarkAt Atape) := hD
          refine lv_goto (tgt := 224) hx hb dX8_nextToken_296 (by decide) ?_
          exact ih (Fplace + 1) Fbegin Ftoken Fword Ftold _ _ _ hw hP hD hS (lv_sub hl [0] rfl)
        · replace hw := hw.2 c_19
          refine lv_aload_n hx hb dX8_nextToken_263 rfl (lv_at hl 0 rfl) ?_
          refine lv_aload_n hx hb dX8_nextToken_264 rfl (lv_at hl 0 rfl) ?_
          refine va_get (D := D) (ci := 7) (v := .int (Ftold)) (C := RX8) (T := TX8) (N := 69) hx hb hts (fun w h => wm_c (wc_X8 w h)) hown hE.1 hP 0 rfl rfl 8 (by decide) (hts (.fieldLink RX8 175 "WornLinesModel" "told" "I") (wm_c hw_8)) (fun _ h9 => h9) rfl dX8_nextToken_265 ?_
          refine lv_bipush (v := 10) hx hb dX8_nextToken_268 (by decide) ?_
          refine lv_imul hx hb dX8_nextToken_270 ?_
          refine lv_aload_n hx hb dX8_nextToken_271 rfl (lv_at hl 0 rfl) ?_
          refine lv_aload_n hx hb dX8_nextToken_272 rfl (lv_at hl 0 rfl) ?_
          refine va_get (D := D) (ci := 7) (v := .int (Fplace)) (C := RX8) (T := TX8) (N := 69) hx hb hts (fun w h => wm_c (wc_X8 w h)) hown hE.1 hP 0 rfl rfl 4 (by decide) (hts (.fieldLink RX8 165 "WornLinesModel" "place" "I") (wm_c hw_6)) (fun _ h9 => h9) rfl dX8_nextToken_273 ?_
          refine kc_i (wc := (wW_X8_signAt ak ad h am Fthrown Ftaped Fsize Fplace Fbegin Ftoken Fword Ftold Fwrong Fcode Fat Fway Fnext FisEnd FisFallen Fwritten Fmade Fstate FhandNext FhandSteps FhandWritten FmarkAt Atape)) (wr := []) hP hD hS hA [0, 1] [] rfl rfl (by decide) (by decide) (va_runV (As := [.int (Fplace)]) (rest := [.int (Ftold * 10), .ref h]) ⟨hx, hb, hml, hown, hts⟩ (c_X8_signAt l D ak ad _ h am Fthrown Ftaped Fsize Fplace Fbegin Ftoken Fword Ftold Fwrong Fcode Fat Fway Fnext FisEnd FisFallen Fwritten Fmade Fstate FhandNext FhandSteps FhandWritten FmarkAt Atape Fplace _ hw) (cwV 1 hts gX8_nextToken_X8_signAt rfl rfl rfl (by decide +kernel) ⟨(Nat.le_trans (Nat.le_of_ble_eq_true rfl) hRf), (Nat.le_trans (Nat.le_of_ble_eq_true rfl) hRl)⟩) (kc_preV (As := [.int (Fplace)]) (wc := (wW_X8_signAt ak ad h am Fthrown Ftaped Fsize Fplace Fbegin Ftoken Fword Ftold Fwrong Fcode Fat Fway Fnext FisEnd FisFallen Fwritten Fmade Fstate FhandNext FhandSteps FhandWritten FmarkAt Atape)) hE hT hP hD hS hA [0, 1] (by decide) rfl rfl 0 7 rfl rfl rfl) rfl rfl hl.1 rfl (lv_room (Nat.le_of_ble_eq_true rfl)) dX8_nextToken_276 ⟨hRc.1, hRc.2⟩) (fun r_21 u_20 H locs hw hP hD hS => ?_)
          try dsimp -zeta only at hw
          have hP : va_P D vwCl (wW_X8_nextToken ak ad h am Fthrown Ftaped Fsize Fplace Fbegin Ftoken Fword Ftold Fwrong Fcode Fat Fway Fnext FisEnd FisFallen Fwritten Fmade Fstate FhandNext FhandSteps FhandWritten FmarkAt Atape) H := hP.sub [0, 1] rfl
          have hD : va_D A (wW_X8_nextToken ak ad h am Fthrown Ftaped Fsize Fplace Fbegin Ftoken Fword Ftold Fwrong Fcode Fat Fway Fnext FisEnd FisFallen Fwritten Fmade Fstate FhandNext FhandSteps FhandWritten FmarkAt Atape) := hD.sub [0, 1] (by decide) rfl
          refine lv_iadd hx hb dX8_nextToken_279 ?_
          refine lv_bipush (v := 48) hx hb dX8_nextToken_280 (by decide) ?_
          refine lv_isub hx hb dX8_nextToken_282 ?_
          refine va_put (D := D) (ci := 7) (v := .int (((Ftold * 10) + r_21) - 48)) (ty := .int) (C := RX8) (T := TX8) (N := 69) hx hb hts (fun w h => wm_c (wc_X8 w h)) tyX8 tyX8_ok nmX8 hown hE.1 hP hD hS 0 rfl rfl 8 (by decide) (hts (.fieldLink RX8 175 "WornLinesModel" "told" "I") (wm_c hw_8)) (fun _ h9 => h9) rfl (by decide +kernel) (rfl) rfl (Nat.le_of_ble_eq_true rfl) dX8_nextToken_283 (fun H locs hP hD hS => ?_)
          have hP : va_P D vwCl (wW_X8_nextToken ak ad h am Fthrown Ftaped Fsize Fplace Fbegin Ftoken Fword (((Ftold * 10) + r_21) - 48) Fwrong Fcode Fat Fway Fnext FisEnd FisFallen Fwritten Fmade Fstate FhandNext FhandSteps FhandWritten FmarkAt Atape) H := hP
          have hD : va_D A (wW_X8_nextToken ak ad h am Fthrown Ftaped Fsize Fplace Fbegin Ftoken Fword (((Ftold * 10) + r_21) - 48) Fwrong Fcode Fat Fway Fnext FisEnd FisFallen Fwritten Fmade Fstate FhandNext FhandSteps FhandWritten FmarkAt Atape) := hD
          refine lv_aload_n hx hb dX8_nextToken_286 rfl (lv_at hl 0 rfl) ?_
          refine lv_dup hx hb dX8_nextToken_287 rfl ?_
          refine va_get (D := D) (ci := 7) (v := .int (Fplace)) (C := RX8) (T := TX8) (N := 69) hx hb hts (fun w h => wm_c (wc_X8 w h)) hown hE.1 hP 0 rfl rfl 4 (by decide) (hts (.fieldLink RX8 165 "WornLinesModel" "place" "I") (wm_c hw_6)) (fun _ h9 => h9) rfl dX8_nextToken_288 ?_
          refine lv_iconst (v := 1) hx hb dX8_nextToken_291 (by decide) ?_
          refine lv_iadd hx hb dX8_nextToken_292 ?_
          refine va_put (D := D) (ci := 7) (v := .int (Fplace + 1)) (ty := .int) (C := RX8) (T := TX8) (N := 69) hx hb hts (fun w h => wm_c (wc_X8 w h)) tyX8 tyX8_ok nmX8 hown hE.1 hP hD hS 0 rfl rfl 4 (by decide) (hts (.fieldLink RX8 165 "WornLinesModel" "place" "I") (wm_c hw_6)) (fun _ h9 => h9) rfl (by decide +kernel) (rfl) rfl (Nat.le_of_ble_eq_true rfl) dX8_nextToken_293 (fun H locs hP hD hS => ?_)
          have hP : va_P D vwCl (wW_X8_nextToken ak ad h am Fthrown Ftaped Fsize (Fplace + 1) Fbegin Ftoken Fword (((Ftold * 10) + r_21) - 48) Fwrong Fcode Fat Fway Fnext FisEnd FisFallen Fwritten Fmade Fstate FhandNext FhandSteps FhandWritten FmarkAt Atape) H := hP
          have hD : va_D A (wW_X8_nextToken ak ad h am Fthrown Ftaped Fsize (Fplace + 1) Fbegin Ftoken Fword (((Ftold * 10) + r_21) - 48) Fwrong Fcode Fat Fway Fnext FisEnd FisFallen Fwritten Fmade Fstate FhandNext FhandSteps FhandWritten FmarkAt Atape) := hD
          refine lv_goto (tgt := 224) hx hb dX8_nextToken_296 (by decide) ?_
          exact ih (Fplace + 1) Fbegin Ftoken Fword (((Ftold * 10) + r_21) - 48) _ _ _ hw hP hD hS (lv_sub hl [0] rfl)

def kf_X8_nextToken_212 (Fsize : Int32) (Atape : Nat → Int32)  (Φ : Int32 → Int32 → Int32 → Int64 → Int32 → Prop) (Fplace : Int32) (Fbegin : Int32) (Ftoken : Int32) (Fword : Int64) (Ftold : Int32) (l1 : Int32) : Prop := (l1 < 48 → kf_X8_nextToken_322 Fsize Atape  Φ Fplace Fbegin Ftoken Fword Ftold l1) ∧ (¬ l1 < 48 → (57 < l1 → kf_X8_nextToken_322 Fsize Atape  Φ Fplace Fbegin Ftoken Fword Ftold l1) ∧ (¬ 57 < l1 → (∃ n_, lf_X8_nextToken_224 Fsize Atape  Φ n_ Fplace Fbegin Ftoken Fword Ftold)))
set_option maxHeartbeats 4000000 in
set_option maxRecDepth 100000 in
theorem kj_X8_nextToken_212 {p : Program} {l : Launch} {e : Env} {R : Room} {s : State} {m : MethodId} {args : Array Value} {below : List Frame} {meth : Method} {c : Code} {cells slots : Nat} {Q : State → Prop} {A : Nat → Prop} {D : va_G} {ak : Nat → ClassId} {ad : Nat → Nat} (hx : p.tables.exec = Jvm.exec) (hb : c.code = cX8_nextToken) (hown : s.vm.findClass RX8 = some m.cls) (hts : ∀ w ∈ wsX8_nextToken, w.before args s = true) (hml : c.maxLocals = 2) (hE : EV D ak s) (hT : ST D ak ad A s s.heap) (hA : ∀ q, s.heap.size ≤ q → A q) (hRf : 1 ≤ R.frames) (hRl : 21 ≤ R.locals) (hRc : cells ≤ R.cells ∧ slots ≤ R.slots) (h : Nat) (am : Nat → Nat) (Fthrown : Int32) (Ftaped : Int32) (Fsize : Int32) (Fwrong : Int32) (Fcode : Int32) (Fat : Int32) (Fway : Int32) (Fnext : Int32) (FisEnd : Int32) (FisFallen : Int32) (Fwritten : Int32) (Fmade : Int32) (Fstate : Int32) (FhandNext : Int32) (FhandSteps : Int32) (FhandWritten : Int32) (FmarkAt : Int32) (Atape : Nat → Int32)  (Φ : Int32 → Int32 → Int32 → Int64 → Int32 → Prop)
    (kR86 : ∀ (Fplace : Int32) (Fbegin : Int32) (Ftoken : Int32) (Fword : Int64) (Ftold : Int32) (H : Heap) (locs : List Loc) (ls : Array Slot), Φ Fplace Fbegin Ftoken Fword Ftold → va_P D vwCl (wW_X8_nextToken ak ad h am Fthrown Ftaped Fsize Fplace Fbegin Ftoken Fword Ftold Fwrong Fcode Fat Fway Fnext FisEnd FisFallen Fwritten Fmade Fstate FhandNext FhandSteps FhandWritten FmarkAt Atape) H → va_D A (wW_X8_nextToken ak ad h am Fthrown Ftaped Fsize Fplace Fbegin Ftoken Fword Ftold Fwrong Fcode Fat Fway Fnext FisEnd FisFallen Fwritten Fmade Fstate FhandNext FhandSteps FhandWritten FmarkAt Atape) → va_S A s.heap H locs → W p l e R s m args below meth c H locs cells slots Q (F0 m 86 ls []))
    (kR211 : ∀ (Fplace : Int32) (Fbegin : Int32) (Ftoken : Int32) (Fword : Int64) (Ftold : Int32) (H : Heap) (locs : List Loc) (ls : Array Slot), Φ Fplace Fbegin Ftoken Fword Ftold → va_P D vwCl (wW_X8_nextToken ak ad h am Fthrown Ftaped Fsize Fplace Fbegin Ftoken Fword Ftold Fwrong Fcode Fat Fway Fnext FisEnd FisFallen Fwritten Fmade Fstate FhandNext FhandSteps FhandWritten FmarkAt Atape) H → va_D A (wW_X8_nextToken ak ad h am Fthrown Ftaped Fsize Fplace Fbegin Ftoken Fword Ftold Fwrong Fcode Fat Fway Fnext FisEnd FisFallen Fwritten Fmade Fstate FhandNext FhandSteps FhandWritten FmarkAt Atape) → va_S A s.heap H locs → W p l e R s m args below meth c H locs cells slots Q (F0 m 211 ls []))
    (kR321 : ∀ (Fplace : Int32) (Fbegin : Int32) (Ftoken : Int32) (Fword : Int64) (Ftold : Int32) (H : Heap) (locs : List Loc) (ls : Array Slot), Φ Fplace Fbegin Ftoken Fword Ftold → va_P D vwCl (wW_X8_nextToken ak ad h am Fthrown Ftaped Fsize Fplace Fbegin Ftoken Fword Ftold Fwrong Fcode Fat Fway Fnext FisEnd FisFallen Fwritten Fmade Fstate FhandNext FhandSteps FhandWritten FmarkAt Atape) H → va_D A (wW_X8_nextToken ak ad h am Fthrown Ftaped Fsize Fplace Fbegin Ftoken Fword Ftold Fwrong Fcode Fat Fway Fnext FisEnd FisFallen Fwritten Fmade Fstate FhandNext FhandSteps FhandWritten FmarkAt Atape) → va_S A s.heap H locs → W p l e R s m args below meth c H locs cells slots Q (F0 m 321 ls []))
    (kR371 : ∀ (Fplace : Int32) (Fbegin : Int32) (Ftoken : Int32) (Fword : Int64) (Ftold : Int32) (H : Heap) (locs : List Loc) (ls : Array Slot), Φ Fplace Fbegin Ftoken Fword Ftold → va_P D vwCl (wW_X8_nextToken ak ad h am Fthrown Ftaped Fsize Fplace Fbegin Ftoken Fword Ftold Fwrong Fcode Fat Fway Fnext FisEnd FisFallen Fwritten Fmade Fstate FhandNext FhandSteps FhandWritten FmarkAt Atape) H → va_D A (wW_X8_nextToken ak ad h am Fthrown Ftaped Fsize Fplace Fbegin Ftoken Fword Ftold Fwrong Fcode Fat Fway Fnext FisEnd FisFallen Fwritten Fmade Fstate FhandNext FhandSteps FhandWritten FmarkAt Atape) → va_S A s.heap H locs → W p l e R s m args below meth c H locs cells slots Q (F0 m 371 ls []))
    : ∀ (Fplace : Int32) (Fbegin : Int32) (Ftoken : Int32) (Fword : Int64) (Ftold : Int32) (l1 : Int32) (H : Heap) (locs : List Loc) (ls : Array Slot), kf_X8_nextToken_212 Fsize Atape  Φ Fplace Fbegin Ftoken Fword Ftold l1 → va_P D vwCl (wW_X8_nextToken ak ad h am Fthrown Ftaped Fsize Fplace Fbegin Ftoken Fword Ftold Fwrong Fcode Fat Fway Fnext FisEnd FisFallen Fwritten Fmade Fstate FhandNext FhandSteps FhandWritten FmarkAt Atape) H → va_D A (wW_X8_nextToken ak ad h am Fthrown Ftaped Fsize Fplace Fbegin Ftoken Fword Ftold Fwrong Fcode Fat Fway Fnext FisEnd FisFallen Fwritten Fmade Fstate FhandNext FhandSteps FhandWritten FmarkAt Atape) → va_S A s.heap H locs → lv_has ls 2 [(0, .ref h), (1, .int (l1))] → W p l e R s m args below meth c H locs cells slots Q (F0 m 212 ls ([])) := by
  intro Fplace Fbegin Ftoken Fword Ftold l1 H locs ls hw hP hD hS hl
  delta kf_X8_nextToken_212 at hw
  refine lv_iload_n hx hb dX8_nextToken_212 rfl (lv_at hl 1 rfl) ?_
  refine lv_bipush (v := 48) hx hb dX8_nextToken_213 (by decide) ?_
  refine lv_icmp_lt (tgt := 322) hx hb dX8_nextToken_215 (by decide) (fun c_5 => ?_) (fun c_5 => ?_)
  · replace hw := hw.1 c_5
    exact kj_X8_nextToken_322 hx hb hown hts hml hE hT hA hRf hRl hRc h am Fthrown Ftaped Fsize Fwrong Fcode Fat Fway Fnext FisEnd FisFallen Fwritten Fmade Fstate FhandNext FhandSteps FhandWritten FmarkAt Atape  Φ  kR86 kR211 kR321 kR371 Fplace Fbegin Ftoken Fword Ftold l1 _ _ _ hw hP hD hS (lv_sub hl [0, 1] rfl)
  · replace hw := hw.2 c_5
    refine lv_iload_n hx hb dX8_nextToken_218 rfl (lv_at hl 1 rfl) ?_
    refine lv_bipush (v := 57) hx hb dX8_nextToken_219 (by decide) ?_
    refine lv_icmp_gt (tgt := 322) hx hb dX8_nextToken_221 (by decide) (fun c_11 => ?_) (fun c_11 => ?_)
    · replace hw := hw.1 c_11
      exact kj_X8_nextToken_322 hx hb hown hts hml hE hT hA hRf hRl hRc h am Fthrown Ftaped Fsize Fwrong Fcode Fat Fway Fnext FisEnd FisFallen Fwritten Fmade Fstate FhandNext FhandSteps FhandWritten FmarkAt Atape  Φ  kR86 kR211 kR321 kR371 Fplace Fbegin Ftoken Fword Ftold l1 _ _ _ hw hP hD hS (lv_sub hl [0, 1] rfl)
    · replace hw := hw.2 c_11
      obtain ⟨n1_, hw⟩ := hw
      exact lp_X8_nextToken_224 hx hb hown hts hml hE hT hA hRf hRl hRc h am Fthrown Ftaped Fsize Fwrong Fcode Fat Fway Fnext FisEnd FisFallen Fwritten Fmade Fstate FhandNext FhandSteps FhandWritten FmarkAt Atape  Φ  kR86 kR211 kR321 kR371 n1_ Fplace Fbegin Ftoken Fword Ftold _ _ _ hw hP hD hS (lv_sub hl [0] rfl)

def kf_X8_nextToken_188 (Fsize : Int32) (Atape : Nat → Int32)  (Φ : Int32 → Int32 → Int32 → Int64 → Int32 → Prop) (Fplace : Int32) (Fbegin : Int32) (Ftoken : Int32) (Fword : Int64) (Ftold : Int32) : Prop := ((Fplace - Fbegin) ≤ 8 → Φ Fplace Fbegin 1 Fword Ftold) ∧ (¬ (Fplace - Fbegin) ≤ 8 → Φ Fplace Fbegin 4 Fword Ftold)
set_option maxHeartbeats 4000000 in
set_option maxRecDepth 100000 in
theorem kj_X8_nextToken_188 {p : Program} {l : Launch} {e : Env} {R : Room} {s : State} {m : MethodId} {args : Array Value} {below : List Frame} {meth : Method} {c : Code} {cells slots : Nat} {Q : State → Prop} {A : Nat → Prop} {D : va_G} {ak : Nat → ClassId} {ad : Nat → Nat} (hx : p.tables.exec = Jvm.exec) (hb : c.code = cX8_nextToken) (hown : s.vm.findClass RX8 = some m.cls) (hts : ∀ w ∈ wsX8_nextToken, w.before args s = true) (hml : c.maxLocals = 2) (hE : EV D ak s) (hT : ST D ak ad A s s.heap) (hA : ∀ q, s.heap.size ≤ q → A q) (hRf : 1 ≤ R.frames) (hRl : 21 ≤ R.locals) (hRc : cells ≤ R.cells ∧ slots ≤ R.slots) (h : Nat) (am : Nat → Nat) (Fthrown : Int32) (Ftaped : Int32) (Fsize : Int32) (Fwrong : Int32) (Fcode : Int32) (Fat : Int32) (Fway : Int32) (Fnext : Int32) (FisEnd : Int32) (FisFallen : Int32) (Fwritten : Int32) (Fmade : Int32) (Fstate : Int32) (FhandNext : Int32) (FhandSteps : Int32) (FhandWritten : Int32) (FmarkAt : Int32) (Atape : Nat → Int32)  (Φ : Int32 → Int32 → Int32 → Int64 → Int32 → Prop)
    (kR86 : ∀ (Fplace : Int32) (Fbegin : Int32) (Ftoken : Int32) (Fword : Int64) (Ftold : Int32) (H : Heap) (locs : List Loc) (ls : Array Slot), Φ Fplace Fbegin Ftoken Fword Ftold → va_P D vwCl (wW_X8_nextToken ak ad h am Fthrown Ftaped Fsize Fplace Fbegin Ftoken Fword Ftold Fwrong Fcode Fat Fway Fnext FisEnd FisFallen Fwritten Fmade Fstate FhandNext FhandSteps FhandWritten FmarkAt Atape) H → va_D A (wW_X8_nextToken ak ad h am Fthrown Ftaped Fsize Fplace Fbegin Ftoken Fword Ftold Fwrong Fcode Fat Fway Fnext FisEnd FisFallen Fwritten Fmade Fstate FhandNext FhandSteps FhandWritten FmarkAt Atape) → va_S A s.heap H locs → W p l e R s m args below meth c H locs cells slots Q (F0 m 86 ls []))
    (kR211 : ∀ (Fplace : Int32) (Fbegin : Int32) (Ftoken : Int32) (Fword : Int64) (Ftold : Int32) (H : Heap) (locs : List Loc) (ls : Array Slot), Φ Fplace Fbegin Ftoken Fword Ftold → va_P D vwCl (wW_X8_nextToken ak ad h am Fthrown Ftaped Fsize Fplace Fbegin Ftoken Fword Ftold Fwrong Fcode Fat Fway Fnext FisEnd FisFallen Fwritten Fmade Fstate FhandNext FhandSteps FhandWritten FmarkAt Atape) H → va_D A (wW_X8_nextToken ak ad h am Fthrown Ftaped Fsize Fplace Fbegin Ftoken Fword Ftold Fwrong Fcode Fat Fway Fnext FisEnd FisFallen Fwritten Fmade Fstate FhandNext FhandSteps FhandWritten FmarkAt Atape) → va_S A s.heap H locs → W p l e R s m args below meth c H locs cells slots Q (F0 m 211 ls []))
    (kR321 : ∀ (Fplace : Int32) (Fbegin : Int32) (Ftoken : Int32) (Fword : Int64) (Ftold : Int32) (H : Heap) (locs : List Loc) (ls : Array Slot), Φ Fplace Fbegin Ftoken Fword Ftold → va_P D vwCl (wW_X8_nextToken ak ad h am Fthrown Ftaped Fsize Fplace Fbegin Ftoken Fword Ftold Fwrong Fcode Fat Fway Fnext FisEnd FisFallen Fwritten Fmade Fstate FhandNext FhandSteps FhandWritten FmarkAt Atape) H → va_D A (wW_X8_nextToken ak ad h am Fthrown Ftaped Fsize Fplace Fbegin Ftoken Fword Ftold Fwrong Fcode Fat Fway Fnext FisEnd FisFallen Fwritten Fmade Fstate FhandNext FhandSteps FhandWritten FmarkAt Atape) → va_S A s.heap H locs → W p l e R s m args below meth c H locs cells slots Q (F0 m 321 ls []))
    (kR371 : ∀ (Fplace : Int32) (Fbegin : Int32) (Ftoken : Int32) (Fword : Int64) (Ftold : Int32) (H : Heap) (locs : List Loc) (ls : Array Slot), Φ Fplace Fbegin Ftoken Fword Ftold → va_P D vwCl (wW_X8_nextToken ak ad h am Fthrown Ftaped Fsize Fplace Fbegin Ftoken Fword Ftold Fwrong Fcode Fat Fway Fnext FisEnd FisFallen Fwritten Fmade Fstate FhandNext FhandSteps FhandWritten FmarkAt Atape) H → va_D A (wW_X8_nextToken ak ad h am Fthrown Ftaped Fsize Fplace Fbegin Ftoken Fword Ftold Fwrong Fcode Fat Fway Fnext FisEnd FisFallen Fwritten Fmade Fstate FhandNext FhandSteps FhandWritten FmarkAt Atape) → va_S A s.heap H locs → W p l e R s m args below meth c H locs cells slots Q (F0 m 371 ls []))
    : ∀ (Fplace : Int32) (Fbegin : Int32) (Ftoken : Int32) (Fword : Int64) (Ftold : Int32) (H : Heap) (locs : List Loc) (ls : Array Slot), kf_X8_nextToken_188 Fsize Atape  Φ Fplace Fbegin Ftoken Fword Ftold → va_P D vwCl (wW_X8_nextToken ak ad h am Fthrown Ftaped Fsize Fplace Fbegin Ftoken Fword Ftold Fwrong Fcode Fat Fway Fnext FisEnd FisFallen Fwritten Fmade Fstate FhandNext FhandSteps FhandWritten FmarkAt Atape) H → va_D A (wW_X8_nextToken ak ad h am Fthrown Ftaped Fsize Fplace Fbegin Ftoken Fword Ftold Fwrong Fcode Fat Fway Fnext FisEnd FisFallen Fwritten Fmade Fstate FhandNext FhandSteps FhandWritten FmarkAt Atape) → va_S A s.heap H locs → lv_has ls 2 [(0, .ref h)] → W p l e R s m args below meth c H locs cells slots Q (F0 m 188 ls ([])) := by
  intro Fplace Fbegin Ftoken Fword Ftold H locs ls hw hP hD hS hl
  delta kf_X8_nextToken_188 at hw
  refine lv_aload_n hx hb dX8_nextToken_188 rfl (lv_at hl 0 rfl) ?_
  refine lv_aload_n hx hb dX8_nextToken_189 rfl (lv_at hl 0 rfl) ?_
  refine va_get (D := D) (ci := 7) (v := .int (Fplace)) (C := RX8) (T := TX8) (N := 69) hx hb hts (fun w h => wm_c (wc_X8 w h)) hown hE.1 hP 0 rfl rfl 4 (by decide) (hts (.fieldLink RX8 165 "WornLinesModel" "place" "I") (wm_c hw_6)) (fun _ h9 => h9) rfl dX8_nextToken_190 ?_
  refine lv_aload_n hx hb dX8_nextToken_193 rfl (lv_at hl 0 rfl) ?_
  refine va_get (D := D) (ci := 7) (v := .int (Fbegin)) (C := RX8) (T := TX8) (N := 69) hx hb hts (fun w h => wm_c (wc_X8 w h)) hown hE.1 hP 0 rfl rfl 5 (by decide) (hts (.fieldLink RX8 168 "WornLinesModel" "begin" "I") (wm_c hw_7)) (fun _ h9 => h9) rfl dX8_nextToken_194 ?_
  refine lv_isub hx hb dX8_nextToken_197 ?_
  refine lv_bipush (v := 8) hx hb dX8_nextToken_198 (by decide) ?_
  refine lv_icmp_le (tgt := 207) hx hb dX8_nextToken_200 (by decide) (fun c_26 => ?_) (fun c_26 => ?_)
  · replace hw := hw.1 c_26
    refine lv_iconst (v := 1) hx hb dX8_nextToken_207 (by decide) ?_
    refine va_put (D := D) (ci := 7) (v := .int (1)) (ty := .int) (C := RX8) (T := TX8) (N := 69) hx hb hts (fun w h => wm_c (wc_X8 w h)) tyX8 tyX8_ok nmX8 hown hE.1 hP hD hS 0 rfl rfl 6 (by decide) (hts (.fieldLink RX8 178 "WornLinesModel" "token" "I") (wm_c hw_5)) (fun _ h9 => h9) rfl (by decide +kernel) (rfl) rfl (Nat.le_of_ble_eq_true rfl) dX8_nextToken_208 (fun H locs hP hD hS => ?_)
    have hP : va_P D vwCl (wW_X8_nextToken ak ad h am Fthrown Ftaped Fsize Fplace Fbegin 1 Fword Ftold Fwrong Fcode Fat Fway Fnext FisEnd FisFallen Fwritten Fmade Fstate FhandNext FhandSteps FhandWritten FmarkAt Atape) H := hP
    have hD : va_D A (wW_X8_nextToken ak ad h am Fthrown Ftaped Fsize Fplace Fbegin 1 Fword Ftold Fwrong Fcode Fat Fway Fnext FisEnd FisFallen Fwritten Fmade Fstate FhandNext FhandSteps FhandWritten FmarkAt Atape) := hD
    exact kR211 Fplace Fbegin 1 Fword Ftold _ _ _ hw hP hD hS
  · replace hw := hw.2 c_26
    refine lv_iconst (v := 4) hx hb dX8_nextToken_203 (by decide) ?_
    refine lv_goto (tgt := 208) hx hb dX8_nextToken_204 (by decide) ?_
    refine va_put (D := D) (ci := 7) (v := .int (4)) (ty := .int) (C := RX8) (T := TX8) (N := 69) hx hb hts (fun w h => wm_c (wc_X8 w h)) tyX8 tyX8_ok nmX8 hown hE.1 hP hD hS 0 rfl rfl 6 (by decide) (hts (.fieldLink RX8 178 "WornLinesModel" "token" "I") (wm_c hw_5)) (fun _ h9 => h9) rfl (by decide +kernel) (rfl) rfl (Nat.le_of_ble_eq_true rfl) dX8_nextToken_208 (fun H locs hP hD hS => ?_)
    have hP : va_P D vwCl (wW_X8_nextToken ak ad h am Fthrown Ftaped Fsize Fplace Fbegin 4 Fword Ftold Fwrong Fcode Fat Fway Fnext FisEnd FisFallen Fwritten Fmade Fstate FhandNext FhandSteps FhandWritten FmarkAt Atape) H := hP
    have hD : va_D A (wW_X8_nextToken ak ad h am Fthrown Ftaped Fsize Fplace Fbegin 4 Fword Ftold Fwrong Fcode Fat Fway Fnext FisEnd FisFallen Fwritten Fmade Fstate FhandNext FhandSteps FhandWritten FmarkAt Atape) := hD
    exact kR211 Fplace Fbegin 4 Fword Ftold _ _ _ hw hP hD hS

def lb_X8_nextToken_109 (Fsize : Int32) (Atape : Nat → Int32)  (Φ : Int32 → Int32 → Int32 → Int64 → Int32 → Prop) (back : Int32 → Int32 → Int32 → Int64 → Int32 → Prop) (Fplace : Int32) (Fbegin : Int32) (Ftoken : Int32) (Fword : Int64) (Ftold : Int32) : Prop := wp_X8_signAt Fsize Atape Fplace (fun r_24 => (r_24 < 97 → kf_X8_nextToken_188 Fsize Atape  Φ Fplace Fbegin Ftoken Fword Ftold) ∧ (¬ r_24 < 97 → wp_X8_signAt Fsize Atape Fplace (fun r_28 => (122 < r_28 → kf_X8_nextToken_188 Fsize Atape  Φ Fplace Fbegin Ftoken Fword Ftold) ∧ (¬ 122 < r_28 → (8 ≤ (Fplace - Fbegin) → back (Fplace + 1) Fbegin Ftoken Fword Ftold) ∧ (¬ 8 ≤ (Fplace - Fbegin) → wp_X8_signAt Fsize Atape Fplace (fun r_32 => back (Fplace + 1) Fbegin Ftoken (((Fword * 27) + r_32.toInt64) - 96) Ftold))))))
def lf_X8_nextToken_109 (Fsize : Int32) (Atape : Nat → Int32)  (Φ : Int32 → Int32 → Int32 → Int64 → Int32 → Prop) : Nat → Int32 → Int32 → Int32 → Int64 → Int32 → Prop
  | 0, _, _, _, _, _ => False
  | n_ + 1, Fplace, Fbegin, Ftoken, Fword, Ftold => lb_X8_nextToken_109 Fsize Atape  Φ (lf_X8_nextToken_109 Fsize Atape  Φ n_) Fplace Fbegin Ftoken Fword Ftold
theorem li_X8_nextToken_109 (Fsize : Int32) (Atape : Nat → Int32)  (Φ : Int32 → Int32 → Int32 → Int64 → Int32 → Prop) (Inv : Int32 → Int32 → Int32 → Int64 → Int32 → Prop) (mu : Int32 → Int32 → Int32 → Int64 → Int32 → Nat) (hs : ∀ (back : Int32 → Int32 → Int32 → Int64 → Int32 → Prop) (Fplace : Int32) (Fbegin : Int32) (Ftoken : Int32) (Fword : Int64) (Ftold : Int32), Inv Fplace Fbegin Ftoken Fword Ftold → (∀ (Fplace' : Int32) (Fbegin' : Int32) (Ftoken' : Int32) (Fword' : Int64) (Ftold' : Int32), Inv Fplace' Fbegin' Ftoken' Fword' Ftold' → mu Fplace' Fbegin' Ftoken' Fword' Ftold' < mu Fplace Fbegin Ftoken Fword Ftold → back Fplace' Fbegin' Ftoken' Fword' Ftold') → lb_X8_nextToken_109 Fsize Atape  Φ back Fplace Fbegin Ftoken Fword Ftold) : ∀ (n_ : Nat) (Fplace : Int32) (Fbegin : Int32) (Ftoken : Int32) (Fword : Int64) (Ftold : Int32), Inv Fplace Fbegin Ftoken Fword Ftold → mu Fplace Fbegin Ftoken Fword Ftold < n_ → lf_X8_nextToken_109 Fsize Atape  Φ n_ Fplace Fbegin Ftoken Fword Ftold := by
  intro n_
  induction n_ with
  | zero => intro Fplace Fbegin Ftoken Fword Ftold _ h; exact absurd h (Nat.not_lt_zero _)
  | succ n_ ih => intro Fplace Fbegin Ftoken Fword Ftold hI hm; exact hs _ Fplace Fbegin Ftoken Fword Ftold hI (fun Fplace' Fbegin' Ftoken' Fword' Ftold' h1 h2 => ih Fplace' Fbegin' Ftoken' Fword' Ftold' h1 (by omega))
set_option maxHeartbeats 4000000 in
set_option maxRecDepth 100000 in
theorem lp_X8_nextToken_109 {p : Program} {l : Launch} {e : Env} {R : Room} {s : State} {m : MethodId} {args : Array Value} {below : List Frame} {meth : Method} {c : Code} {cells slots : Nat} {Q : State → Prop} {A : Nat → Prop} {D : va_G} {ak : Nat → ClassId} {ad : Nat → Nat} (hx : p.tables.exec = Jvm.exec) (hb : c.code = cX8_nextToken) (hown : s.vm.findClass RX8 = some m.cls) (hts : ∀ w ∈ wsX8_nextToken, w.before args s = true) (hml : c.maxLocals = 2) (hE : EV D ak s) (hT : ST D ak ad A s s.heap) (hA : ∀ q, s.heap.size ≤ q → A q) (hRf : 1 ≤ R.frames) (hRl : 21 ≤ R.locals) (hRc : cells ≤ R.cells ∧ slots ≤ R.slots) (h : Nat) (am : Nat → Nat) (Fthrown : Int32) (Ftaped : Int32) (Fsize : Int32) (Fwrong : Int32) (Fcode : Int32) (Fat : Int32) (Fway : Int32) (Fnext : Int32) (FisEnd : Int32) (FisFallen : Int32) (Fwritten : Int32) (Fmade : Int32) (Fstate : Int32) (FhandNext : Int32) (FhandSteps : Int32) (FhandWritten : Int32) (FmarkAt : Int32) (Atape : Nat → Int32)  (Φ : Int32 → Int32 → Int32 → Int64 → Int32 → Prop)
    (kR86 : ∀ (Fplace : Int32) (Fbegin : Int32) (Ftoken : Int32) (Fword : Int64) (Ftold : Int32) (H : Heap) (locs : List Loc) (ls : Array Slot), Φ Fplace Fbegin Ftoken Fword Ftold → va_P D vwCl (wW_X8_nextToken ak ad h am Fthrown Ftaped Fsize Fplace Fbegin Ftoken Fword Ftold Fwrong Fcode Fat Fway Fnext FisEnd FisFallen Fwritten Fmade Fstate FhandNext FhandSteps FhandWritten FmarkAt Atape) H → va_D A (wW_X8_nextToken ak ad h am Fthrown Ftaped Fsize Fplace Fbegin Ftoken Fword Ftold Fwrong Fcode Fat Fway Fnext FisEnd FisFallen Fwritten Fmade Fstate FhandNext FhandSteps FhandWritten FmarkAt Atape) → va_S A s.heap H locs → W p l e R s m args below meth c H locs cells slots Q (F0 m 86 ls []))
    (kR211 : ∀ (Fplace : Int32) (Fbegin : Int32) (Ftoken : Int32) (Fword : Int64) (Ftold : Int32) (H : Heap) (locs : List Loc) (ls : Array Slot), Φ Fplace Fbegin Ftoken Fword Ftold → va_P D vwCl (wW_X8_nextToken ak ad h am Fthrown Ftaped Fsize Fplace Fbegin Ftoken Fword Ftold Fwrong Fcode Fat Fway Fnext FisEnd FisFallen Fwritten Fmade Fstate FhandNext FhandSteps FhandWritten FmarkAt Atape) H → va_D A (wW_X8_nextToken ak ad h am Fthrown Ftaped Fsize Fplace Fbegin Ftoken Fword Ftold Fwrong Fcode Fat Fway Fnext FisEnd FisFallen Fwritten Fmade Fstate FhandNext FhandSteps FhandWritten FmarkAt Atape) → va_S A s.heap H locs → W p l e R s m args below meth c H locs cells slots Q (F0 m 211 ls []))
    (kR321 : ∀ (Fplace : Int32) (Fbegin : Int32) (Ftoken : Int32) (Fword : Int64) (Ftold : Int32) (H : Heap) (locs : List Loc) (ls : Array Slot), Φ Fplace Fbegin Ftoken Fword Ftold → va_P D vwCl (wW_X8_nextToken ak ad h am Fthrown Ftaped Fsize Fplace Fbegin Ftoken Fword Ftold Fwrong Fcode Fat Fway Fnext FisEnd FisFallen Fwritten Fmade Fstate FhandNext FhandSteps FhandWritten FmarkAt Atape) H → va_D A (wW_X8_nextToken ak ad h am Fthrown Ftaped Fsize Fplace Fbegin Ftoken Fword Ftold Fwrong Fcode Fat Fway Fnext FisEnd FisFallen Fwritten Fmade Fstate FhandNext FhandSteps FhandWritten FmarkAt Atape) → va_S A s.heap H locs → W p l e R s m args below meth c H locs cells slots Q (F0 m 321 ls []))
    (kR371 : ∀ (Fplace : Int32) (Fbegin : Int32) (Ftoken : Int32) (Fword : Int64) (Ftold : Int32) (H : Heap) (locs : List Loc) (ls : Array Slot), Φ Fplace Fbegin Ftoken Fword Ftold → va_P D vwCl (wW_X8_nextToken ak ad h am Fthrown Ftaped Fsize Fplace Fbegin Ftoken Fword Ftold Fwrong Fcode Fat Fway Fnext FisEnd FisFallen Fwritten Fmade Fstate FhandNext FhandSteps FhandWritten FmarkAt Atape) H → va_D A (wW_X8_nextToken ak ad h am Fthrown Ftaped Fsize Fplace Fbegin Ftoken Fword Ftold Fwrong Fcode Fat Fway Fnext FisEnd FisFallen Fwritten Fmade Fstate FhandNext FhandSteps FhandWritten FmarkAt Atape) → va_S A s.heap H locs → W p l e R s m args below meth c H locs cells slots Q (F0 m 371 ls []))
    : ∀ (n_ : Nat) (Fplace : Int32) (Fbegin : Int32) (Ftoken : Int32) (Fword : Int64) (Ftold : Int32) (H : Heap) (locs : List Loc) (ls : Array Slot), lf_X8_nextToken_109 Fsize Atape  Φ n_ Fplace Fbegin Ftoken Fword Ftold → va_P D vwCl (wW_X8_nextToken ak ad h am Fthrown Ftaped Fsize Fplace Fbegin Ftoken Fword Ftold Fwrong Fcode Fat Fway Fnext FisEnd FisFallen Fwritten Fmade Fstate FhandNext FhandSteps FhandWritten FmarkAt Atape) H → va_D A (wW_X8_nextToken ak ad h am Fthrown Ftaped Fsize Fplace Fbegin Ftoken Fword Ftold Fwrong Fcode Fat Fway Fnext FisEnd FisFallen Fwritten Fmade Fstate FhandNext FhandSteps FhandWritten FmarkAt Atape) → va_S A s.heap H locs → lv_has ls 2 [(0, .ref h)] → W p l e R s m args below meth c H locs cells slots Q (F0 m 109 ls ([])) := by
  intro n_
  induction n_ with
  | zero =>
    intro Fplace Fbegin Ftoken Fword Ftold H locs ls hw
    exact hw.elim
  | succ n_ ih =>
    intro Fplace Fbegin Ftoken Fword Ftold H locs ls hw hP hD hS hl
    have hw : lb_X8_nextToken_109 Fsize Atape  Φ (lf_X8_nextToken_109 Fsize Atape  Φ n_) Fplace Fbegin Ftoken Fword Ftold := hw
    delta lb_X8_nextToken_109 at hw
    refine lv_aload_n hx hb dX8_nextToken_109 rfl (lv_at hl 0 rfl) ?_
    refine lv_aload_n hx hb dX8_nextToken_110 rfl (lv_at hl 0 rfl) ?_
    refine va_get (D := D) (ci := 7) (v := .int (Fplace)) (C := RX8) (T := TX8) (N := 69) hx hb hts (fun w h => wm_c (wc_X8 w h)) hown hE.1 hP 0 rfl rfl 4 (by decide) (hts (.fieldLink RX8 165 "WornLinesModel" "place" "I") (wm_c hw_6)) (fun _ h9 => h9) rfl dX8_nextToken_111 ?_
    refine kc_i (wc := (wW_X8_signAt ak ad h am Fthrown Ftaped Fsize Fplace Fbegin Ftoken Fword Ftold Fwrong Fcode Fat Fway Fnext FisEnd FisFallen Fwritten Fmade Fstate FhandNext FhandSteps FhandWritten FmarkAt Atape)) (wr := []) hP hD hS hA [0, 1] [] rfl rfl (by decide) (by decide) (va_runV (As := [.int (Fplace)]) (rest := []) ⟨hx, hb, hml, hown, hts⟩ (c_X8_signAt l D ak ad _ h am Fthrown Ftaped Fsize Fplace Fbegin Ftoken Fword Ftold Fwrong Fcode Fat Fway Fnext FisEnd FisFallen Fwritten Fmade Fstate FhandNext FhandSteps FhandWritten FmarkAt Atape Fplace _ hw) (cwV 1 hts gX8_nextToken_X8_signAt rfl rfl rfl (by decide +kernel) ⟨(Nat.le_trans (Nat.le_of_ble_eq_true rfl) hRf), (Nat.le_trans (Nat.le_of_ble_eq_true rfl) hRl)⟩) (kc_preV (As := [.int (Fplace)]) (wc := (wW_X8_signAt ak ad h am Fthrown Ftaped Fsize Fplace Fbegin Ftoken Fword Ftold Fwrong Fcode Fat Fway Fnext FisEnd FisFallen Fwritten Fmade Fstate FhandNext FhandSteps FhandWritten FmarkAt Atape)) hE hT hP hD hS hA [0, 1] (by decide) rfl rfl 0 7 rfl rfl rfl) rfl rfl hl.1 rfl (lv_room (Nat.le_of_ble_eq_true rfl)) dX8_nextToken_114 ⟨hRc.1, hRc.2⟩) (fun r_24 u_23 H locs hw hP hD hS => ?_)
    try dsimp -zeta only at hw
    have hP : va_P D vwCl (wW_X8_nextToken ak ad h am Fthrown Ftaped Fsize Fplace Fbegin Ftoken Fword Ftold Fwrong Fcode Fat Fway Fnext FisEnd FisFallen Fwritten Fmade Fstate FhandNext FhandSteps FhandWritten FmarkAt Atape) H := hP.sub [0, 1] rfl
    have hD : va_D A (wW_X8_nextToken ak ad h am Fthrown Ftaped Fsize Fplace Fbegin Ftoken Fword Ftold Fwrong Fcode Fat Fway Fnext FisEnd FisFallen Fwritten Fmade Fstate FhandNext FhandSteps FhandWritten FmarkAt Atape) := hD.sub [0, 1] (by decide) rfl
    refine lv_bipush (v := 97) hx hb dX8_nextToken_117 (by decide) ?_
    refine lv_icmp_lt (tgt := 188) hx hb dX8_nextToken_119 (by decide) (fun c_25 => ?_) (fun c_25 => ?_)
    · replace hw := hw.1 c_25
      exact kj_X8_nextToken_188 hx hb hown hts hml hE hT hA hRf hRl hRc h am Fthrown Ftaped Fsize Fwrong Fcode Fat Fway Fnext FisEnd FisFallen Fwritten Fmade Fstate FhandNext FhandSteps FhandWritten FmarkAt Atape  Φ  kR86 kR211 kR321 kR371 Fplace Fbegin Ftoken Fword Ftold _ _ _ hw hP hD hS (lv_sub hl [0] rfl)
    · replace hw := hw.2 c_25
      refine lv_aload_n hx hb dX8_nextToken_122 rfl (lv_at hl 0 rfl) ?_
      refine lv_aload_n hx hb dX8_nextToken_123 rfl (lv_at hl 0 rfl) ?_
      refine va_get (D := D) (ci := 7) (v := .int (Fplace)) (C := RX8) (T := TX8) (N := 69) hx hb hts (fun w h => wm_c (wc_X8 w h)) hown hE.1 hP 0 rfl rfl 4 (by decide) (hts (.fieldLink RX8 165 "WornLinesModel" "place" "I") (wm_c hw_6)) (fun _ h9 => h9) rfl dX8_nextToken_124 ?_
      refine kc_i (wc := (wW_X8_signAt ak ad h am Fthrown Ftaped Fsize Fplace Fbegin Ftoken Fword Ftold Fwrong Fcode Fat Fway Fnext FisEnd FisFallen Fwritten Fmade Fstate FhandNext FhandSteps FhandWritten FmarkAt Atape)) (wr := []) hP hD hS hA [0, 1] [] rfl rfl (by decide) (by decide) (va_runV (As := [.int (Fplace)]) (rest := []) ⟨hx, hb, hml, hown, hts⟩ (c_X8_signAt l D ak ad _ h am Fthrown Ftaped Fsize Fplace Fbegin Ftoken Fword Ftold Fwrong Fcode Fat Fway Fnext FisEnd FisFallen Fwritten Fmade Fstate FhandNext FhandSteps FhandWritten FmarkAt Atape Fplace _ hw) (cwV 1 hts gX8_nextToken_X8_signAt rfl rfl rfl (by decide +kernel) ⟨(Nat.le_trans (Nat.le_of_ble_eq_true rfl) hRf), (Nat.le_trans (Nat.le_of_ble_eq_true rfl) hRl)⟩) (kc_preV (As := [.int (Fplace)]) (wc := (wW_X8_signAt ak ad h am Fthrown Ftaped Fsize Fplace Fbegin Ftoken Fword Ftold Fwrong Fcode Fat Fway Fnext FisEnd FisFallen Fwritten Fmade Fstate FhandNext FhandSteps FhandWritten FmarkAt Atape)) hE hT hP hD hS hA [0, 1] (by decide) rfl rfl 0 7 rfl rfl rfl) rfl rfl hl.1 rfl (lv_room (Nat.le_of_ble_eq_true rfl)) dX8_nextToken_127 ⟨hRc.1, hRc.2⟩) (fun r_28 u_27 H locs hw hP hD hS => ?_)
      try dsimp -zeta only at hw
      have hP : va_P D vwCl (wW_X8_nextToken ak ad h am Fthrown Ftaped Fsize Fplace Fbegin Ftoken Fword Ftold Fwrong Fcode Fat Fway Fnext FisEnd FisFallen Fwritten Fmade Fstate FhandNext FhandSteps FhandWritten FmarkAt Atape) H := hP.sub [0, 1] rfl
      have hD : va_D A (wW_X8_nextToken ak ad h am Fthrown Ftaped Fsize Fplace Fbegin Ftoken Fword Ftold Fwrong Fcode Fat Fway Fnext FisEnd FisFallen Fwritten Fmade Fstate FhandNext FhandSteps FhandWritten FmarkAt Atape) := hD.sub [0, 1] (by decide) rfl
      refine lv_bipush (v := 122) hx hb dX8_nextToken_130 (by decide) ?_
      refine lv_icmp_gt (tgt := 188) hx hb dX8_nextToken_132 (by decide) (fun c_29 => ?_) (fun c_29 => ?_)
      · replace hw := hw.1 c_29
        exact kj_X8_nextToken_188 hx hb hown hts hml hE hT hA hRf hRl hRc h am Fthrown Ftaped Fsize Fwrong Fcode Fat Fway Fnext FisEnd FisFallen Fwritten Fmade Fstate FhandNext FhandSteps FhandWritten FmarkAt Atape  Φ  kR86 kR211 kR321 kR371 Fplace Fbegin Ftoken Fword Ftold _ _ _ hw hP hD hS (lv_sub hl [0] rfl)
      · replace hw := hw.2 c_29
        refine lv_aload_n hx hb dX8_nextToken_135 rfl (lv_at hl 0 rfl) ?_
        refine va_get (D := D) (ci := 7) (v := .int (Fplace)) (C := RX8) (T := TX8) (N := 69) hx hb hts (fun w h => wm_c (wc_X8 w h)) hown hE.1 hP 0 rfl rfl 4 (by decide) (hts (.fieldLink RX8 165 "WornLinesModel" "place" "I") (wm_c hw_6)) (fun _ h9 => h9) rfl dX8_nextToken_136 ?_
        refine lv_aload_n hx hb dX8_nextToken_139 rfl (lv_at hl 0 rfl) ?_
        refine va_get (D := D) (ci := 7) (v := .int (Fbegin)) (C := RX8) (T := TX8) (N := 69) hx hb hts (fun w h => wm_c (wc_X8 w h)) hown hE.1 hP 0 rfl rfl 5 (by decide) (hts (.fieldLink RX8 168 "WornLinesModel" "begin" "I") (wm_c hw_7)) (fun _ h9 => h9) rfl dX8_nextToken_140 ?_
        refine lv_isub hx hb dX8_nextToken_143 ?_
        refine lv_bipush (v := 8) hx hb dX8_nextToken_144 (by decide) ?_
        refine lv_icmp_ge (tgt := 175) hx hb dX8_nextToken_146 (by decide) (fun c_30 => ?_) (fun c_30 => ?_)
        · replace hw := hw.1 c_30
          refine lv_aload_n hx hb dX8_nextToken_175 rfl (lv_at hl 0 rfl) ?_
          refine lv_dup hx hb dX8_nextToken_176 rfl ?_
          refine va_get (D := D) (ci := 7) (v := .int (Fplace)) (C := RX8) (T := TX8) (N := 69) hx hb hts (fun w h => wm_c (wc_X8 w h)) hown hE.1 hP 0 rfl rfl 4 (by decide) (hts (.fieldLink RX8 165 "WornLinesModel" "place" "I") (wm_c hw_6)) (fun _ h9 => h9) rfl dX8_nextToken_177 ?_
          refine lv_iconst (v := 1) hx hb dX8_nextToken_180 (by decide) ?_
          refine lv_iadd hx hb dX8_nextToken_181 ?_
          refine va_put (D := D) (ci := 7) (v := .int (Fplace + 1)) (ty := .int) (C := RX8) (T := TX8) (N := 69) hx hb hts (fun w h => wm_c (wc_X8 w h)) tyX8 tyX8_ok nmX8 hown hE.1 hP hD hS 0 rfl rfl 4 (by decide) (hts (.fieldLink RX8 165 "WornLinesModel" "place" "I") (wm_c hw_6)) (fun _ h9 => h9) rfl (by decide +kernel) (rfl) rfl (Nat.le_of_ble_eq_true rfl) dX8_nextToken_182 (fun H locs hP hD hS => ?_)
          have hP : va_P D vwCl (wW_X8_nextToken ak ad h am Fthrown Ftaped Fsize (Fplace + 1) Fbegin Ftoken Fword Ftold Fwrong Fcode Fat Fway Fnext FisEnd FisFallen Fwritten Fmade Fstate FhandNext FhandSteps FhandWritten FmarkAt Atape) H := hP
          have hD : va_D A (wW_X8_nextToken ak ad h am Fthrown Ftaped Fsize (Fplace + 1) Fbegin Ftoken Fword Ftold Fwrong Fcode Fat Fway Fnext FisEnd FisFallen Fwritten Fmade Fstate FhandNext FhandSteps FhandWritten FmarkAt Atape) := hD
          refine lv_goto (tgt := 109) hx hb dX8_nextToken_185 (by decide) ?_
          exact ih (Fplace + 1) Fbegin Ftoken Fword Ftold _ _ _ hw hP hD hS (lv_sub hl [0] rfl)
        · replace hw := hw.2 c_30
          refine lv_aload_n hx hb dX8_nextToken_149 rfl (lv_at hl 0 rfl) ?_
          refine lv_aload_n hx hb dX8_nextToken_150 rfl (lv_at hl 0 rfl) ?_
          refine va_get (D := D) (ci := 7) (v := .long (Fword)) (C := RX8) (T := TX8) (N := 69) hx hb hts (fun w h => wm_c (wc_X8 w h)) hown hE.1 hP 0 rfl rfl 7 (by decide) (hts (.fieldLink RX8 171 "WornLinesModel" "word" "J") (wm_c hw_9)) (fun _ h9 => h9) rfl dX8_nextToken_151 ?_
          refine lv_ldc2 hx hb hown (hts (.constantLong RX8 185 (27)) (wm_c hw_10)) dX8_nextToken_154 ?_
          refine lv_lmul hx hb dX8_nextToken_157 ?_
          refine lv_aload_n hx hb dX8_nextToken_158 rfl (lv_at hl 0 rfl) ?_
          refine lv_aload_n hx hb dX8_nextToken_159 rfl (lv_at hl 0 rfl) ?_
          refine va_get (D := D) (ci := 7) (v := .int (Fplace)) (C := RX8) (T := TX8) (N := 69) hx hb hts (fun w h => wm_c (wc_X8 w h)) hown hE.1 hP 0 rfl rfl 4 (by decide) (hts (.fieldLink RX8 165 "WornLinesModel" "place" "I") (wm_c hw_6)) (fun _ h9 => h9) rfl dX8_nextToken_160 ?_
          refine kc_i (wc := (wW_X8_signAt ak ad h am Fthrown Ftaped Fsize Fplace Fbegin Ftoken Fword Ftold Fwrong Fcode Fat Fway Fnext FisEnd FisFallen Fwritten Fmade Fstate FhandNext FhandSteps FhandWritten FmarkAt Atape)) (wr := []) hP hD hS hA [0, 1] [] rfl rfl (by decide) (by decide) (va_runV (As := [.int (Fplace)]) (rest := [.long (Fword * 27), .ref h]) ⟨hx, hb, hml, hown, hts⟩ (c_X8_signAt l D ak ad _ h am Fthrown Ftaped Fsize Fplace Fbegin Ftoken Fword Ftold Fwrong Fcode Fat Fway Fnext FisEnd FisFallen Fwritten Fmade Fstate FhandNext FhandSteps FhandWritten FmarkAt Atape Fplace _ hw) (cwV 1 hts gX8_nextToken_X8_signAt rfl rfl rfl (by decide +kernel) ⟨(Nat.le_trans (Nat.le_of_ble_eq_true rfl) hRf), (Nat.le_trans (Nat.le_of_ble_eq_true rfl) hRl)⟩) (kc_preV (As := [.int (Fplace)]) (wc := (wW_X8_signAt ak ad h am Fthrown Ftaped Fsize Fplace Fbegin Ftoken Fword Ftold Fwrong Fcode Fat Fway Fnext FisEnd FisFallen Fwritten Fmade Fstate FhandNext FhandSteps FhandWritten FmarkAt Atape)) hE hT hP hD hS hA [0, 1] (by decide) rfl rfl 0 7 rfl rfl rfl) rfl rfl hl.1 rfl (lv_room (Nat.le_of_ble_eq_true rfl)) dX8_nextToken_163 ⟨hRc.1, hRc.2⟩) (fun r_32 u_31 H locs hw hP hD hS => ?_)
          try dsimp -zeta only at hw
          have hP : va_P D vwCl (wW_X8_nextToken ak ad h am Fthrown Ftaped Fsize Fplace Fbegin Ftoken Fword Ftold Fwrong Fcode Fat Fway Fnext FisEnd FisFallen Fwritten Fmade Fstate FhandNext FhandSteps FhandWritten FmarkAt Atape) H := hP.sub [0, 1] rfl
          have hD : va_D A (wW_X8_nextToken ak ad h am Fthrown Ftaped Fsize Fplace Fbegin Ftoken Fword Ftold Fwrong Fcode Fat Fway Fnext FisEnd FisFallen Fwritten Fmade Fstate FhandNext FhandSteps FhandWritten FmarkAt Atape) := hD.sub [0, 1] (by decide) rfl
          refine lv_i2l (v := r_32.toInt64) hx hb dX8_nextToken_166 rfl ?_
          refine lv_ladd hx hb dX8_nextToken_167 ?_
          refine lv_ldc2 hx hb hown (hts (.constantLong RX8 187 (96)) (wm_c hw_11)) dX8_nextToken_168 ?_
          refine lv_lsub hx hb dX8_nextToken_171 ?_
          refine va_put (D := D) (ci := 7) (v := .long (((Fword * 27) + r_32.toInt64) - 96)) (ty := .long) (C := RX8) (T := TX8) (N := 69) hx hb hts (fun w h => wm_c (wc_X8 w h)) tyX8 tyX8_ok nmX8 hown hE.1 hP hD hS 0 rfl rfl 7 (by decide) (hts (.fieldLink RX8 171 "WornLinesModel" "word" "J") (wm_c hw_9)) (fun _ h9 => h9) rfl (by decide +kernel) (rfl) rfl (Nat.le_of_ble_eq_true rfl) dX8_nextToken_172 (fun H locs hP hD hS => ?_)
          have hP : va_P D vwCl (wW_X8_nextToken ak ad h am Fthrown Ftaped Fsize Fplace Fbegin Ftoken (((Fword * 27) + r_32.toInt64) - 96) Ftold Fwrong Fcode Fat Fway Fnext FisEnd FisFallen Fwritten Fmade Fstate FhandNext FhandSteps FhandWritten FmarkAt Atape) H := hP
          have hD : va_D A (wW_X8_nextToken ak ad h am Fthrown Ftaped Fsize Fplace Fbegin Ftoken (((Fword * 27) + r_32.toInt64) - 96) Ftold Fwrong Fcode Fat Fway Fnext FisEnd FisFallen Fwritten Fmade Fstate FhandNext FhandSteps FhandWritten FmarkAt Atape) := hD
          refine lv_aload_n hx hb dX8_nextToken_175 rfl (lv_at hl 0 rfl) ?_
          refine lv_dup hx hb dX8_nextToken_176 rfl ?_
          refine va_get (D := D) (ci := 7) (v := .int (Fplace)) (C := RX8) (T := TX8) (N := 69) hx hb hts (fun w h => wm_c (wc_X8 w h)) hown hE.1 hP 0 rfl rfl 4 (by decide) (hts (.fieldLink RX8 165 "WornLinesModel" "place" "I") (wm_c hw_6)) (fun _ h9 => h9) rfl dX8_nextToken_177 ?_
          refine lv_iconst (v := 1) hx hb dX8_nextToken_180 (by decide) ?_
          refine lv_iadd hx hb dX8_nextToken_181 ?_
          refine va_put (D := D) (ci := 7) (v := .int (Fplace + 1)) (ty := .int) (C := RX8) (T := TX8) (N := 69) hx hb hts (fun w h => wm_c (wc_X8 w h)) tyX8 tyX8_ok nmX8 hown hE.1 hP hD hS 0 rfl rfl 4 (by decide) (hts (.fieldLink RX8 165 "WornLinesModel" "place" "I") (wm_c hw_6)) (fun _ h9 => h9) rfl (by decide +kernel) (rfl) rfl (Nat.le_of_ble_eq_true rfl) dX8_nextToken_182 (fun H locs hP hD hS => ?_)
          have hP : va_P D vwCl (wW_X8_nextToken ak ad h am Fthrown Ftaped Fsize (Fplace + 1) Fbegin Ftoken (((Fword * 27) + r_32.toInt64) - 96) Ftold Fwrong Fcode Fat Fway Fnext FisEnd FisFallen Fwritten Fmade Fstate FhandNext FhandSteps FhandWritten FmarkAt Atape) H := hP
          have hD : va_D A (wW_X8_nextToken ak ad h am Fthrown Ftaped Fsize (Fplace + 1) Fbegin Ftoken (((Fword * 27) + r_32.toInt64) - 96) Ftold Fwrong Fcode Fat Fway Fnext FisEnd FisFallen Fwritten Fmade Fstate FhandNext FhandSteps FhandWritten FmarkAt Atape) := hD
          refine lv_goto (tgt := 109) hx hb dX8_nextToken_185 (by decide) ?_
          exact ih (Fplace + 1) Fbegin Ftoken (((Fword * 27) + r_32.toInt64) - 96) Ftold _ _ _ hw hP hD hS (lv_sub hl [0] rfl)

def kf_X8_nextToken_52 (Fsize : Int32) (Atape : Nat → Int32)  (Φ : Int32 → Int32 → Int32 → Int64 → Int32 → Prop) (Fplace : Int32) (Fbegin : Int32) (Ftoken : Int32) (Fword : Int64) (Ftold : Int32) : Prop := (¬ Fplace = Fsize → vp_in Fplace 1000 ∧ ((Atape (Fplace).toNatClampNeg) < 97 → kf_X8_nextToken_212 Fsize Atape  Φ Fplace Fplace Ftoken 0 0 (Atape (Fplace).toNatClampNeg)) ∧ (¬ (Atape (Fplace).toNatClampNeg) < 97 → (122 < (Atape (Fplace).toNatClampNeg) → kf_X8_nextToken_212 Fsize Atape  Φ Fplace Fplace Ftoken 0 0 (Atape (Fplace).toNatClampNeg)) ∧ (¬ 122 < (Atape (Fplace).toNatClampNeg) → (∃ n_, lf_X8_nextToken_109 Fsize Atape  Φ n_ Fplace Fplace Ftoken 0 0)))) ∧ (Fplace = Fsize → Φ Fplace Fplace 0 0 0)
set_option maxHeartbeats 4000000 in
set_option maxRecDepth 100000 in
theorem kj_X8_nextToken_52 {p : Program} {l : Launch} {e : Env} {R : Room} {s : State} {m : MethodId} {args : Array Value} {below : List Frame} {meth : Method} {c : Code} {cells slots : Nat} {Q : State → Prop} {A : Nat → Prop} {D : va_G} {ak : Nat → ClassId} {ad : Nat → Nat} (hx : p.tables.exec = Jvm.exec) (hb : c.code = cX8_nextToken) (hown : s.vm.findClass RX8 = some m.cls) (hts : ∀ w ∈ wsX8_nextToken, w.before args s = true) (hml : c.maxLocals = 2) (hE : EV D ak s) (hT : ST D ak ad A s s.heap) (hA : ∀ q, s.heap.size ≤ q → A q) (hRf : 1 ≤ R.frames) (hRl : 21 ≤ R.locals) (hRc : cells ≤ R.cells ∧ slots ≤ R.slots) (h : Nat) (am : Nat → Nat) (Fthrown : Int32) (Ftaped : Int32) (Fsize : Int32) (Fwrong : Int32) (Fcode : Int32) (Fat : Int32) (Fway : Int32) (Fnext : Int32) (FisEnd : Int32) (FisFallen : Int32) (Fwritten : Int32) (Fmade : Int32) (Fstate : Int32) (FhandNext : Int32) (FhandSteps : Int32) (FhandWritten : Int32) (FmarkAt : Int32) (Atape : Nat → Int32)  (Φ : Int32 → Int32 → Int32 → Int64 → Int32 → Prop)
    (kR86 : ∀ (Fplace : Int32) (Fbegin : Int32) (Ftoken : Int32) (Fword : Int64) (Ftold : Int32) (H : Heap) (locs : List Loc) (ls : Array Slot), Φ Fplace Fbegin Ftoken Fword Ftold → va_P D vwCl (wW_X8_nextToken ak ad h am Fthrown Ftaped Fsize Fplace Fbegin Ftoken Fword Ftold Fwrong Fcode Fat Fway Fnext FisEnd FisFallen Fwritten Fmade Fstate FhandNext FhandSteps FhandWritten FmarkAt Atape) H → va_D A (wW_X8_nextToken ak ad h am Fthrown Ftaped Fsize Fplace Fbegin Ftoken Fword Ftold Fwrong Fcode Fat Fway Fnext FisEnd FisFallen Fwritten Fmade Fstate FhandNext FhandSteps FhandWritten FmarkAt Atape) → va_S A s.heap H locs → W p l e R s m args below meth c H locs cells slots Q (F0 m 86 ls []))
    (kR211 : ∀ (Fplace : Int32) (Fbegin : Int32) (Ftoken : Int32) (Fword : Int64) (Ftold : Int32) (H : Heap) (locs : List Loc) (ls : Array Slot), Φ Fplace Fbegin Ftoken Fword Ftold → va_P D vwCl (wW_X8_nextToken ak ad h am Fthrown Ftaped Fsize Fplace Fbegin Ftoken Fword Ftold Fwrong Fcode Fat Fway Fnext FisEnd FisFallen Fwritten Fmade Fstate FhandNext FhandSteps FhandWritten FmarkAt Atape) H → va_D A (wW_X8_nextToken ak ad h am Fthrown Ftaped Fsize Fplace Fbegin Ftoken Fword Ftold Fwrong Fcode Fat Fway Fnext FisEnd FisFallen Fwritten Fmade Fstate FhandNext FhandSteps FhandWritten FmarkAt Atape) → va_S A s.heap H locs → W p l e R s m args below meth c H locs cells slots Q (F0 m 211 ls []))
    (kR321 : ∀ (Fplace : Int32) (Fbegin : Int32) (Ftoken : Int32) (Fword : Int64) (Ftold : Int32) (H : Heap) (locs : List Loc) (ls : Array Slot), Φ Fplace Fbegin Ftoken Fword Ftold → va_P D vwCl (wW_X8_nextToken ak ad h am Fthrown Ftaped Fsize Fplace Fbegin Ftoken Fword Ftold Fwrong Fcode Fat Fway Fnext FisEnd FisFallen Fwritten Fmade Fstate FhandNext FhandSteps FhandWritten FmarkAt Atape) H → va_D A (wW_X8_nextToken ak ad h am Fthrown Ftaped Fsize Fplace Fbegin Ftoken Fword Ftold Fwrong Fcode Fat Fway Fnext FisEnd FisFallen Fwritten Fmade Fstate FhandNext FhandSteps FhandWritten FmarkAt Atape) → va_S A s.heap H locs → W p l e R s m args below meth c H locs cells slots Q (F0 m 321 ls []))
    (kR371 : ∀ (Fplace : Int32) (Fbegin : Int32) (Ftoken : Int32) (Fword : Int64) (Ftold : Int32) (H : Heap) (locs : List Loc) (ls : Array Slot), Φ Fplace Fbegin Ftoken Fword Ftold → va_P D vwCl (wW_X8_nextToken ak ad h am Fthrown Ftaped Fsize Fplace Fbegin Ftoken Fword Ftold Fwrong Fcode Fat Fway Fnext FisEnd FisFallen Fwritten Fmade Fstate FhandNext FhandSteps FhandWritten FmarkAt Atape) H → va_D A (wW_X8_nextToken ak ad h am Fthrown Ftaped Fsize Fplace Fbegin Ftoken Fword Ftold Fwrong Fcode Fat Fway Fnext FisEnd FisFallen Fwritten Fmade Fstate FhandNext FhandSteps FhandWritten FmarkAt Atape) → va_S A s.heap H locs → W p l e R s m args below meth c H locs cells slots Q (F0 m 371 ls []))
    : ∀ (Fplace : Int32) (Fbegin : Int32) (Ftoken : Int32) (Fword : Int64) (Ftold : Int32) (H : Heap) (locs : List Loc) (ls : Array Slot), kf_X8_nextToken_52 Fsize Atape  Φ Fplace Fbegin Ftoken Fword Ftold → va_P D vwCl (wW_X8_nextToken ak ad h am Fthrown Ftaped Fsize Fplace Fbegin Ftoken Fword Ftold Fwrong Fcode Fat Fway Fnext FisEnd FisFallen Fwritten Fmade Fstate FhandNext FhandSteps FhandWritten FmarkAt Atape) H → va_D A (wW_X8_nextToken ak ad h am Fthrown Ftaped Fsize Fplace Fbegin Ftoken Fword Ftold Fwrong Fcode Fat Fway Fnext FisEnd FisFallen Fwritten Fmade Fstate FhandNext FhandSteps FhandWritten FmarkAt Atape) → va_S A s.heap H locs → lv_has ls 2 [(0, .ref h)] → W p l e R s m args below meth c H locs cells slots Q (F0 m 52 ls ([])) := by
  intro Fplace Fbegin Ftoken Fword Ftold H locs ls hw hP hD hS hl
  delta kf_X8_nextToken_52 at hw
  refine lv_aload_n hx hb dX8_nextToken_52 rfl (lv_at hl 0 rfl) ?_
  refine lv_aload_n hx hb dX8_nextToken_53 rfl (lv_at hl 0 rfl) ?_
  refine va_get (D := D) (ci := 7) (v := .int (Fplace)) (C := RX8) (T := TX8) (N := 69) hx hb hts (fun w h => wm_c (wc_X8 w h)) hown hE.1 hP 0 rfl rfl 4 (by decide) (hts (.fieldLink RX8 165 "WornLinesModel" "place" "I") (wm_c hw_6)) (fun _ h9 => h9) rfl dX8_nextToken_54 ?_
  refine va_put (D := D) (ci := 7) (v := .int (Fplace)) (ty := .int) (C := RX8) (T := TX8) (N := 69) hx hb hts (fun w h => wm_c (wc_X8 w h)) tyX8 tyX8_ok nmX8 hown hE.1 hP hD hS 0 rfl rfl 5 (by decide) (hts (.fieldLink RX8 168 "WornLinesModel" "begin" "I") (wm_c hw_7)) (fun _ h9 => h9) rfl (by decide +kernel) (rfl) rfl (Nat.le_of_ble_eq_true rfl) dX8_nextToken_57 (fun H locs hP hD hS => ?_)
  have hP : va_P D vwCl (wW_X8_nextToken ak ad h am Fthrown Ftaped Fsize Fplace Fplace Ftoken Fword Ftold Fwrong Fcode Fat Fway Fnext FisEnd FisFallen Fwritten Fmade Fstate FhandNext FhandSteps FhandWritten FmarkAt Atape) H := hP
  have hD : va_D A (wW_X8_nextToken ak ad h am Fthrown Ftaped Fsize Fplace Fplace Ftoken Fword Ftold Fwrong Fcode Fat Fway Fnext FisEnd FisFallen Fwritten Fmade Fstate FhandNext FhandSteps FhandWritten FmarkAt Atape) := hD
  refine lv_aload_n hx hb dX8_nextToken_60 rfl (lv_at hl 0 rfl) ?_
  refine lv_lconst (v := 0) hx hb dX8_nextToken_61 rfl ?_
  refine va_put (D := D) (ci := 7) (v := .long (0)) (ty := .long) (C := RX8) (T := TX8) (N := 69) hx hb hts (fun w h => wm_c (wc_X8 w h)) tyX8 tyX8_ok nmX8 hown hE.1 hP hD hS 0 rfl rfl 7 (by decide) (hts (.fieldLink RX8 171 "WornLinesModel" "word" "J") (wm_c hw_9)) (fun _ h9 => h9) rfl (by decide +kernel) (rfl) rfl (Nat.le_of_ble_eq_true rfl) dX8_nextToken_62 (fun H locs hP hD hS => ?_)
  have hP : va_P D vwCl (wW_X8_nextToken ak ad h am Fthrown Ftaped Fsize Fplace Fplace Ftoken 0 Ftold Fwrong Fcode Fat Fway Fnext FisEnd FisFallen Fwritten Fmade Fstate FhandNext FhandSteps FhandWritten FmarkAt Atape) H := hP
  have hD : va_D A (wW_X8_nextToken ak ad h am Fthrown Ftaped Fsize Fplace Fplace Ftoken 0 Ftold Fwrong Fcode Fat Fway Fnext FisEnd FisFallen Fwritten Fmade Fstate FhandNext FhandSteps FhandWritten FmarkAt Atape) := hD
  refine lv_aload_n hx hb dX8_nextToken_65 rfl (lv_at hl 0 rfl) ?_
  refine lv_iconst (v := 0) hx hb dX8_nextToken_66 (by decide) ?_
  refine va_put (D := D) (ci := 7) (v := .int (0)) (ty := .int) (C := RX8) (T := TX8) (N := 69) hx hb hts (fun w h => wm_c (wc_X8 w h)) tyX8 tyX8_ok nmX8 hown hE.1 hP hD hS 0 rfl rfl 8 (by decide) (hts (.fieldLink RX8 175 "WornLinesModel" "told" "I") (wm_c hw_8)) (fun _ h9 => h9) rfl (by decide +kernel) (rfl) rfl (Nat.le_of_ble_eq_true rfl) dX8_nextToken_67 (fun H locs hP hD hS => ?_)
  have hP : va_P D vwCl (wW_X8_nextToken ak ad h am Fthrown Ftaped Fsize Fplace Fplace Ftoken 0 0 Fwrong Fcode Fat Fway Fnext FisEnd FisFallen Fwritten Fmade Fstate FhandNext FhandSteps FhandWritten FmarkAt Atape) H := hP
  have hD : va_D A (wW_X8_nextToken ak ad h am Fthrown Ftaped Fsize Fplace Fplace Ftoken 0 0 Fwrong Fcode Fat Fway Fnext FisEnd FisFallen Fwritten Fmade Fstate FhandNext FhandSteps FhandWritten FmarkAt Atape) := hD
  refine lv_aload_n hx hb dX8_nextToken_70 rfl (lv_at hl 0 rfl) ?_
  refine va_get (D := D) (ci := 7) (v := .int (Fplace)) (C := RX8) (T := TX8) (N := 69) hx hb hts (fun w h => wm_c (wc_X8 w h)) hown hE.1 hP 0 rfl rfl 4 (by decide) (hts (.fieldLink RX8 165 "WornLinesModel" "place" "I") (wm_c hw_6)) (fun _ h9 => h9) rfl dX8_nextToken_71 ?_
  refine lv_aload_n hx hb dX8_nextToken_74 rfl (lv_at hl 0 rfl) ?_
  refine va_get (D := D) (ci := 7) (v := .int (Fsize)) (C := RX8) (T := TX8) (N := 69) hx hb hts (fun w h => wm_c (wc_X8 w h)) hown hE.1 hP 0 rfl rfl 3 (by decide) (hts (.fieldLink RX8 162 "WornLinesModel" "size" "I") (wm_c hw_4)) (fun _ h9 => h9) rfl dX8_nextToken_75 ?_
  refine lv_icmp_ne (tgt := 87) hx hb dX8_nextToken_78 (by decide) (fun c_2 => ?_) (fun c_2 => ?_)
  · replace hw := hw.1 c_2
    refine lv_aload_n hx hb dX8_nextToken_87 rfl (lv_at hl 0 rfl) ?_
    refine va_get (D := D) (ci := 7) (v := .ref (am 0)) (C := RX8) (T := TX8) (N := 69) hx hb hts (fun w h => wm_c (wc_X8 w h)) hown hE.1 hP 0 rfl rfl 2 (by decide) (hts (.fieldLink RX8 7 "WornLinesModel" "tape" "[I") (wm_c hw_0)) (fun _ h9 => h9) rfl dX8_nextToken_88 ?_
    refine lv_aload_n hx hb dX8_nextToken_91 rfl (lv_at hl 0 rfl) ?_
    refine va_get (D := D) (ci := 7) (v := .int (Fplace)) (C := RX8) (T := TX8) (N := 69) hx hb hts (fun w h => wm_c (wc_X8 w h)) hown hE.1 hP 0 rfl rfl 4 (by decide) (hts (.fieldLink RX8 165 "WornLinesModel" "place" "I") (wm_c hw_6)) (fun _ h9 => h9) rfl dX8_nextToken_92 ?_
    obtain ⟨h_3, hw⟩ := hw
    refine va_iald hx hb hE.1 hP 1 0 rfl rfl (h_3) dX8_nextToken_95 ?_
    refine lv_istore_n (lv' := [(1, .int (Atape (Fplace).toNatClampNeg)), (0, .ref h)]) hx hb dX8_nextToken_96 rfl hl (by decide) rfl (fun ls hl => ?_)
    refine lv_iload_n hx hb dX8_nextToken_97 rfl (lv_at hl 0 rfl) ?_
    refine lv_bipush (v := 97) hx hb dX8_nextToken_98 (by decide) ?_
    refine lv_icmp_lt (tgt := 212) hx hb dX8_nextToken_100 (by decide) (fun c_4 => ?_) (fun c_4 => ?_)
    · replace hw := hw.1 c_4
      exact kj_X8_nextToken_212 hx hb hown hts hml hE hT hA hRf hRl hRc h am Fthrown Ftaped Fsize Fwrong Fcode Fat Fway Fnext FisEnd FisFallen Fwritten Fmade Fstate FhandNext FhandSteps FhandWritten FmarkAt Atape  Φ  kR86 kR211 kR321 kR371 Fplace Fplace Ftoken 0 0 (Atape (Fplace).toNatClampNeg) _ _ _ hw hP hD hS (lv_sub hl [1, 0] rfl)
    · replace hw := hw.2 c_4
      refine lv_iload_n hx hb dX8_nextToken_103 rfl (lv_at hl 0 rfl) ?_
      refine lv_bipush (v := 122) hx hb dX8_nextToken_104 (by decide) ?_
      refine lv_icmp_gt (tgt := 212) hx hb dX8_nextToken_106 (by decide) (fun c_22 => ?_) (fun c_22 => ?_)
      · replace hw := hw.1 c_22
        exact kj_X8_nextToken_212 hx hb hown hts hml hE hT hA hRf hRl hRc h am Fthrown Ftaped Fsize Fwrong Fcode Fat Fway Fnext FisEnd FisFallen Fwritten Fmade Fstate FhandNext FhandSteps FhandWritten FmarkAt Atape  Φ  kR86 kR211 kR321 kR371 Fplace Fplace Ftoken 0 0 (Atape (Fplace).toNatClampNeg) _ _ _ hw hP hD hS (lv_sub hl [1, 0] rfl)
      · replace hw := hw.2 c_22
        obtain ⟨n1_, hw⟩ := hw
        exact lp_X8_nextToken_109 hx hb hown hts hml hE hT hA hRf hRl hRc h am Fthrown Ftaped Fsize Fwrong Fcode Fat Fway Fnext FisEnd FisFallen Fwritten Fmade Fstate FhandNext FhandSteps FhandWritten FmarkAt Atape  Φ  kR86 kR211 kR321 kR371 n1_ Fplace Fplace Ftoken 0 0 _ _ _ hw hP hD hS (lv_sub hl [1] rfl)
  · replace hw := hw.2 c_2
    refine lv_aload_n hx hb dX8_nextToken_81 rfl (lv_at hl 0 rfl) ?_
    refine lv_iconst (v := 0) hx hb dX8_nextToken_82 (by decide) ?_
    refine va_put (D := D) (ci := 7) (v := .int (0)) (ty := .int) (C := RX8) (T := TX8) (N := 69) hx hb hts (fun w h => wm_c (wc_X8 w h)) tyX8 tyX8_ok nmX8 hown hE.1 hP hD hS 0 rfl rfl 6 (by decide) (hts (.fieldLink RX8 178 "WornLinesModel" "token" "I") (wm_c hw_5)) (fun _ h9 => h9) rfl (by decide +kernel) (rfl) rfl (Nat.le_of_ble_eq_true rfl) dX8_nextToken_83 (fun H locs hP hD hS => ?_)
    have hP : va_P D vwCl (wW_X8_nextToken ak ad h am Fthrown Ftaped Fsize Fplace Fplace 0 0 0 Fwrong Fcode Fat Fway Fnext FisEnd FisFallen Fwritten Fmade Fstate FhandNext FhandSteps FhandWritten FmarkAt Atape) H := hP
    have hD : va_D A (wW_X8_nextToken ak ad h am Fthrown Ftaped Fsize Fplace Fplace 0 0 0 Fwrong Fcode Fat Fway Fnext FisEnd FisFallen Fwritten Fmade Fstate FhandNext FhandSteps FhandWritten FmarkAt Atape) := hD
    exact kR86 Fplace Fplace 0 0 0 _ _ _ hw hP hD hS

def lb_X8_nextToken_0 (Fsize : Int32) (Atape : Nat → Int32)  (Φ : Int32 → Int32 → Int32 → Int64 → Int32 → Prop) (back : Int32 → Int32 → Int32 → Int64 → Int32 → Prop) (Fplace : Int32) (Fbegin : Int32) (Ftoken : Int32) (Fword : Int64) (Ftold : Int32) : Prop := (Fsize ≤ Fplace → kf_X8_nextToken_52 Fsize Atape  Φ Fplace Fbegin Ftoken Fword Ftold) ∧ (¬ Fsize ≤ Fplace → vp_in Fplace 1000 ∧ ((Atape (Fplace).toNatClampNeg) = 32 → back (Fplace + 1) Fbegin Ftoken Fword Ftold) ∧ (¬ (Atape (Fplace).toNatClampNeg) = 32 → vp_in Fplace 1000 ∧ (¬ (Atape (Fplace).toNatClampNeg) = 10 → kf_X8_nextToken_52 Fsize Atape  Φ Fplace Fbegin Ftoken Fword Ftold) ∧ ((Atape (Fplace).toNatClampNeg) = 10 → back (Fplace + 1) Fbegin Ftoken Fword Ftold)))
def lf_X8_nextToken_0 (Fsize : Int32) (Atape : Nat → Int32)  (Φ : Int32 → Int32 → Int32 → Int64 → Int32 → Prop) : Nat → Int32 → Int32 → Int32 → Int64 → Int32 → Prop
  | 0, _, _, _, _, _ => False
  | n_ + 1, Fplace, Fbegin, Ftoken, Fword, Ftold => lb_X8_nextToken_0 Fsize Atape  Φ (lf_X8_nextToken_0 Fsize Atape  Φ n_) Fplace Fbegin Ftoken Fword Ftold
theorem li_X8_nextToken_0 (Fsize : Int32) (Atape : Nat → Int32)  (Φ : Int32 → Int32 → Int32 → Int64 → Int32 → Prop) (Inv : Int32 → Int32 → Int32 → Int64 → Int32 → Prop) (mu : Int32 → Int32 → Int32 → Int64 → Int32 → Nat) (hs : ∀ (back : Int32 → Int32 → Int32 → Int64 → Int32 → Prop) (Fplace : Int32) (Fbegin : Int32) (Ftoken : Int32) (Fword : Int64) (Ftold : Int32), Inv Fplace Fbegin Ftoken Fword Ftold → (∀ (Fplace' : Int32) (Fbegin' : Int32) (Ftoken' : Int32) (Fword' : Int64) (Ftold' : Int32), Inv Fplace' Fbegin' Ftoken' Fword' Ftold' → mu Fplace' Fbegin' Ftoken' Fword' Ftold' < mu Fplace Fbegin Ftoken Fword Ftold → back Fplace' Fbegin' Ftoken' Fword' Ftold') → lb_X8_nextToken_0 Fsize Atape  Φ back Fplace Fbegin Ftoken Fword Ftold) : ∀ (n_ : Nat) (Fplace : Int32) (Fbegin : Int32) (Ftoken : Int32) (Fword : Int64) (Ftold : Int32), Inv Fplace Fbegin Ftoken Fword Ftold → mu Fplace Fbegin Ftoken Fword Ftold < n_ → lf_X8_nextToken_0 Fsize Atape  Φ n_ Fplace Fbegin Ftoken Fword Ftold := by
  intro n_
  induction n_ with
  | zero => intro Fplace Fbegin Ftoken Fword Ftold _ h; exact absurd h (Nat.not_lt_zero _)
  | succ n_ ih => intro Fplace Fbegin Ftoken Fword Ftold hI hm; exact hs _ Fplace Fbegin Ftoken Fword Ftold hI (fun Fplace' Fbegin' Ftoken' Fword' Ftold' h1 h2 => ih Fplace' Fbegin' Ftoken' Fword' Ftold' h1 (by omega))
set_option maxHeartbeats 4000000 in
set_option maxRecDepth 100000 in
theorem lp_X8_nextToken_0 {p : Program} {l : Launch} {e : Env} {R : Room} {s : State} {m : MethodId} {args : Array Value} {below : List Frame} {meth : Method} {c : Code} {cells slots : Nat} {Q : State → Prop} {A : Nat → Prop} {D : va_G} {ak : Nat → ClassId} {ad : Nat → Nat} (hx : p.tables.exec = Jvm.exec) (hb : c.code = cX8_nextToken) (hown : s.vm.findClass RX8 = some m.cls) (hts : ∀ w ∈ wsX8_nextToken, w.before args s = true) (hml : c.maxLocals = 2) (hE : EV D ak s) (hT : ST D ak ad A s s.heap) (hA : ∀ q, s.heap.size ≤ q → A q) (hRf : 1 ≤ R.frames) (hRl : 21 ≤ R.locals) (hRc : cells ≤ R.cells ∧ slots ≤ R.slots) (h : Nat) (am : Nat → Nat) (Fthrown : Int32) (Ftaped : Int32) (Fsize : Int32) (Fwrong : Int32) (Fcode : Int32) (Fat : Int32) (Fway : Int32) (Fnext : Int32) (FisEnd : Int32) (FisFallen : Int32) (Fwritten : Int32) (Fmade : Int32) (Fstate : Int32) (FhandNext : Int32) (FhandSteps : Int32) (FhandWritten : Int32) (FmarkAt : Int32) (Atape : Nat → Int32)  (Φ : Int32 → Int32 → Int32 → Int64 → Int32 → Prop)
    (kR86 : ∀ (Fplace : Int32) (Fbegin : Int32) (Ftoken : Int32) (Fword : Int64) (Ftold : Int32) (H : Heap) (locs : List Loc) (ls : Array Slot), Φ Fplace Fbegin Ftoken Fword Ftold → va_P D vwCl (wW_X8_nextToken ak ad h am Fthrown Ftaped Fsize Fplace Fbegin Ftoken Fword Ftold Fwrong Fcode Fat Fway Fnext FisEnd FisFallen Fwritten Fmade Fstate FhandNext FhandSteps FhandWritten FmarkAt Atape) H → va_D A (wW_X8_nextToken ak ad h am Fthrown Ftaped Fsize Fplace Fbegin Ftoken Fword Ftold Fwrong Fcode Fat Fway Fnext FisEnd FisFallen Fwritten Fmade Fstate FhandNext FhandSteps FhandWritten FmarkAt Atape) → va_S A s.heap H locs → W p l e R s m args below meth c H locs cells slots Q (F0 m 86 ls []))
    (kR211 : ∀ (Fplace : Int32) (Fbegin : Int32) (Ftoken : Int32) (Fword : Int64) (Ftold : Int32) (H : Heap) (locs : List Loc) (ls : Array Slot), Φ Fplace Fbegin Ftoken Fword Ftold → va_P D vwCl (wW_X8_nextToken ak ad h am Fthrown Ftaped Fsize Fplace Fbegin Ftoken Fword Ftold Fwrong Fcode Fat Fway Fnext FisEnd FisFallen Fwritten Fmade Fstate FhandNext FhandSteps FhandWritten FmarkAt Atape) H → va_D A (wW_X8_nextToken ak ad h am Fthrown Ftaped Fsize Fplace Fbegin Ftoken Fword Ftold Fwrong Fcode Fat Fway Fnext FisEnd FisFallen Fwritten Fmade Fstate FhandNext FhandSteps FhandWritten FmarkAt Atape) → va_S A s.heap H locs → W p l e R s m args below meth c H locs cells slots Q (F0 m 211 ls []))
    (kR321 : ∀ (Fplace : Int32) (Fbegin : Int32) (Ftoken : Int32) (Fword : Int64) (Ftold : Int32) (H : Heap) (locs : List Loc) (ls : Array Slot), Φ Fplace Fbegin Ftoken Fword Ftold → va_P D vwCl (wW_X8_nextToken ak ad h am Fthrown Ftaped Fsize Fplace Fbegin Ftoken Fword Ftold Fwrong Fcode Fat Fway Fnext FisEnd FisFallen Fwritten Fmade Fstate FhandNext FhandSteps FhandWritten FmarkAt Atape) H → va_D A (wW_X8_nextToken ak ad h am Fthrown Ftaped Fsize Fplace Fbegin Ftoken Fword Ftold Fwrong Fcode Fat Fway Fnext FisEnd FisFallen Fwritten Fmade Fstate FhandNext FhandSteps FhandWritten FmarkAt Atape) → va_S A s.heap H locs → W p l e R s m args below meth c H locs cells slots Q (F0 m 321 ls []))
    (kR371 : ∀ (Fplace : Int32) (Fbegin : Int32) (Ftoken : Int32) (Fword : Int64) (Ftold : Int32) (H : Heap) (locs : List Loc) (ls : Array Slot), Φ Fplace Fbegin Ftoken Fword Ftold → va_P D vwCl (wW_X8_nextToken ak ad h am Fthrown Ftaped Fsize Fplace Fbegin Ftoken Fword Ftold Fwrong Fcode Fat Fway Fnext FisEnd FisFallen Fwritten Fmade Fstate FhandNext FhandSteps FhandWritten FmarkAt Atape) H → va_D A (wW_X8_nextToken ak ad h am Fthrown Ftaped Fsize Fplace Fbegin Ftoken Fword Ftold Fwrong Fcode Fat Fway Fnext FisEnd FisFallen Fwritten Fmade Fstate FhandNext FhandSteps FhandWritten FmarkAt Atape) → va_S A s.heap H locs → W p l e R s m args below meth c H locs cells slots Q (F0 m 371 ls []))
    : ∀ (n_ : Nat) (Fplace : Int32) (Fbegin : Int32) (Ftoken : Int32) (Fword : Int64) (Ftold : Int32) (H : Heap) (locs : List Loc) (ls : Array Slot), lf_X8_nextToken_0 Fsize Atape  Φ n_ Fplace Fbegin Ftoken Fword Ftold → va_P D vwCl (wW_X8_nextToken ak ad h am Fthrown Ftaped Fsize Fplace Fbegin Ftoken Fword Ftold Fwrong Fcode Fat Fway Fnext FisEnd FisFallen Fwritten Fmade Fstate FhandNext FhandSteps FhandWritten FmarkAt Atape) H → va_D A (wW_X8_nextToken ak ad h am Fthrown Ftaped Fsize Fplace Fbegin Ftoken Fword Ftold Fwrong Fcode Fat Fway Fnext FisEnd FisFallen Fwritten Fmade Fstate FhandNext FhandSteps FhandWritten FmarkAt Atape) → va_S A s.heap H locs → lv_has ls 2 [(0, .ref h)] → W p l e R s m args below meth c H locs cells slots Q (F0 m 0 ls ([])) := by
  intro n_
  induction n_ with
  | zero =>
    intro Fplace Fbegin Ftoken Fword Ftold H locs ls hw
    exact hw.elim
  | succ n_ ih =>
    intro Fplace Fbegin Ftoken Fword Ftold H locs ls hw hP hD hS hl
    have hw : lb_X8_nextToken_0 Fsize Atape  Φ (lf_X8_nextToken_0 Fsize Atape  Φ n_) Fplace Fbegin Ftoken Fword Ftold := hw
    delta lb_X8_nextToken_0 at hw
    refine lv_aload_n hx hb dX8_nextToken_0 rfl (lv_at hl 0 rfl) ?_
    refine va_get (D := D) (ci := 7) (v := .int (Fplace)) (C := RX8) (T := TX8) (N := 69) hx hb hts (fun w h => wm_c (wc_X8 w h)) hown hE.1 hP 0 rfl rfl 4 (by decide) (hts (.fieldLink RX8 165 "WornLinesModel" "place" "I") (wm_c hw_6)) (fun _ h9 => h9) rfl dX8_nextToken_1 ?_
    refine lv_aload_n hx hb dX8_nextToken_4 rfl (lv_at hl 0 rfl) ?_
    refine va_get (D := D) (ci := 7) (v := .int (Fsize)) (C := RX8) (T := TX8) (N := 69) hx hb hts (fun w h => wm_c (wc_X8 w h)) hown hE.1 hP 0 rfl rfl 3 (by decide) (hts (.fieldLink RX8 162 "WornLinesModel" "size" "I") (wm_c hw_4)) (fun _ h9 => h9) rfl dX8_nextToken_5 ?_
    refine lv_icmp_ge (tgt := 52) hx hb dX8_nextToken_8 (by decide) (fun c_1 => ?_) (fun c_1 => ?_)
    · replace hw := hw.1 c_1
      exact kj_X8_nextToken_52 hx hb hown hts hml hE hT hA hRf hRl hRc h am Fthrown Ftaped Fsize Fwrong Fcode Fat Fway Fnext FisEnd FisFallen Fwritten Fmade Fstate FhandNext FhandSteps FhandWritten FmarkAt Atape  Φ  kR86 kR211 kR321 kR371 Fplace Fbegin Ftoken Fword Ftold _ _ _ hw hP hD hS (lv_sub hl [0] rfl)
    · replace hw := hw.2 c_1
      refine lv_aload_n hx hb dX8_nextToken_11 rfl (lv_at hl 0 rfl) ?_
      refine va_get (D := D) (ci := 7) (v := .ref (am 0)) (C := RX8) (T := TX8) (N := 69) hx hb hts (fun w h => wm_c (wc_X8 w h)) hown hE.1 hP 0 rfl rfl 2 (by decide) (hts (.fieldLink RX8 7 "WornLinesModel" "tape" "[I") (wm_c hw_0)) (fun _ h9 => h9) rfl dX8_nextToken_12 ?_
      refine lv_aload_n hx hb dX8_nextToken_15 rfl (lv_at hl 0 rfl) ?_
      refine va_get (D := D) (ci := 7) (v := .int (Fplace)) (C := RX8) (T := TX8) (N := 69) hx hb hts (fun w h => wm_c (wc_X8 w h)) hown hE.1 hP 0 rfl rfl 4 (by decide) (hts (.fieldLink RX8 165 "WornLinesModel" "place" "I") (wm_c hw_6)) (fun _ h9 => h9) rfl dX8_nextToken_16 ?_
      obtain ⟨h_33, hw⟩ := hw
      refine va_iald hx hb hE.1 hP 1 0 rfl rfl (h_33) dX8_nextToken_19 ?_
      refine lv_bipush (v := 32) hx hb dX8_nextToken_20 (by decide) ?_
      refine lv_icmp_eq (tgt := 39) hx hb dX8_nextToken_22 (by decide) (fun c_34 => ?_) (fun c_34 => ?_)
      · replace hw := hw.1 c_34
        refine lv_aload_n hx hb dX8_nextToken_39 rfl (lv_at hl 0 rfl) ?_
        refine lv_dup hx hb dX8_nextToken_40 rfl ?_
        refine va_get (D := D) (ci := 7) (v := .int (Fplace)) (C := RX8) (T := TX8) (N := 69) hx hb hts (fun w h => wm_c (wc_X8 w h)) hown hE.1 hP 0 rfl rfl 4 (by decide) (hts (.fieldLink RX8 165 "WornLinesModel" "place" "I") (wm_c hw_6)) (fun _ h9 => h9) rfl dX8_nextToken_41 ?_
        refine lv_iconst (v := 1) hx hb dX8_nextToken_44 (by decide) ?_
        refine lv_iadd hx hb dX8_nextToken_45 ?_
        refine va_put (D := D) (ci := 7) (v := .int (Fplace + 1)) (ty := .int) (C := RX8) (T := TX8) (N := 69) hx hb hts (fun w h => wm_c (wc_X8 w h)) tyX8 tyX8_ok nmX8 hown hE.1 hP hD hS 0 rfl rfl 4 (by decide) (hts (.fieldLink RX8 165 "WornLinesModel" "place" "I") (wm_c hw_6)) (fun _ h9 => h9) rfl (by decide +kernel) (rfl) rfl (Nat.le_of_ble_eq_true rfl) dX8_nextToken_46 (fun H locs hP hD hS => ?_)
        have hP : va_P D vwCl (wW_X8_nextToken ak ad h am Fthrown Ftaped Fsize (Fplace + 1) Fbegin Ftoken Fword Ftold Fwrong Fcode Fat Fway Fnext FisEnd FisFallen Fwritten Fmade Fstate FhandNext FhandSteps FhandWritten FmarkAt Atape) H := hP
        have hD : va_D A (wW_X8_nextToken ak ad h am Fthrown Ftaped Fsize (Fplace + 1) Fbegin Ftoken Fword Ftold Fwrong Fcode Fat Fway Fnext FisEnd FisFallen Fwritten Fmade Fstate FhandNext FhandSteps FhandWritten FmarkAt Atape) := hD
        refine lv_goto (tgt := 0) hx hb dX8_nextToken_49 (by decide) ?_
        exact ih (Fplace + 1) Fbegin Ftoken Fword Ftold _ _ _ hw hP hD hS (lv_sub hl [0] rfl)
      · replace hw := hw.2 c_34
        refine lv_aload_n hx hb dX8_nextToken_25 rfl (lv_at hl 0 rfl) ?_
        refine va_get (D := D) (ci := 7) (v := .ref (am 0)) (C := RX8) (T := TX8) (N := 69) hx hb hts (fun w h => wm_c (wc_X8 w h)) hown hE.1 hP 0 rfl rfl 2 (by decide) (hts (.fieldLink RX8 7 "WornLinesModel" "tape" "[I") (wm_c hw_0)) (fun _ h9 => h9) rfl dX8_nextToken_26 ?_
        refine lv_aload_n hx hb dX8_nextToken_29 rfl (lv_at hl 0 rfl) ?_
        refine va_get (D := D) (ci := 7) (v := .int (Fplace)) (C := RX8) (T := TX8) (N := 69) hx hb hts (fun w h => wm_c (wc_X8 w h)) hown hE.1 hP 0 rfl rfl 4 (by decide) (hts (.fieldLink RX8 165 "WornLinesModel" "place" "I") (wm_c hw_6)) (fun _ h9 => h9) rfl dX8_nextToken_30 ?_
        obtain ⟨h_35, hw⟩ := hw
        refine va_iald hx hb hE.1 hP 1 0 rfl rfl (h_35) dX8_nextToken_33 ?_
        refine lv_bipush (v := 10) hx hb dX8_nextToken_34 (by decide) ?_
        refine lv_icmp_ne (tgt := 52) hx hb dX8_nextToken_36 (by decide) (fun c_36 => ?_) (fun c_36 => ?_)
        · replace hw := hw.1 c_36
          exact kj_X8_nextToken_52 hx hb hown hts hml hE hT hA hRf hRl hRc h am Fthrown Ftaped Fsize Fwrong Fcode Fat Fway Fnext FisEnd FisFallen Fwritten Fmade Fstate FhandNext FhandSteps FhandWritten FmarkAt Atape  Φ  kR86 kR211 kR321 kR371 Fplace Fbegin Ftoken Fword Ftold _ _ _ hw hP hD hS (lv_sub hl [0] rfl)
        · replace hw := hw.2 c_36
          refine lv_aload_n hx hb dX8_nextToken_39 rfl (lv_at hl 0 rfl) ?_
          refine lv_dup hx hb dX8_nextToken_40 rfl ?_
          refine va_get (D := D) (ci := 7) (v := .int (Fplace)) (C := RX8) (T := TX8) (N := 69) hx hb hts (fun w h => wm_c (wc_X8 w h)) hown hE.1 hP 0 rfl rfl 4 (by decide) (hts (.fieldLink RX8 165 "WornLinesModel" "place" "I") (wm_c hw_6)) (fun _ h9 => h9) rfl dX8_nextToken_41 ?_
          refine lv_iconst (v := 1) hx hb dX8_nextToken_44 (by decide) ?_
          refine lv_iadd hx hb dX8_nextToken_45 ?_
          refine va_put (D := D) (ci := 7) (v := .int (Fplace + 1)) (ty := .int) (C := RX8) (T := TX8) (N := 69) hx hb hts (fun w h => wm_c (wc_X8 w h)) tyX8 tyX8_ok nmX8 hown hE.1 hP hD hS 0 rfl rfl 4 (by decide) (hts (.fieldLink RX8 165 "WornLinesModel" "place" "I") (wm_c hw_6)) (fun _ h9 => h9) rfl (by decide +kernel) (rfl) rfl (Nat.le_of_ble_eq_true rfl) dX8_nextToken_46 (fun H locs hP hD hS => ?_)
          have hP : va_P D vwCl (wW_X8_nextToken ak ad h am Fthrown Ftaped Fsize (Fplace + 1) Fbegin Ftoken Fword Ftold Fwrong Fcode Fat Fway Fnext FisEnd FisFallen Fwritten Fmade Fstate FhandNext FhandSteps FhandWritten FmarkAt Atape) H := hP
          have hD : va_D A (wW_X8_nextToken ak ad h am Fthrown Ftaped Fsize (Fplace + 1) Fbegin Ftoken Fword Ftold Fwrong Fcode Fat Fway Fnext FisEnd FisFallen Fwritten Fmade Fstate FhandNext FhandSteps FhandWritten FmarkAt Atape) := hD
          refine lv_goto (tgt := 0) hx hb dX8_nextToken_49 (by decide) ?_
          exact ih (Fplace + 1) Fbegin Ftoken Fword Ftold _ _ _ hw hP hD hS (lv_sub hl [0] rfl)

def wp_X8_nextToken (Fsize : Int32) (Atape : Nat → Int32) (Fplace : Int32) (Fbegin : Int32) (Ftoken : Int32) (Fword : Int64) (Ftold : Int32) (Φ : Int32 → Int32 → Int32 → Int64 → Int32 → Prop) : Prop := (∃ n_, lf_X8_nextToken_0 Fsize Atape  Φ n_ Fplace Fbegin Ftoken Fword Ftold)
set_option maxHeartbeats 4000000 in
set_option maxRecDepth 100000 in
theorem kj_X8_nextToken_e {p : Program} {l : Launch} {e : Env} {R : Room} {s : State} {m : MethodId} {args : Array Value} {below : List Frame} {meth : Method} {c : Code} {cells slots : Nat} {Q : State → Prop} {A : Nat → Prop} {D : va_G} {ak : Nat → ClassId} {ad : Nat → Nat} (hx : p.tables.exec = Jvm.exec) (hb : c.code = cX8_nextToken) (hown : s.vm.findClass RX8 = some m.cls) (hts : ∀ w ∈ wsX8_nextToken, w.before args s = true) (hml : c.maxLocals = 2) (hE : EV D ak s) (hT : ST D ak ad A s s.heap) (hA : ∀ q, s.heap.size ≤ q → A q) (hRf : 1 ≤ R.frames) (hRl : 21 ≤ R.locals) (hRc : cells ≤ R.cells ∧ slots ≤ R.slots) (h : Nat) (am : Nat → Nat) (Fthrown : Int32) (Ftaped : Int32) (Fsize : Int32) (Fwrong : Int32) (Fcode : Int32) (Fat : Int32) (Fway : Int32) (Fnext : Int32) (FisEnd : Int32) (FisFallen : Int32) (Fwritten : Int32) (Fmade : Int32) (Fstate : Int32) (FhandNext : Int32) (FhandSteps : Int32) (FhandWritten : Int32) (FmarkAt : Int32) (Atape : Nat → Int32)  (Φ : Int32 → Int32 → Int32 → Int64 → Int32 → Prop)
    (kR86 : ∀ (Fplace : Int32) (Fbegin : Int32) (Ftoken : Int32) (Fword : Int64) (Ftold : Int32) (H : Heap) (locs : List Loc) (ls : Array Slot), Φ Fplace Fbegin Ftoken Fword Ftold → va_P D vwCl (wW_X8_nextToken ak ad h am Fthrown Ftaped Fsize Fplace Fbegin Ftoken Fword Ftold Fwrong Fcode Fat Fway Fnext FisEnd FisFallen Fwritten Fmade Fstate FhandNext FhandSteps FhandWritten FmarkAt Atape) H → va_D A (wW_X8_nextToken ak ad h am Fthrown Ftaped Fsize Fplace Fbegin Ftoken Fword Ftold Fwrong Fcode Fat Fway Fnext FisEnd FisFallen Fwritten Fmade Fstate FhandNext FhandSteps FhandWritten FmarkAt Atape) → va_S A s.heap H locs → W p l e R s m args below meth c H locs cells slots Q (F0 m 86 ls []))
    (kR211 : ∀ (Fplace : Int32) (Fbegin : Int32) (Ftoken : Int32) (Fword : Int64) (Ftold : Int32) (H : Heap) (locs : List Loc) (ls : Array Slot), Φ Fplace Fbegin Ftoken Fword Ftold → va_P D vwCl (wW_X8_nextToken ak ad h am Fthrown Ftaped Fsize Fplace Fbegin Ftoken Fword Ftold Fwrong Fcode Fat Fway Fnext FisEnd FisFallen Fwritten Fmade Fstate FhandNext FhandSteps FhandWritten FmarkAt Atape) H → va_D A (wW_X8_nextToken ak ad h am Fthrown Ftaped Fsize Fplace Fbegin Ftoken Fword Ftold Fwrong Fcode Fat Fway Fnext FisEnd FisFallen Fwritten Fmade Fstate FhandNext FhandSteps FhandWritten FmarkAt Atape) → va_S A s.heap H locs → W p l e R s m args below meth c H locs cells slots Q (F0 m 211 ls []))
    (kR321 : ∀ (Fplace : Int32) (Fbegin : Int32) (Ftoken : Int32) (Fword : Int64) (Ftold : Int32) (H : Heap) (locs : List Loc) (ls : Array Slot), Φ Fplace Fbegin Ftoken Fword Ftold → va_P D vwCl (wW_X8_nextToken ak ad h am Fthrown Ftaped Fsize Fplace Fbegin Ftoken Fword Ftold Fwrong Fcode Fat Fway Fnext FisEnd FisFallen Fwritten Fmade Fstate FhandNext FhandSteps FhandWritten FmarkAt Atape) H → va_D A (wW_X8_nextToken ak ad h am Fthrown Ftaped Fsize Fplace Fbegin Ftoken Fword Ftold Fwrong Fcode Fat Fway Fnext FisEnd FisFallen Fwritten Fmade Fstate FhandNext FhandSteps FhandWritten FmarkAt Atape) → va_S A s.heap H locs → W p l e R s m args below meth c H locs cells slots Q (F0 m 321 ls []))
    (kR371 : ∀ (Fplace : Int32) (Fbegin : Int32) (Ftoken : Int32) (Fword : Int64) (Ftold : Int32) (H : Heap) (locs : List Loc) (ls : Array Slot), Φ Fplace Fbegin Ftoken Fword Ftold → va_P D vwCl (wW_X8_nextToken ak ad h am Fthrown Ftaped Fsize Fplace Fbegin Ftoken Fword Ftold Fwrong Fcode Fat Fway Fnext FisEnd FisFallen Fwritten Fmade Fstate FhandNext FhandSteps FhandWritten FmarkAt Atape) H → va_D A (wW_X8_nextToken ak ad h am Fthrown Ftaped Fsize Fplace Fbegin Ftoken Fword Ftold Fwrong Fcode Fat Fway Fnext FisEnd FisFallen Fwritten Fmade Fstate FhandNext FhandSteps FhandWritten FmarkAt Atape) → va_S A s.heap H locs → W p l e R s m args below meth c H locs cells slots Q (F0 m 371 ls []))
    : ∀ (Fplace : Int32) (Fbegin : Int32) (Ftoken : Int32) (Fword : Int64) (Ftold : Int32) (H : Heap) (locs : List Loc) (ls : Array Slot), wp_X8_nextToken Fsize Atape Fplace Fbegin Ftoken Fword Ftold Φ → va_P D vwCl (wW_X8_nextToken ak ad h am Fthrown Ftaped Fsize Fplace Fbegin Ftoken Fword Ftold Fwrong Fcode Fat Fway Fnext FisEnd FisFallen Fwritten Fmade Fstate FhandNext FhandSteps FhandWritten FmarkAt Atape) H → va_D A (wW_X8_nextToken ak ad h am Fthrown Ftaped Fsize Fplace Fbegin Ftoken Fword Ftold Fwrong Fcode Fat Fway Fnext FisEnd FisFallen Fwritten Fmade Fstate FhandNext FhandSteps FhandWritten FmarkAt Atape) → va_S A s.heap H locs → lv_has ls 2 [(0, .ref h)] → W p l e R s m args below meth c H locs cells slots Q (F0 m 0 ls ([])) := by
  intro Fplace Fbegin Ftoken Fword Ftold H locs ls hw hP hD hS hl
  delta wp_X8_nextToken at hw
  obtain ⟨n1_, hw⟩ := hw
  exact lp_X8_nextToken_0 hx hb hown hts hml hE hT hA hRf hRl hRc h am Fthrown Ftaped Fsize Fwrong Fcode Fat Fway Fnext FisEnd FisFallen Fwritten Fmade Fstate FhandNext FhandSteps FhandWritten FmarkAt Atape  Φ  kR86 kR211 kR321 kR371 n1_ Fplace Fbegin Ftoken Fword Ftold _ _ _ hw hP hD hS (lv_sub hl [0] rfl)
set_option maxHeartbeats 4000000 in
set_option maxRecDepth 100000 in
theorem c_X8_nextToken (l : Launch) (D : va_G) (ak : Nat → ClassId) (ad : Nat → Nat) (sz : Nat) (h : Nat) (am : Nat → Nat) (Fthrown : Int32) (Ftaped : Int32) (Fsize : Int32) (Fplace : Int32) (Fbegin : Int32) (Ftoken : Int32) (Fword : Int64) (Ftold : Int32) (Fwrong : Int32) (Fcode : Int32) (Fat : Int32) (Fway : Int32) (Fnext : Int32) (FisEnd : Int32) (FisFallen : Int32) (Fwritten : Int32) (Fmade : Int32) (Fstate : Int32) (FhandNext : Int32) (FhandSteps : Int32) (FhandWritten : Int32) (FmarkAt : Int32) (Atape : Nat → Int32) (Φ : Int32 → Int32 → Int32 → Int64 → Int32 → Prop) (hf : wp_X8_nextToken Fsize Atape Fplace Fbegin Ftoken Fword Ftold Φ) : Met l yX8_nextToken wsX8_nextToken ({ frames := 1, cells := 0, slots := 0, locals := 21 }) (cPre D ak ad [.ref h] ((wW_X8_nextToken ak ad h am Fthrown Ftaped Fsize Fplace Fbegin Ftoken Fword Ftold Fwrong Fcode Fat Fway Fnext FisEnd FisFallen Fwritten Fmade Fstate FhandNext FhandSteps FhandWritten FmarkAt Atape)) sz) (cV D (S := (Int32) × (Int32) × (Int32) × (Int64) × (Int32)) (fun (u : (Int32) × (Int32) × (Int32) × (Int64) × (Int32)) => Φ u.1 u.2.1 u.2.2.1 u.2.2.2.1 u.2.2.2.2) (fun u => (wW_X8_nextToken ak ad h am Fthrown Ftaped Fsize u.1 u.2.1 u.2.2.1 u.2.2.2.1 u.2.2.2.2 Fwrong Fcode Fat Fway Fnext FisEnd FisFallen Fwritten Fmade Fstate FhandNext FhandSteps FhandWritten FmarkAt Atape)) ((wW_X8_nextToken ak ad h am Fthrown Ftaped Fsize Fplace Fbegin Ftoken Fword Ftold Fwrong Fcode Fat Fway Fnext FisEnd FisFallen Fwritten Fmade Fstate FhandNext FhandSteps FhandWritten FmarkAt Atape)) sz) 0 0 (va_A ((wW_X8_nextToken ak ad h am Fthrown Ftaped Fsize Fplace Fbegin Ftoken Fword Ftold Fwrong Fcode Fat Fway Fnext FisEnd FisFallen Fwritten Fmade Fstate FhandNext FhandSteps FhandWritten FmarkAt Atape)) sz) := by
  refine Met.ofW (cc := cX8_nextToken) (maxL := 2) (ret := none) (by decide) rfl ?_
  intro p e s m args below meth c s₁ B hml hv
  obtain ⟨rfl, hsz, hP, hE, hD0, hT⟩ := hv
  have hx := B.exec
  have hb := B.bytes
  have hr := B.returns
  have hts := atoms_spec (ws := wsX8_nextToken) B.pre
  have hown : s.vm.findClass RX8 = some m.cls := findClass_of_methodNamed B.named
  have hlocks := B.notSynchronized
  subst hsz
  have hD := hD0.self (sz := s.heap.size)
  generalize hAe : va_A ((wW_X8_nextToken ak ad h am Fthrown Ftaped Fsize Fplace Fbegin Ftoken Fword Ftold Fwrong Fcode Fat Fway Fnext FisEnd FisFallen Fwritten Fmade Fstate FhandNext FhandSteps FhandWritten FmarkAt Atape)) s.heap.size = A at hD hT ⊢
  have hA : ∀ q : Nat, s.heap.size ≤ q → A q := fun q h => by rw [← hAe]; exact Or.inr h
  have hS : va_S A s.heap s.heap [] := va_S.rf
  have hl := lv_entry ([.ref h]) (n := 2) (Nat.le_of_ble_eq_true rfl)
  rw [lg_entry_eq]
  generalize (lg_sl ([.ref h]) ++ List.replicate (2 - (lg_sl ([.ref h])).length) Slot.unset).toArray = ls at hl ⊢
  have hl : lv_has ls 2 [(0, .ref h)] := hl
  exact kj_X8_nextToken_e hx hb hown hts hml hE hT hA (Nat.le_of_ble_eq_true rfl) (Nat.le_of_ble_eq_true rfl) ⟨Nat.le_of_ble_eq_true rfl, Nat.le_of_ble_eq_true rfl⟩ h am Fthrown Ftaped Fsize Fwrong Fcode Fat Fway Fnext FisEnd FisFallen Fwritten Fmade Fstate FhandNext FhandSteps FhandWritten FmarkAt Atape Φ (fun Fplace Fbegin Ftoken Fword Ftold H locs ls hw hP hD hS => W.vret hx hb hr (fun t ht hW => ⟨⟨(Fplace, Fbegin, Ftoken, Fword, Ftold), rfl, hw, by rw [ht]; exact hP, by rw [hAe]; exact hD⟩, by rw [hAe]; exact hS.F ht⟩) hS.2.2 dX8_nextToken_86) (fun Fplace Fbegin Ftoken Fword Ftold H locs ls hw hP hD hS => W.vret hx hb hr (fun t ht hW => ⟨⟨(Fplace, Fbegin, Ftoken, Fword, Ftold), rfl, hw, by rw [ht]; exact hP, by rw [hAe]; exact hD⟩, by rw [hAe]; exact hS.F ht⟩) hS.2.2 dX8_nextToken_211) (fun Fplace Fbegin Ftoken Fword Ftold H locs ls hw hP hD hS => W.vret hx hb hr (fun t ht hW => ⟨⟨(Fplace, Fbegin, Ftoken, Fword, Ftold), rfl, hw, by rw [ht]; exact hP, by rw [hAe]; exact hD⟩, by rw [hAe]; exact hS.F ht⟩) hS.2.2 dX8_nextToken_321) (fun Fplace Fbegin Ftoken Fword Ftold H locs ls hw hP hD hS => W.vret hx hb hr (fun t ht hW => ⟨⟨(Fplace, Fbegin, Ftoken, Fword, Ftold), rfl, hw, by rw [ht]; exact hP, by rw [hAe]; exact hD⟩, by rw [hAe]; exact hS.F ht⟩) hS.2.2 dX8_nextToken_371) Fplace Fbegin Ftoken Fword Ftold _ _ _ hf hP hD hS hl
