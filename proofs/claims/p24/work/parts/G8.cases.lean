theorem dL_law_324 : decode cL_law 324 = .ok (.aload_n 1, 1) := by decide +kernel
theorem dL_law_325 : decode cL_law 325 = .ok (.aload_n 0, 1) := by decide +kernel
theorem dL_law_326 : decode cL_law 326 = .ok (.iload 4, 2) := by decide +kernel
theorem dL_law_328 : decode cL_law 328 = .ok (.iconst 1, 1) := by decide +kernel
theorem dL_law_329 : decode cL_law 329 = .ok (.iadd, 1) := by decide +kernel
theorem dL_law_330 : decode cL_law 330 = .ok (.iaload, 1) := by decide +kernel
theorem dL_law_331 : decode cL_law 331 = .ok (.aload_n 0, 1) := by decide +kernel
theorem dL_law_332 : decode cL_law 332 = .ok (.iload 4, 2) := by decide +kernel
theorem dL_law_334 : decode cL_law 334 = .ok (.iconst 2, 1) := by decide +kernel
theorem dL_law_335 : decode cL_law 335 = .ok (.iadd, 1) := by decide +kernel
theorem dL_law_336 : decode cL_law 336 = .ok (.iaload, 1) := by decide +kernel
theorem dL_law_337 : decode cL_law 337 = .ok (.invokevirtual 34, 3) := by decide +kernel
theorem dL_law_340 : decode cL_law 340 = .ok (.pop, 1) := by decide +kernel
theorem dL_law_341 : decode cL_law 341 = .ok (.aload_n 2, 1) := by decide +kernel
theorem dL_law_342 : decode cL_law 342 = .ok (.aload_n 0, 1) := by decide +kernel
theorem dL_law_343 : decode cL_law 343 = .ok (.iload 4, 2) := by decide +kernel
theorem dL_law_345 : decode cL_law 345 = .ok (.iconst 1, 1) := by decide +kernel
theorem dL_law_346 : decode cL_law 346 = .ok (.iadd, 1) := by decide +kernel
theorem dL_law_347 : decode cL_law 347 = .ok (.iaload, 1) := by decide +kernel
theorem dL_law_348 : decode cL_law 348 = .ok (.aload_n 0, 1) := by decide +kernel
theorem dL_law_349 : decode cL_law 349 = .ok (.iload 4, 2) := by decide +kernel
theorem dL_law_351 : decode cL_law 351 = .ok (.iconst 2, 1) := by decide +kernel
theorem dL_law_352 : decode cL_law 352 = .ok (.iadd, 1) := by decide +kernel
theorem dL_law_353 : decode cL_law 353 = .ok (.iaload, 1) := by decide +kernel
theorem dL_law_354 : decode cL_law 354 = .ok (.invokevirtual 38, 3) := by decide +kernel
theorem dL_law_357 : decode cL_law 357 = .ok (.pop, 1) := by decide +kernel
theorem dL_law_358 : decode cL_law 358 = .ok (.goto 661, 3) := by decide +kernel
theorem dL_law_164 : decode cL_law 164 = .ok (.aload_n 1, 1) := by decide +kernel
theorem dL_law_165 : decode cL_law 165 = .ok (.aload_n 0, 1) := by decide +kernel
theorem dL_law_166 : decode cL_law 166 = .ok (.iload 4, 2) := by decide +kernel
theorem dL_law_168 : decode cL_law 168 = .ok (.iconst 1, 1) := by decide +kernel
theorem dL_law_169 : decode cL_law 169 = .ok (.iadd, 1) := by decide +kernel
theorem dL_law_170 : decode cL_law 170 = .ok (.iaload, 1) := by decide +kernel
theorem dL_law_171 : decode cL_law 171 = .ok (.i2l, 1) := by decide +kernel
theorem dL_law_172 : decode cL_law 172 = .ok (.bipush 32, 2) := by decide +kernel
theorem dL_law_174 : decode cL_law 174 = .ok (.lshl, 1) := by decide +kernel
theorem dL_law_175 : decode cL_law 175 = .ok (.aload_n 0, 1) := by decide +kernel
theorem dL_law_176 : decode cL_law 176 = .ok (.iload 4, 2) := by decide +kernel
theorem dL_law_178 : decode cL_law 178 = .ok (.iconst 2, 1) := by decide +kernel
theorem dL_law_179 : decode cL_law 179 = .ok (.iadd, 1) := by decide +kernel
theorem dL_law_180 : decode cL_law 180 = .ok (.iaload, 1) := by decide +kernel
theorem dL_law_181 : decode cL_law 181 = .ok (.i2l, 1) := by decide +kernel
theorem dL_law_182 : decode cL_law 182 = .ok (.ldc2_w 22, 3) := by decide +kernel
theorem dL_law_185 : decode cL_law 185 = .ok (.land, 1) := by decide +kernel
theorem dL_law_186 : decode cL_law 186 = .ok (.lor, 1) := by decide +kernel
theorem dL_law_187 : decode cL_law 187 = .ok (.aload_n 0, 1) := by decide +kernel
theorem dL_law_188 : decode cL_law 188 = .ok (.iload 4, 2) := by decide +kernel
theorem dL_law_190 : decode cL_law 190 = .ok (.iconst 3, 1) := by decide +kernel
theorem dL_law_191 : decode cL_law 191 = .ok (.iadd, 1) := by decide +kernel
theorem dL_law_192 : decode cL_law 192 = .ok (.iaload, 1) := by decide +kernel
theorem dL_law_193 : decode cL_law 193 = .ok (.i2l, 1) := by decide +kernel
theorem dL_law_194 : decode cL_law 194 = .ok (.bipush 32, 2) := by decide +kernel
theorem dL_law_196 : decode cL_law 196 = .ok (.lshl, 1) := by decide +kernel
theorem dL_law_197 : decode cL_law 197 = .ok (.aload_n 0, 1) := by decide +kernel
theorem dL_law_198 : decode cL_law 198 = .ok (.iload 4, 2) := by decide +kernel
theorem dL_law_200 : decode cL_law 200 = .ok (.iconst 4, 1) := by decide +kernel
theorem dL_law_201 : decode cL_law 201 = .ok (.iadd, 1) := by decide +kernel
theorem dL_law_202 : decode cL_law 202 = .ok (.iaload, 1) := by decide +kernel
theorem dL_law_203 : decode cL_law 203 = .ok (.i2l, 1) := by decide +kernel
theorem dL_law_204 : decode cL_law 204 = .ok (.ldc2_w 22, 3) := by decide +kernel
theorem dL_law_207 : decode cL_law 207 = .ok (.land, 1) := by decide +kernel
theorem dL_law_208 : decode cL_law 208 = .ok (.lor, 1) := by decide +kernel
theorem dL_law_209 : decode cL_law 209 = .ok (.aload_n 0, 1) := by decide +kernel
theorem dL_law_210 : decode cL_law 210 = .ok (.iload 4, 2) := by decide +kernel
theorem dL_law_212 : decode cL_law 212 = .ok (.iconst 5, 1) := by decide +kernel
theorem dL_law_213 : decode cL_law 213 = .ok (.iadd, 1) := by decide +kernel
theorem dL_law_214 : decode cL_law 214 = .ok (.iaload, 1) := by decide +kernel
theorem dL_law_215 : decode cL_law 215 = .ok (.i2l, 1) := by decide +kernel
theorem dL_law_216 : decode cL_law 216 = .ok (.bipush 32, 2) := by decide +kernel
theorem dL_law_218 : decode cL_law 218 = .ok (.lshl, 1) := by decide +kernel
theorem dL_law_219 : decode cL_law 219 = .ok (.aload_n 0, 1) := by decide +kernel
theorem dL_law_220 : decode cL_law 220 = .ok (.iload 4, 2) := by decide +kernel
theorem dL_law_222 : decode cL_law 222 = .ok (.bipush 6, 2) := by decide +kernel
theorem dL_law_224 : decode cL_law 224 = .ok (.iadd, 1) := by decide +kernel
theorem dL_law_225 : decode cL_law 225 = .ok (.iaload, 1) := by decide +kernel
theorem dL_law_226 : decode cL_law 226 = .ok (.i2l, 1) := by decide +kernel
theorem dL_law_227 : decode cL_law 227 = .ok (.ldc2_w 22, 3) := by decide +kernel
theorem dL_law_230 : decode cL_law 230 = .ok (.land, 1) := by decide +kernel
theorem dL_law_231 : decode cL_law 231 = .ok (.lor, 1) := by decide +kernel
theorem dL_law_232 : decode cL_law 232 = .ok (.invokevirtual 24, 3) := by decide +kernel
theorem dL_law_235 : decode cL_law 235 = .ok (.pop, 1) := by decide +kernel
theorem dL_law_236 : decode cL_law 236 = .ok (.aload_n 2, 1) := by decide +kernel
theorem dL_law_237 : decode cL_law 237 = .ok (.aload_n 0, 1) := by decide +kernel
theorem dL_law_238 : decode cL_law 238 = .ok (.iload 4, 2) := by decide +kernel
theorem dL_law_240 : decode cL_law 240 = .ok (.iconst 1, 1) := by decide +kernel
theorem dL_law_241 : decode cL_law 241 = .ok (.iadd, 1) := by decide +kernel
theorem dL_law_242 : decode cL_law 242 = .ok (.iaload, 1) := by decide +kernel
theorem dL_law_243 : decode cL_law 243 = .ok (.i2l, 1) := by decide +kernel
theorem dL_law_244 : decode cL_law 244 = .ok (.bipush 32, 2) := by decide +kernel
theorem dL_law_246 : decode cL_law 246 = .ok (.lshl, 1) := by decide +kernel
theorem dL_law_247 : decode cL_law 247 = .ok (.aload_n 0, 1) := by decide +kernel
theorem dL_law_248 : decode cL_law 248 = .ok (.iload 4, 2) := by decide +kernel
theorem dL_law_250 : decode cL_law 250 = .ok (.iconst 2, 1) := by decide +kernel
theorem dL_law_251 : decode cL_law 251 = .ok (.iadd, 1) := by decide +kernel
theorem dL_law_252 : decode cL_law 252 = .ok (.iaload, 1) := by decide +kernel
theorem dL_law_253 : decode cL_law 253 = .ok (.i2l, 1) := by decide +kernel
theorem dL_law_254 : decode cL_law 254 = .ok (.ldc2_w 22, 3) := by decide +kernel
theorem dL_law_257 : decode cL_law 257 = .ok (.land, 1) := by decide +kernel
theorem dL_law_258 : decode cL_law 258 = .ok (.lor, 1) := by decide +kernel
theorem dL_law_259 : decode cL_law 259 = .ok (.aload_n 0, 1) := by decide +kernel
theorem dL_law_260 : decode cL_law 260 = .ok (.iload 4, 2) := by decide +kernel
theorem dL_law_262 : decode cL_law 262 = .ok (.iconst 3, 1) := by decide +kernel
theorem dL_law_263 : decode cL_law 263 = .ok (.iadd, 1) := by decide +kernel
theorem dL_law_264 : decode cL_law 264 = .ok (.iaload, 1) := by decide +kernel
theorem dL_law_265 : decode cL_law 265 = .ok (.i2l, 1) := by decide +kernel
theorem dL_law_266 : decode cL_law 266 = .ok (.bipush 32, 2) := by decide +kernel
theorem dL_law_268 : decode cL_law 268 = .ok (.lshl, 1) := by decide +kernel
theorem dL_law_269 : decode cL_law 269 = .ok (.aload_n 0, 1) := by decide +kernel
theorem dL_law_270 : decode cL_law 270 = .ok (.iload 4, 2) := by decide +kernel
theorem dL_law_272 : decode cL_law 272 = .ok (.iconst 4, 1) := by decide +kernel
theorem dL_law_273 : decode cL_law 273 = .ok (.iadd, 1) := by decide +kernel
theorem dL_law_274 : decode cL_law 274 = .ok (.iaload, 1) := by decide +kernel
theorem dL_law_275 : decode cL_law 275 = .ok (.i2l, 1) := by decide +kernel
theorem dL_law_276 : decode cL_law 276 = .ok (.ldc2_w 22, 3) := by decide +kernel
theorem dL_law_279 : decode cL_law 279 = .ok (.land, 1) := by decide +kernel
theorem dL_law_280 : decode cL_law 280 = .ok (.lor, 1) := by decide +kernel
theorem dL_law_281 : decode cL_law 281 = .ok (.aload_n 0, 1) := by decide +kernel
theorem dL_law_282 : decode cL_law 282 = .ok (.iload 4, 2) := by decide +kernel
theorem dL_law_284 : decode cL_law 284 = .ok (.iconst 5, 1) := by decide +kernel
theorem dL_law_285 : decode cL_law 285 = .ok (.iadd, 1) := by decide +kernel
theorem dL_law_286 : decode cL_law 286 = .ok (.iaload, 1) := by decide +kernel
theorem dL_law_287 : decode cL_law 287 = .ok (.i2l, 1) := by decide +kernel
theorem dL_law_288 : decode cL_law 288 = .ok (.bipush 32, 2) := by decide +kernel
theorem dL_law_290 : decode cL_law 290 = .ok (.lshl, 1) := by decide +kernel
theorem dL_law_291 : decode cL_law 291 = .ok (.aload_n 0, 1) := by decide +kernel
theorem dL_law_292 : decode cL_law 292 = .ok (.iload 4, 2) := by decide +kernel
theorem dL_law_294 : decode cL_law 294 = .ok (.bipush 6, 2) := by decide +kernel
theorem dL_law_296 : decode cL_law 296 = .ok (.iadd, 1) := by decide +kernel
theorem dL_law_297 : decode cL_law 297 = .ok (.iaload, 1) := by decide +kernel
theorem dL_law_298 : decode cL_law 298 = .ok (.i2l, 1) := by decide +kernel
theorem dL_law_299 : decode cL_law 299 = .ok (.ldc2_w 22, 3) := by decide +kernel
theorem dL_law_302 : decode cL_law 302 = .ok (.land, 1) := by decide +kernel
theorem dL_law_303 : decode cL_law 303 = .ok (.lor, 1) := by decide +kernel
theorem dL_law_304 : decode cL_law 304 = .ok (.invokevirtual 28, 3) := by decide +kernel
theorem dL_law_307 : decode cL_law 307 = .ok (.pop, 1) := by decide +kernel
theorem dL_law_308 : decode cL_law 308 = .ok (.goto 711, 3) := by decide +kernel
def LGo (p : Program) (l : Launch) (e : Env) (s : State) (m : MethodId) (b : Nat) (below : List Frame) (meth : Method) (c : Code) (D : va_G) (ak : Nat → ClassId) (ad : Nat → Nat) (A : Nat → Prop) (o0 m0 x0 : Nat) (i : Int32) (pc cells slots : Nat) : Prop := ∀ (v : VW) (LX LM : va_W) (fo : Nat → Int64) (H : Heap) (locs : List Loc) (ls : Array Slot), IX ak ad x0 v LX → IM ak m0 v LM → va_P D vwCl (LM ++ (LX ++ [(o0, .inl (ak 1, 1, .inr (.inl fo)))])) H → va_D A (LM ++ (LX ++ [(o0, .inl (ak 1, 1, .inr (.inl fo)))])) → va_S A s.heap H locs → lv_has ls 7 [(4, .int i), (3, .ref o0), (2, .ref m0), (1, .ref x0), (0, .ref b)] → W p l e room_1 s m #[Value.ref b] below meth c H locs cells slots (lw_Z below #[Value.ref b] s) (F0 m pc ls [])
theorem lk_in {i : Int32} {k d L : Nat} (hi : i = nI k) (hk : k + 7 ≤ L) (hL : L ≤ 3584) (hd : d < 7) : vp_in (i + nI d) L := by
  subst hi
  exact pk_in (k + d) L (by omega) (nI_add k d) (by omega)
set_option maxHeartbeats 4000000 in
set_option maxRecDepth 100000 in
theorem lk_2 {p : Program} {e : Env} {s : State} {m : MethodId} {below : List Frame} {meth : Method} {c : Code} (l : Launch) {b L : Nat} {xs : Nat → Int32} (C0 : lw_At p s m meth c b L xs) {A : Nat → Prop} (hAe : A = fun q => s.heap.size ≤ q) {D : va_G} {ak : Nat → ClassId} {ad : Nat → Nat} (hl0 : l.stackTraces = false) (hE : EV D ak s) (hT : ST D ak ad A s s.heap) (hXE : XE A s s.heap) {o0 m0 x0 : Nat} {i : Int32} {k cells slots : Nat} (hi : i = nI k) (hk : k + 7 ≤ L) (hL : L ≤ 3584) (hc : cells + 15 ≤ room_1.cells) (hs : slots + 1133 ≤ room_1.slots) (kk : LGo p l e s m b below meth c D ak ad A o0 m0 x0 i 1019 (cells + 15) (slots + 1133)) : LGo p l e s m b below meth c D ak ad A o0 m0 x0 i 324 cells slots := by
  obtain ⟨hx, hb, hr, hml, hown, hts, hX, hbl, hlocks, hgv⟩ := id C0
  have hown : s.vm.findClass RL = some m.cls := hown
  have hA : ∀ q : Nat, s.heap.size ≤ q → A q := fun q h => by rw [hAe]; exact h
  have hbA : ¬ A b := by rw [hAe]; exact Nat.not_le.mpr hbl
  intro v LX LM fo H locs ls hI hJ hP hD hS hl
  refine lv_aload_n hx hb dL_law_324 rfl (lv_at hl 3 rfl) ?_
  refine lv_aload_n hx hb dL_law_325 rfl (lv_at hl 4 rfl) ?_
  refine lv_iload hx hb dL_law_326 (lv_at hl 0 rfl) ?_
  refine lv_iconst (v := 1) hx hb dL_law_328 (by decide) ?_
  refine lv_iadd hx hb dL_law_329 ?_
  refine va_sld hx hb hX hbl hbA hS (lk_in (d := 1) hi hk hL (by decide)) dL_law_330 ?_
  refine lv_topi (fun a1 ea1 => ?_)
  refine lv_aload_n hx hb dL_law_331 rfl (lv_at hl 4 rfl) ?_
  refine lv_iload hx hb dL_law_332 (lv_at hl 0 rfl) ?_
  refine lv_iconst (v := 2) hx hb dL_law_334 (by decide) ?_
  refine lv_iadd hx hb dL_law_335 ?_
  refine va_sld hx hb hX hbl hbA hS (lk_in (d := 2) hi hk hL (by decide)) dL_law_336 ?_
  refine lv_topi (fun a2 ea2 => ?_)
  obtain ⟨q1, hh1⟩ := hI.head
  refine lc_i (U := LM) (C := LX) (V := [(o0, .inl (ak 1, 1, .inr (.inl fo)))]) hP hD hS hA (va_runV (As := [.int a1, .int a2]) (rest := []) ⟨hx, hb, hml, hown, hts⟩ (x_stuff l D ak ad _ x0 v LX a1 a2 hI) (cwV 2 hts hG_X7_stuff rfl rfl rfl hv_X7_stuff ⟨Nat.le_of_ble_eq_true rfl, Nat.le_of_ble_eq_true rfl⟩) (lc_preV (U := LM) (C := LX) (V := [(o0, .inl (ak 1, 1, .inr (.inl fo)))]) (As := [.int a1, .int a2]) hE hT hP hD hS hA 0 6 rfl rfl hh1) rfl rfl hl.1 rfl (lv_room (Nat.le_of_ble_eq_true rfl)) dL_law_337 ⟨by omega, by omega⟩) (fun r1 LX H locs hR hP hD hS => ?_)
  obtain ⟨er1, hI⟩ := hR
  refine lv_pop hx hb dL_law_340 rfl ?_
  refine lv_aload_n hx hb dL_law_341 rfl (lv_at hl 2 rfl) ?_
  refine lv_aload_n hx hb dL_law_342 rfl (lv_at hl 4 rfl) ?_
  refine lv_iload hx hb dL_law_343 (lv_at hl 0 rfl) ?_
  refine lv_iconst (v := 1) hx hb dL_law_345 (by decide) ?_
  refine lv_iadd hx hb dL_law_346 ?_
  refine va_sld hx hb hX hbl hbA hS (lk_in (d := 1) hi hk hL (by decide)) dL_law_347 ?_
  refine W.eq (g2 := F0 m 348 ls (.int a1 :: .ref m0 :: [])) (by rw [ea1]) ?_
  refine lv_aload_n hx hb dL_law_348 rfl (lv_at hl 4 rfl) ?_
  refine lv_iload hx hb dL_law_349 (lv_at hl 0 rfl) ?_
  refine lv_iconst (v := 2) hx hb dL_law_351 (by decide) ?_
  refine lv_iadd hx hb dL_law_352 ?_
  refine va_sld hx hb hX hbl hbA hS (lk_in (d := 2) hi hk hL (by decide)) dL_law_353 ?_
  refine W.eq (g2 := F0 m 354 ls (.int a2 :: .int a1 :: .ref m0 :: [])) (by rw [ea2]) ?_
  obtain ⟨q2, hh2⟩ := hJ.head
  refine lc_i (U := []) (C := LM) (V := LX ++ [(o0, .inl (ak 1, 1, .inr (.inl fo)))]) hP hD hS hA (va_runV (As := [.int a1, .int a2]) (rest := []) ⟨hx, hb, hml, hown, hts⟩ (m_stuff l D ak ad _ m0 v LM a1 a2 hJ) (cwV 2 hts hG_X8_stuff rfl rfl rfl hv_X8_stuff ⟨Nat.le_of_ble_eq_true rfl, Nat.le_of_ble_eq_true rfl⟩) (lc_preV (U := []) (C := LM) (V := LX ++ [(o0, .inl (ak 1, 1, .inr (.inl fo)))]) (As := [.int a1, .int a2]) hE hT hP hD hS hA 0 7 rfl rfl hh2) rfl rfl hl.1 rfl (lv_room (Nat.le_of_ble_eq_true rfl)) dL_law_354 ⟨by omega, by omega⟩) (fun r2 LM H locs hR hP hD hS => ?_)
  obtain ⟨er2, hJ⟩ := hR
  have hP : va_P D vwCl (LM ++ (LX ++ [(o0, .inl (ak 1, 1, .inr (.inl fo)))])) H := hP
  have hD : va_D A (LM ++ (LX ++ [(o0, .inl (ak 1, 1, .inr (.inl fo)))])) := hD
  refine lv_pop hx hb dL_law_357 rfl ?_
  refine lv_goto (tgt := 1019) hx hb dL_law_358 (by decide) ?_
  refine W.widen (k := cells + 15) (n := slots + 1133) (by omega) (by omega) ?_
  exact kk _ LX LM fo H locs ls hI hJ hP hD hS (lv_sub hl [0, 1, 2, 3, 4] rfl)
set_option maxHeartbeats 4000000 in
set_option maxRecDepth 100000 in
theorem lk_0 {p : Program} {e : Env} {s : State} {m : MethodId} {below : List Frame} {meth : Method} {c : Code} (l : Launch) {b L : Nat} {xs : Nat → Int32} (C0 : lw_At p s m meth c b L xs) {A : Nat → Prop} (hAe : A = fun q => s.heap.size ≤ q) {D : va_G} {ak : Nat → ClassId} {ad : Nat → Nat} (hl0 : l.stackTraces = false) (hE : EV D ak s) (hT : ST D ak ad A s s.heap) (hXE : XE A s s.heap) {o0 m0 x0 : Nat} {i : Int32} {k cells slots : Nat} (hi : i = nI k) (hk : k + 7 ≤ L) (hL : L ≤ 3584) (hc : cells + 15 ≤ room_1.cells) (hs : slots + 1133 ≤ room_1.slots) (kk : LGo p l e s m b below meth c D ak ad A o0 m0 x0 i 1019 (cells + 15) (slots + 1133)) : LGo p l e s m b below meth c D ak ad A o0 m0 x0 i 164 cells slots := by
  obtain ⟨hx, hb, hr, hml, hown, hts, hX, hbl, hlocks, hgv⟩ := id C0
  have hown : s.vm.findClass RL = some m.cls := hown
  have hA : ∀ q : Nat, s.heap.size ≤ q → A q := fun q h => by rw [hAe]; exact h
  have hbA : ¬ A b := by rw [hAe]; exact Nat.not_le.mpr hbl
  intro v LX LM fo H locs ls hI hJ hP hD hS hl
  refine lv_aload_n hx hb dL_law_164 rfl (lv_at hl 3 rfl) ?_
  refine lv_aload_n hx hb dL_law_165 rfl (lv_at hl 4 rfl) ?_
  refine lv_iload hx hb dL_law_166 (lv_at hl 0 rfl) ?_
  refine lv_iconst (v := 1) hx hb dL_law_168 (by decide) ?_
  refine lv_iadd hx hb dL_law_169 ?_
  refine va_sld hx hb hX hbl hbA hS (lk_in (d := 1) hi hk hL (by decide)) dL_law_170 ?_
  refine lv_i2l hx hb dL_law_171 rfl ?_
  refine lv_bipush (v := 32) hx hb dL_law_172 (by decide) ?_
  refine lv_lshl hx hb dL_law_174 rfl ?_
  refine lv_aload_n hx hb dL_law_175 rfl (lv_at hl 4 rfl) ?_
  refine lv_iload hx hb dL_law_176 (lv_at hl 0 rfl) ?_
  refine lv_iconst (v := 2) hx hb dL_law_178 (by decide) ?_
  refine lv_iadd hx hb dL_law_179 ?_
  refine va_sld hx hb hX hbl hbA hS (lk_in (d := 2) hi hk hL (by decide)) dL_law_180 ?_
  refine lv_i2l hx hb dL_law_181 rfl ?_
  refine lv_ldc2 hx hb hown (hts (.constantLong RL 22 (4294967295)) (lwAt_mem (i := 6219) rfl)) dL_law_182 ?_
  refine lv_land hx hb dL_law_185 ?_
  refine lv_lor hx hb dL_law_186 ?_
  refine lv_topl (fun y1 ey1 => ?_)
  refine lv_aload_n hx hb dL_law_187 rfl (lv_at hl 4 rfl) ?_
  refine lv_iload hx hb dL_law_188 (lv_at hl 0 rfl) ?_
  refine lv_iconst (v := 3) hx hb dL_law_190 (by decide) ?_
  refine lv_iadd hx hb dL_law_191 ?_
  refine va_sld hx hb hX hbl hbA hS (lk_in (d := 3) hi hk hL (by decide)) dL_law_192 ?_
  refine lv_i2l hx hb dL_law_193 rfl ?_
  refine lv_bipush (v := 32) hx hb dL_law_194 (by decide) ?_
  refine lv_lshl hx hb dL_law_196 rfl ?_
  refine lv_aload_n hx hb dL_law_197 rfl (lv_at hl 4 rfl) ?_
  refine lv_iload hx hb dL_law_198 (lv_at hl 0 rfl) ?_
  refine lv_iconst (v := 4) hx hb dL_law_200 (by decide) ?_
  refine lv_iadd hx hb dL_law_201 ?_
  refine va_sld hx hb hX hbl hbA hS (lk_in (d := 4) hi hk hL (by decide)) dL_law_202 ?_
  refine lv_i2l hx hb dL_law_203 rfl ?_
  refine lv_ldc2 hx hb hown (hts (.constantLong RL 22 (4294967295)) (lwAt_mem (i := 6219) rfl)) dL_law_204 ?_
  refine lv_land hx hb dL_law_207 ?_
  refine lv_lor hx hb dL_law_208 ?_
  refine lv_topl (fun y2 ey2 => ?_)
  refine lv_aload_n hx hb dL_law_209 rfl (lv_at hl 4 rfl) ?_
  refine lv_iload hx hb dL_law_210 (lv_at hl 0 rfl) ?_
  refine lv_iconst (v := 5) hx hb dL_law_212 (by decide) ?_
  refine lv_iadd hx hb dL_law_213 ?_
  refine va_sld hx hb hX hbl hbA hS (lk_in (d := 5) hi hk hL (by decide)) dL_law_214 ?_
  refine lv_i2l hx hb dL_law_215 rfl ?_
  refine lv_bipush (v := 32) hx hb dL_law_216 (by decide) ?_
  refine lv_lshl hx hb dL_law_218 rfl ?_
  refine lv_aload_n hx hb dL_law_219 rfl (lv_at hl 4 rfl) ?_
  refine lv_iload hx hb dL_law_220 (lv_at hl 0 rfl) ?_
  refine lv_bipush (v := 6) hx hb dL_law_222 (by decide) ?_
  refine lv_iadd hx hb dL_law_224 ?_
  refine va_sld hx hb hX hbl hbA hS (lk_in (d := 6) hi hk hL (by decide)) dL_law_225 ?_
  refine lv_i2l hx hb dL_law_226 rfl ?_
  refine lv_ldc2 hx hb hown (hts (.constantLong RL 22 (4294967295)) (lwAt_mem (i := 6219) rfl)) dL_law_227 ?_
  refine lv_land hx hb dL_law_230 ?_
  refine lv_lor hx hb dL_law_231 ?_
  refine lv_topl (fun y3 ey3 => ?_)
  obtain ⟨q1, hh1⟩ := hI.head
  refine lc_i (U := LM) (C := LX) (V := [(o0, .inl (ak 1, 1, .inr (.inl fo)))]) hP hD hS hA (va_runV (As := [.long y1, .long y2, .long y3]) (rest := []) ⟨hx, hb, hml, hown, hts⟩ (x_feed l D ak ad _ x0 v LX y1 y2 y3 hI) (cwV 3 hts hG_X7_feed rfl rfl rfl hv_X7_feed ⟨Nat.le_of_ble_eq_true rfl, Nat.le_of_ble_eq_true rfl⟩) (lc_preV (U := LM) (C := LX) (V := [(o0, .inl (ak 1, 1, .inr (.inl fo)))]) (As := [.long y1, .long y2, .long y3]) hE hT hP hD hS hA 0 6 rfl rfl hh1) rfl rfl hl.1 rfl (lv_room (Nat.le_of_ble_eq_true rfl)) dL_law_232 ⟨by omega, by omega⟩) (fun r1 LX H locs hR hP hD hS => ?_)
  obtain ⟨er1, hI⟩ := hR
  refine lv_pop hx hb dL_law_235 rfl ?_
  refine lv_aload_n hx hb dL_law_236 rfl (lv_at hl 2 rfl) ?_
  refine lv_aload_n hx hb dL_law_237 rfl (lv_at hl 4 rfl) ?_
  refine lv_iload hx hb dL_law_238 (lv_at hl 0 rfl) ?_
  refine lv_iconst (v := 1) hx hb dL_law_240 (by decide) ?_
  refine lv_iadd hx hb dL_law_241 ?_
  refine va_sld hx hb hX hbl hbA hS (lk_in (d := 1) hi hk hL (by decide)) dL_law_242 ?_
  refine lv_i2l hx hb dL_law_243 rfl ?_
  refine lv_bipush (v := 32) hx hb dL_law_244 (by decide) ?_
  refine lv_lshl hx hb dL_law_246 rfl ?_
  refine lv_aload_n hx hb dL_law_247 rfl (lv_at hl 4 rfl) ?_
  refine lv_iload hx hb dL_law_248 (lv_at hl 0 rfl) ?_
  refine lv_iconst (v := 2) hx hb dL_law_250 (by decide) ?_
  refine lv_iadd hx hb dL_law_251 ?_
  refine va_sld hx hb hX hbl hbA hS (lk_in (d := 2) hi hk hL (by decide)) dL_law_252 ?_
  refine lv_i2l hx hb dL_law_253 rfl ?_
  refine lv_ldc2 hx hb hown (hts (.constantLong RL 22 (4294967295)) (lwAt_mem (i := 6219) rfl)) dL_law_254 ?_
  refine lv_land hx hb dL_law_257 ?_
  refine lv_lor hx hb dL_law_258 ?_
  refine W.eq (g2 := F0 m 259 ls (.long y1 :: .ref m0 :: [])) (by rw [ey1]) ?_
  refine lv_aload_n hx hb dL_law_259 rfl (lv_at hl 4 rfl) ?_
  refine lv_iload hx hb dL_law_260 (lv_at hl 0 rfl) ?_
  refine lv_iconst (v := 3) hx hb dL_law_262 (by decide) ?_
  refine lv_iadd hx hb dL_law_263 ?_
  refine va_sld hx hb hX hbl hbA hS (lk_in (d := 3) hi hk hL (by decide)) dL_law_264 ?_
  refine lv_i2l hx hb dL_law_265 rfl ?_
  refine lv_bipush (v := 32) hx hb dL_law_266 (by decide) ?_
  refine lv_lshl hx hb dL_law_268 rfl ?_
  refine lv_aload_n hx hb dL_law_269 rfl (lv_at hl 4 rfl) ?_
  refine lv_iload hx hb dL_law_270 (lv_at hl 0 rfl) ?_
  refine lv_iconst (v := 4) hx hb dL_law_272 (by decide) ?_
  refine lv_iadd hx hb dL_law_273 ?_
  refine va_sld hx hb hX hbl hbA hS (lk_in (d := 4) hi hk hL (by decide)) dL_law_274 ?_
  refine lv_i2l hx hb dL_law_275 rfl ?_
  refine lv_ldc2 hx hb hown (hts (.constantLong RL 22 (4294967295)) (lwAt_mem (i := 6219) rfl)) dL_law_276 ?_
  refine lv_land hx hb dL_law_279 ?_
  refine lv_lor hx hb dL_law_280 ?_
  refine W.eq (g2 := F0 m 281 ls (.long y2 :: .long y1 :: .ref m0 :: [])) (by rw [ey2]) ?_
  refine lv_aload_n hx hb dL_law_281 rfl (lv_at hl 4 rfl) ?_
  refine lv_iload hx hb dL_law_282 (lv_at hl 0 rfl) ?_
  refine lv_iconst (v := 5) hx hb dL_law_284 (by decide) ?_
  refine lv_iadd hx hb dL_law_285 ?_
  refine va_sld hx hb hX hbl hbA hS (lk_in (d := 5) hi hk hL (by decide)) dL_law_286 ?_
  refine lv_i2l hx hb dL_law_287 rfl ?_
  refine lv_bipush (v := 32) hx hb dL_law_288 (by decide) ?_
  refine lv_lshl hx hb dL_law_290 rfl ?_
  refine lv_aload_n hx hb dL_law_291 rfl (lv_at hl 4 rfl) ?_
  refine lv_iload hx hb dL_law_292 (lv_at hl 0 rfl) ?_
  refine lv_bipush (v := 6) hx hb dL_law_294 (by decide) ?_
  refine lv_iadd hx hb dL_law_296 ?_
  refine va_sld hx hb hX hbl hbA hS (lk_in (d := 6) hi hk hL (by decide)) dL_law_297 ?_
  refine lv_i2l hx hb dL_law_298 rfl ?_
  refine lv_ldc2 hx hb hown (hts (.constantLong RL 22 (4294967295)) (lwAt_mem (i := 6219) rfl)) dL_law_299 ?_
  refine lv_land hx hb dL_law_302 ?_
  refine lv_lor hx hb dL_law_303 ?_
  refine W.eq (g2 := F0 m 304 ls (.long y3 :: .long y2 :: .long y1 :: .ref m0 :: [])) (by rw [ey3]) ?_
  obtain ⟨q2, hh2⟩ := hJ.head
  refine lc_i (U := []) (C := LM) (V := LX ++ [(o0, .inl (ak 1, 1, .inr (.inl fo)))]) hP hD hS hA (va_runV (As := [.long y1, .long y2, .long y3]) (rest := []) ⟨hx, hb, hml, hown, hts⟩ (m_feed l D ak ad _ m0 v LM y1 y2 y3 hJ) (cwV 3 hts hG_X8_feed rfl rfl rfl hv_X8_feed ⟨Nat.le_of_ble_eq_true rfl, Nat.le_of_ble_eq_true rfl⟩) (lc_preV (U := []) (C := LM) (V := LX ++ [(o0, .inl (ak 1, 1, .inr (.inl fo)))]) (As := [.long y1, .long y2, .long y3]) hE hT hP hD hS hA 0 7 rfl rfl hh2) rfl rfl hl.1 rfl (lv_room (Nat.le_of_ble_eq_true rfl)) dL_law_304 ⟨by omega, by omega⟩) (fun r2 LM H locs hR hP hD hS => ?_)
  obtain ⟨er2, hJ⟩ := hR
  have hP : va_P D vwCl (LM ++ (LX ++ [(o0, .inl (ak 1, 1, .inr (.inl fo)))])) H := hP
  have hD : va_D A (LM ++ (LX ++ [(o0, .inl (ak 1, 1, .inr (.inl fo)))])) := hD
  refine lv_pop hx hb dL_law_307 rfl ?_
  refine lv_goto (tgt := 1019) hx hb dL_law_308 (by decide) ?_
  refine W.widen (k := cells + 15) (n := slots + 1133) (by omega) (by omega) ?_
  exact kk _ LX LM fo H locs ls hI hJ hP hD hS (lv_sub hl [0, 1, 2, 3, 4] rfl)
