set_option maxHeartbeats 4000000 in
set_option maxRecDepth 100000 in
theorem x_stuff (l : Launch) (D : va_G) (ak : Nat → ClassId) (ad : Nat → Nat) (sz h7 : Nat) (v : VW) (L : va_W) (xs : Int32) (xw : Int32) (hI : IX ak ad h7 v L) : Met l yX7_stuff wsX7_stuff ({ frames := 1, cells := 0, slots := 0, locals := 21 }) (cPre D ak ad [.ref h7, .int (xs), .int (xw)] L sz) (cI D (S := va_W) (fun _ L1 => IX ak ad h7 v L1) (fun L1 => L1) L sz) 0 0 (va_A L sz) := by
  obtain ⟨xa, ta, ra, ma, wa, ga, sa, la, gq, mk, ka, M, tr, bm, sf, sn, so, lp, lu, lt, lk, lr, PL, rfl, hn, hO, hH, h0, h1, h2, h3, hV⟩ := hI
  obtain ⟨⟨pa, cl, ps, pe, pi_, pn, be, co, to_, gc, le, gr, ac, sq, tg, fr, mi, en, cd, hK, hPL⟩, hHC, hAS⟩ := id hH
  exact gx_stuff l D ak ad sz h7 xa ta ra ma wa ga sa la gq mk ka v.1.length M tr bm sf sn so lp lu lt lk lr PL pa cl ps pe pi_ pn be co to_ gc le gr ac sq tg fr mi en cd hPL xs xw _ (sp_X7_stuff hK.1 (fun r => ⟨xa, ta, ra, ma, wa, ga, sa, la, gq, mk, ka, M, tr, bm, sf, sn, so, lp, lu, lt, lk, lr, PL, rfl, hn, hO, hH, h0, h1, h2, h3, hV⟩))

set_option maxHeartbeats 4000000 in
set_option maxRecDepth 100000 in
theorem x_line (l : Launch) (D : va_G) (ak : Nat → ClassId) (ad : Nat → Nat) (sz h7 : Nat) (v : VW) (L : va_W) (xl : Int32) (xw : Int32) (hI : IX ak ad h7 v L) : Met l yX7_line wsX7_line ({ frames := 1, cells := 0, slots := 0, locals := 21 }) (cPre D ak ad [.ref h7, .int (xl), .int (xw)] L sz) (cI D (S := va_W) (fun _ L1 => IX ak ad h7 v L1) (fun L1 => L1) L sz) 0 0 (va_A L sz) := by
  obtain ⟨xa, ta, ra, ma, wa, ga, sa, la, gq, mk, ka, M, tr, bm, sf, sn, so, lp, lu, lt, lk, lr, PL, rfl, hn, hO, hH, h0, h1, h2, h3, hV⟩ := hI
  obtain ⟨⟨pa, cl, ps, pe, pi_, pn, be, co, to_, gc, le, gr, ac, sq, tg, fr, mi, en, cd, hK, hPL⟩, hHC, hAS⟩ := id hH
  exact gx_line l D ak ad sz h7 xa ta ra ma wa ga sa la gq mk ka v.1.length M tr bm sf sn so lp lu lt lk lr PL pa cl ps pe pi_ pn be co to_ gc le gr ac sq tg fr mi en cd hPL xl xw _ (sp_X7_line hK.2.2.2.1 hAS (fun r => ⟨xa, ta, ra, ma, wa, ga, sa, la, gq, mk, ka, M, tr, bm, sf, sn, so, lp, lu, lt, lk, lr, PL, rfl, hn, hO, hH, h0, h1, h2, h3, hV⟩))

set_option maxHeartbeats 4000000 in
set_option maxRecDepth 100000 in
theorem x_lay (l : Launch) (D : va_G) (ak : Nat → ClassId) (ad : Nat → Nat) (sz h7 : Nat) (v : VW) (L : va_W) (xl : Int32) (xs : Int32) (xt : Int32) (hI : IX ak ad h7 v L) : Met l yX7_lay wsX7_lay ({ frames := 1, cells := 0, slots := 0, locals := 21 }) (cPre D ak ad [.ref h7, .int (xl), .int (xs), .int (xt)] L sz) (cI D (S := va_W) (fun _ L1 => IX ak ad h7 v L1) (fun L1 => L1) L sz) 0 0 (va_A L sz) := by
  obtain ⟨xa, ta, ra, ma, wa, ga, sa, la, gq, mk, ka, M, tr, bm, sf, sn, so, lp, lu, lt, lk, lr, PL, rfl, hn, hO, hH, h0, h1, h2, h3, hV⟩ := hI
  obtain ⟨⟨pa, cl, ps, pe, pi_, pn, be, co, to_, gc, le, gr, ac, sq, tg, fr, mi, en, cd, hK, hPL⟩, hHC, hAS⟩ := id hH
  exact gx_lay l D ak ad sz h7 xa ta ra ma wa ga sa la gq mk ka v.1.length M tr bm sf sn so lp lu lt lk lr PL pa cl ps pe pi_ pn be co to_ gc le gr ac sq tg fr mi en cd hPL xl xs xt _ (sp_X7_lay hK.1 hK.2.2.2.1 hAS (fun r y0 y1 y2 hs => ⟨xa, ta, ra, ma, wa, ga, sa, la, gq, mk, ka, upM M 0 ((M 0).1, mi5 ((M 0).2.1 0) ((M 0).2.1 1) ((M 0).2.1 2) ((M 0).2.1 3) ((M 0).2.1 4), ma6 y0 y1 y2 ((M 0).2.2 3) ((M 0).2.2 4) ((M 0).2.2 5)), tr, bm, sf, sn, so, lp, lu, lt, lk, lr, PL, rfl, hn, hO, ⟨hH.1, hHC, hs⟩, h0, h1, h2, h3, hV⟩))

set_option maxHeartbeats 4000000 in
set_option maxRecDepth 100000 in
theorem x_cost (l : Launch) (D : va_G) (ak : Nat → ClassId) (ad : Nat → Nat) (sz h7 : Nat) (v : VW) (L : va_W)  (hI : IX ak ad h7 v L) : Met l yX7_cost wsX7_cost ({ frames := 0, cells := 0, slots := 0, locals := 0 }) (cPre D ak ad [.ref h7] L sz) (cI D (S := va_W) (fun _ L1 => IX ak ad h7 v L1) (fun L1 => L1) L sz) 0 0 (va_A L sz) := by
  obtain ⟨xa, ta, ra, ma, wa, ga, sa, la, gq, mk, ka, M, tr, bm, sf, sn, so, lp, lu, lt, lk, lr, PL, rfl, hn, hO, hH, h0, h1, h2, h3, hV⟩ := hI
  obtain ⟨⟨pa, cl, ps, pe, pi_, pn, be, co, to_, gc, le, gr, ac, sq, tg, fr, mi, en, cd, hK, hPL⟩, hHC, hAS⟩ := id hH
  exact gx_cost l D ak ad sz h7 xa ta ra ma wa ga sa la gq mk ka v.1.length M tr bm sf sn so lp lu lt lk lr PL pa cl ps pe pi_ pn be co to_ gc le gr ac sq tg fr mi en cd hPL  _ (sp_X7_cost hK.2.2.2.1 hAS (fun r => ⟨xa, ta, ra, ma, wa, ga, sa, la, gq, mk, ka, M, tr, bm, sf, sn, so, lp, lu, lt, lk, lr, PL, rfl, hn, hO, hH, h0, h1, h2, h3, hV⟩))

set_option maxHeartbeats 4000000 in
set_option maxRecDepth 100000 in
theorem x_inputs (l : Launch) (D : va_G) (ak : Nat → ClassId) (ad : Nat → Nat) (sz h7 : Nat) (v : VW) (L : va_W)  (hI : IX ak ad h7 v L) : Met l yX7_inputs wsX7_inputs ({ frames := 3, cells := 0, slots := 0, locals := 56 }) (cPre D ak ad [.ref h7] L sz) (cI D (S := va_W) (fun _ L1 => IX ak ad h7 v L1) (fun L1 => L1) L sz) 0 0 (va_A L sz) := by
  obtain ⟨xa, ta, ra, ma, wa, ga, sa, la, gq, mk, ka, M, tr, bm, sf, sn, so, lp, lu, lt, lk, lr, PL, rfl, hn, hO, hH, h0, h1, h2, h3, hV⟩ := hI
  obtain ⟨⟨pa, cl, ps, pe, pi_, pn, be, co, to_, gc, le, gr, ac, sq, tg, fr, mi, en, cd, hK, hPL⟩, hHC, hAS⟩ := id hH
  exact gx_inputs l D ak ad sz h7 xa ta ra ma wa ga sa la gq mk ka v.1.length M tr bm sf sn so lp lu lt lk lr PL pa cl ps pe pi_ pn be co to_ gc le gr ac sq tg fr mi en cd hPL  _ (sp_X7_inputs hK.2.2.1 (fun r => ⟨xa, ta, ra, ma, wa, ga, sa, la, gq, mk, ka, M, tr, bm, sf, sn, so, lp, lu, lt, lk, lr, PL, rfl, hn, hO, hH, h0, h1, h2, h3, hV⟩))

set_option maxHeartbeats 4000000 in
set_option maxRecDepth 100000 in
theorem x_input (l : Launch) (D : va_G) (ak : Nat → ClassId) (ad : Nat → Nat) (sz h7 : Nat) (v : VW) (L : va_W) (xi : Int32) (xc : Int32) (hI : IX ak ad h7 v L) : Met l yX7_input wsX7_input ({ frames := 3, cells := 0, slots := 0, locals := 60 }) (cPre D ak ad [.ref h7, .int (xi), .int (xc)] L sz) (cI D (S := va_W) (fun _ L1 => IX ak ad h7 v L1) (fun L1 => L1) L sz) 0 0 (va_A L sz) := by
  obtain ⟨xa, ta, ra, ma, wa, ga, sa, la, gq, mk, ka, M, tr, bm, sf, sn, so, lp, lu, lt, lk, lr, PL, rfl, hn, hO, hH, h0, h1, h2, h3, hV⟩ := hI
  obtain ⟨⟨pa, cl, ps, pe, pi_, pn, be, co, to_, gc, le, gr, ac, sq, tg, fr, mi, en, cd, hK, hPL⟩, hHC, hAS⟩ := id hH
  exact gx_input l D ak ad sz h7 xa ta ra ma wa ga sa la gq mk ka v.1.length M tr bm sf sn so lp lu lt lk lr PL pa cl ps pe pi_ pn be co to_ gc le gr ac sq tg fr mi en cd hPL xi xc _ (sp_X7_input hK.2.1 hK.2.2.1 (fun r => ⟨xa, ta, ra, ma, wa, ga, sa, la, gq, mk, ka, M, tr, bm, sf, sn, so, lp, lu, lt, lk, lr, PL, rfl, hn, hO, hH, h0, h1, h2, h3, hV⟩))

set_option maxHeartbeats 4000000 in
set_option maxRecDepth 100000 in
theorem x_begin (l : Launch) (D : va_G) (ak : Nat → ClassId) (ad : Nat → Nat) (sz h7 : Nat) (v : VW) (L : va_W) (xi : Int32) (hI : IX ak ad h7 v L) : Met l yX7_begin wsX7_begin ({ frames := 4, cells := 0, slots := 0, locals := 82 }) (cPre D ak ad [.ref h7, .int (xi)] L sz) (cI D (S := va_W) (fun _ L1 => IX ak ad h7 v L1) (fun L1 => L1) L sz) 0 0 (va_A L sz) := by
  obtain ⟨xa, ta, ra, ma, wa, ga, sa, la, gq, mk, ka, M, tr, bm, sf, sn, so, lp, lu, lt, lk, lr, PL, rfl, hn, hO, hH, h0, h1, h2, h3, hV⟩ := hI
  obtain ⟨⟨pa, cl, ps, pe, pi_, pn, be, co, to_, gc, le, gr, ac, sq, tg, fr, mi, en, cd, hK, hPL⟩, hHC, hAS⟩ := id hH
  exact gx_begin l D ak ad sz h7 xa ta ra ma wa ga sa la gq mk ka v.1.length M tr bm sf sn so lp lu lt lk lr PL pa cl ps pe pi_ pn be co to_ gc le gr ac sq tg fr mi en cd hPL xi _ (sp_X7_begin hK.2.1 hK.2.2.1 hHC (fun r y0 y1 y2 y3 y4 hc => ⟨xa, ta, ra, ma, wa, ga, sa, la, gq, mk, ka, upM M 0 ((M 0).1, mi5 ((M 0).2.1 0) y0 y1 y2 y3, ma6 ((M 0).2.2 0) ((M 0).2.2 1) ((M 0).2.2 2) y4 ((M 0).2.2 4) ((M 0).2.2 5)), tr, bm, sf, sn, so, lp, lu, lt, lk, lr, PL, rfl, hn, hO, ⟨hH.1, hc, hAS⟩, h0, h1, h2, h3, hV⟩))

set_option maxHeartbeats 4000000 in
set_option maxRecDepth 100000 in
theorem x_state (l : Launch) (D : va_G) (ak : Nat → ClassId) (ad : Nat → Nat) (sz h7 : Nat) (v : VW) (L : va_W) (xw : Int32) (hI : IX ak ad h7 v L) : Met l yX7_state wsX7_state ({ frames := 0, cells := 0, slots := 0, locals := 0 }) (cPre D ak ad [.ref h7, .int (xw)] L sz) (cI D (S := va_W) (fun _ L1 => IX ak ad h7 v L1) (fun L1 => L1) L sz) 0 0 (va_A L sz) := by
  obtain ⟨xa, ta, ra, ma, wa, ga, sa, la, gq, mk, ka, M, tr, bm, sf, sn, so, lp, lu, lt, lk, lr, PL, rfl, hn, hO, hH, h0, h1, h2, h3, hV⟩ := hI
  obtain ⟨⟨pa, cl, ps, pe, pi_, pn, be, co, to_, gc, le, gr, ac, sq, tg, fr, mi, en, cd, hK, hPL⟩, hHC, hAS⟩ := id hH
  exact gx_state l D ak ad sz h7 xa ta ra ma wa ga sa la gq mk ka v.1.length M tr bm sf sn so lp lu lt lk lr PL xw _ (sp_X7_state (fun r => ⟨xa, ta, ra, ma, wa, ga, sa, la, gq, mk, ka, M, tr, bm, sf, sn, so, lp, lu, lt, lk, lr, PL, rfl, hn, hO, hH, h0, h1, h2, h3, hV⟩))

set_option maxHeartbeats 4000000 in
set_option maxRecDepth 100000 in
theorem x_fresh (l : Launch) (D : va_G) (ak : Nat → ClassId) (ad : Nat → Nat) (sz h7 : Nat) (v : VW) (L : va_W)  (hI : IX ak ad h7 v L) : Met l yX7_fresh wsX7_fresh ({ frames := 1, cells := 0, slots := 0, locals := 23 }) (cPre D ak ad [.ref h7] L sz) (cI D (S := va_W) (fun r L1 => r = 1 ∧ IX ak ad h7 v L1) (fun L1 => L1) L sz) 0 0 (va_A L sz) := by
  obtain ⟨xa, ta, ra, ma, wa, ga, sa, la, gq, mk, ka, M, tr, bm, sf, sn, so, lp, lu, lt, lk, lr, PL, rfl, hn, hO, hH, h0, h1, h2, h3, hV⟩ := hI
  obtain ⟨⟨pa, cl, ps, pe, pi_, pn, be, co, to_, gc, le, gr, ac, sq, tg, fr, mi, en, cd, hK, hPL⟩, hHC, hAS⟩ := id hH
  exact gx_fresh l D ak ad sz h7 xa ta ra ma wa ga sa la gq mk ka v.1.length M tr bm sf sn so lp lu lt lk lr PL  _ (sp_X7_fresh (fun y0 => ⟨rfl, ⟨xa, ta, ra, ma, wa, ga, sa, la, gq, mk, ka, upM M 0 ((M 0).1, mi5 ((M 0).2.1 0) ((M 0).2.1 1) ((M 0).2.1 2) ((M 0).2.1 3) ((M 0).2.1 4), ma6 ((M 0).2.2 0) ((M 0).2.2 1) y0 ((M 0).2.2 3) ((M 0).2.2 4) ((M 0).2.2 5)), tr, bm, sf, sn, so, lp, lu, lt, lk, lr, PL, rfl, hn, hO, hH, h0, h1, h2, h3, hV⟩⟩))

set_option maxHeartbeats 4000000 in
set_option maxRecDepth 100000 in
theorem x_count (l : Launch) (D : va_G) (ak : Nat → ClassId) (ad : Nat → Nat) (sz h7 : Nat) (v : VW) (L : va_W) (xw : Int32) (hI : IX ak ad h7 v L) : Met l yX7_count wsX7_count ({ frames := 0, cells := 0, slots := 0, locals := 0 }) (cPre D ak ad [.ref h7, .int (xw)] L sz) (cI D (S := va_W) (fun _ L1 => IX ak ad h7 v L1) (fun L1 => L1) L sz) 0 0 (va_A L sz) := by
  obtain ⟨xa, ta, ra, ma, wa, ga, sa, la, gq, mk, ka, M, tr, bm, sf, sn, so, lp, lu, lt, lk, lr, PL, rfl, hn, hO, hH, h0, h1, h2, h3, hV⟩ := hI
  obtain ⟨⟨pa, cl, ps, pe, pi_, pn, be, co, to_, gc, le, gr, ac, sq, tg, fr, mi, en, cd, hK, hPL⟩, hHC, hAS⟩ := id hH
  exact gx_count l D ak ad sz h7 xa ta ra ma wa ga sa la gq mk ka v.1.length M tr bm sf sn so lp lu lt lk lr PL pa cl ps pe pi_ pn be co to_ gc le gr ac sq tg fr mi en cd hPL xw _ (sp_X7_count (fun r => ⟨xa, ta, ra, ma, wa, ga, sa, la, gq, mk, ka, M, tr, bm, sf, sn, so, lp, lu, lt, lk, lr, PL, rfl, hn, hO, hH, h0, h1, h2, h3, hV⟩))

set_option maxHeartbeats 4000000 in
set_option maxRecDepth 100000 in
theorem x_run (l : Launch) (D : va_G) (ak : Nat → ClassId) (ad : Nat → Nat) (sz h7 : Nat) (v : VW) (L : va_W) (xs : Int32) (hI : IX ak ad h7 v L) : Met l yX7_run wsX7_run ({ frames := 5, cells := 0, slots := 0, locals := 115 }) (cPre D ak ad [.ref h7, .int (xs)] L sz) (cI D (S := va_W) (fun _ L1 => IX ak ad h7 v L1) (fun L1 => L1) L sz) 0 0 (va_A L sz) := by
  obtain ⟨xa, ta, ra, ma, wa, ga, sa, la, gq, mk, ka, M, tr, bm, sf, sn, so, lp, lu, lt, lk, lr, PL, rfl, hn, hO, hH, h0, h1, h2, h3, hV⟩ := hI
  obtain ⟨⟨pa, cl, ps, pe, pi_, pn, be, co, to_, gc, le, gr, ac, sq, tg, fr, mi, en, cd, hK, hPL⟩, hHC, hAS⟩ := id hH
  exact gx_run l D ak ad sz h7 xa ta ra ma wa ga sa la gq mk ka v.1.length M tr bm sf sn so lp lu lt lk lr PL pa cl ps pe pi_ pn be co to_ gc le gr ac sq tg fr mi en cd hPL xs _ (sp_X7_run hK.pj hAS hHC (fun r y0 y1 y2 y3 y4 y5 y6 y7 hc => ⟨xa, ta, ra, ma, wa, ga, sa, la, gq, mk, ka, upM M 0 ((M 0).1, mi5 ((M 0).2.1 0) y0 y1 y2 y3, ma6 ((M 0).2.2 0) ((M 0).2.2 1) y4 y5 y6 y7), tr, bm, sf, sn, so, lp, lu, lt, lk, lr, PL, rfl, hn, hO, ⟨hH.1, hc, hAS⟩, h0, h1, h2, h3, hV⟩))

set_option maxHeartbeats 4000000 in
set_option maxRecDepth 100000 in
theorem x_steps (l : Launch) (D : va_G) (ak : Nat → ClassId) (ad : Nat → Nat) (sz h7 : Nat) (v : VW) (L : va_W) (xi : Int32) (hI : IX ak ad h7 v L) : Met l yX7_steps wsX7_steps ({ frames := 6, cells := 0, slots := 0, locals := 138 }) (cPre D ak ad [.ref h7, .int (xi)] L sz) (cI D (S := va_W) (fun _ L1 => IX ak ad h7 v L1) (fun L1 => L1) L sz) 0 0 (va_A L sz) := by
  obtain ⟨xa, ta, ra, ma, wa, ga, sa, la, gq, mk, ka, M, tr, bm, sf, sn, so, lp, lu, lt, lk, lr, PL, rfl, hn, hO, hH, h0, h1, h2, h3, hV⟩ := hI
  obtain ⟨⟨pa, cl, ps, pe, pi_, pn, be, co, to_, gc, le, gr, ac, sq, tg, fr, mi, en, cd, hK, hPL⟩, hHC, hAS⟩ := id hH
  exact gx_steps l D ak ad sz h7 xa ta ra ma wa ga sa la gq mk ka v.1.length M tr bm sf sn so lp lu lt lk lr PL pa cl ps pe pi_ pn be co to_ gc le gr ac sq tg fr mi en cd hPL xi _ (sp_X7_steps hK.pj hAS (fun r y0 y1 y2 y3 y4 y5 y6 y7 y8 y9 y10 y11 => ⟨xa, ta, ra, ma, wa, ga, sa, la, gq, mk, ka, upM M 1 (y0, mi5 y1 y2 y3 y4 y5, ma6 y6 y7 y8 y9 y10 y11), tr, bm, sf, sn, so, lp, lu, lt, lk, lr, PL, rfl, hn, hO, hH, h0, h1, h2, h3, hV⟩))

set_option maxHeartbeats 4000000 in
set_option maxRecDepth 100000 in
theorem x_falls (l : Launch) (D : va_G) (ak : Nat → ClassId) (ad : Nat → Nat) (sz h7 : Nat) (v : VW) (L : va_W) (xi : Int32) (hI : IX ak ad h7 v L) : Met l yX7_falls wsX7_falls ({ frames := 6, cells := 0, slots := 0, locals := 138 }) (cPre D ak ad [.ref h7, .int (xi)] L sz) (cI D (S := va_W) (fun _ L1 => IX ak ad h7 v L1) (fun L1 => L1) L sz) 0 0 (va_A L sz) := by
  obtain ⟨xa, ta, ra, ma, wa, ga, sa, la, gq, mk, ka, M, tr, bm, sf, sn, so, lp, lu, lt, lk, lr, PL, rfl, hn, hO, hH, h0, h1, h2, h3, hV⟩ := hI
  obtain ⟨⟨pa, cl, ps, pe, pi_, pn, be, co, to_, gc, le, gr, ac, sq, tg, fr, mi, en, cd, hK, hPL⟩, hHC, hAS⟩ := id hH
  exact gx_falls l D ak ad sz h7 xa ta ra ma wa ga sa la gq mk ka v.1.length M tr bm sf sn so lp lu lt lk lr PL pa cl ps pe pi_ pn be co to_ gc le gr ac sq tg fr mi en cd hPL xi _ (sp_X7_falls hK.pj hAS (fun r y0 y1 y2 y3 y4 y5 y6 y7 y8 y9 y10 y11 => ⟨xa, ta, ra, ma, wa, ga, sa, la, gq, mk, ka, upM M 1 (y0, mi5 y1 y2 y3 y4 y5, ma6 y6 y7 y8 y9 y10 y11), tr, bm, sf, sn, so, lp, lu, lt, lk, lr, PL, rfl, hn, hO, hH, h0, h1, h2, h3, hV⟩))

set_option maxHeartbeats 4000000 in
set_option maxRecDepth 100000 in
theorem x_first (l : Launch) (D : va_G) (ak : Nat → ClassId) (ad : Nat → Nat) (sz h7 : Nat) (v : VW) (L : va_W) (xw : Int32) (hI : IX ak ad h7 v L) : Met l yX7_first wsX7_first ({ frames := 7, cells := 0, slots := 0, locals := 162 }) (cPre D ak ad [.ref h7, .int (xw)] L sz) (cI D (S := va_W) (fun _ L1 => IX ak ad h7 v L1) (fun L1 => L1) L sz) 0 0 (va_A L sz) := by
  obtain ⟨xa, ta, ra, ma, wa, ga, sa, la, gq, mk, ka, M, tr, bm, sf, sn, so, lp, lu, lt, lk, lr, PL, rfl, hn, hO, hH, h0, h1, h2, h3, hV⟩ := hI
  obtain ⟨⟨pa, cl, ps, pe, pi_, pn, be, co, to_, gc, le, gr, ac, sq, tg, fr, mi, en, cd, hK, hPL⟩, hHC, hAS⟩ := id hH
  exact gx_first l D ak ad sz h7 xa ta ra ma wa ga sa la gq mk ka v.1.length M tr bm sf sn so lp lu lt lk lr PL pa cl ps pe pi_ pn be co to_ gc le gr ac sq tg fr mi en cd hPL xw _ (sp_X7_first hK.pj hAS (fun r y0 y1 y2 y3 y4 y5 y6 y7 y8 y9 y10 y11 => ⟨xa, ta, ra, ma, wa, ga, sa, la, gq, mk, ka, upM M 1 (y0, mi5 y1 y2 y3 y4 y5, ma6 y6 y7 y8 y9 y10 y11), tr, bm, sf, sn, so, lp, lu, lt, lk, lr, PL, rfl, hn, hO, hH, h0, h1, h2, h3, hV⟩))

set_option maxHeartbeats 4000000 in
set_option maxRecDepth 100000 in
theorem x_rounds (l : Launch) (D : va_G) (ak : Nat → ClassId) (ad : Nat → Nat) (sz h7 : Nat) (v : VW) (L : va_W) (xi : Int32) (hI : IX ak ad h7 v L) : Met l yX7_rounds wsX7_rounds ({ frames := 5, cells := 0, slots := 0, locals := 115 }) (cPre D ak ad [.ref h7, .int (xi)] L sz) (cI D (S := va_W) (fun _ L1 => IX ak ad h7 v L1) (fun L1 => L1) L sz) 0 0 (va_A L sz) := by
  obtain ⟨xa, ta, ra, ma, wa, ga, sa, la, gq, mk, ka, M, tr, bm, sf, sn, so, lp, lu, lt, lk, lr, PL, rfl, hn, hO, hH, h0, h1, h2, h3, hV⟩ := hI
  obtain ⟨⟨pa, cl, ps, pe, pi_, pn, be, co, to_, gc, le, gr, ac, sq, tg, fr, mi, en, cd, hK, hPL⟩, hHC, hAS⟩ := id hH
  exact gx_rounds l D ak ad sz h7 xa ta ra ma wa ga sa la gq mk ka v.1.length M tr bm sf sn so lp lu lt lk lr PL pa cl ps pe pi_ pn be co to_ gc le gr ac sq tg fr mi en cd hPL xi _ (sp_X7_rounds hK.pj hAS (fun r y0 y1 y2 y3 y4 y5 y6 y7 y8 y9 y10 y11 => ⟨xa, ta, ra, ma, wa, ga, sa, la, gq, mk, ka, upM M 1 (y0, mi5 y1 y2 y3 y4 y5, ma6 y6 y7 y8 y9 y10 y11), tr, bm, sf, sn, so, lp, lu, lt, lk, lr, PL, rfl, hn, hO, hH, h0, h1, h2, h3, hV⟩))

set_option maxHeartbeats 4000000 in
set_option maxRecDepth 100000 in
theorem x_better (l : Launch) (D : va_G) (ak : Nat → ClassId) (ad : Nat → Nat) (sz h7 : Nat) (v : VW) (L : va_W) (xw : Int32) (hI : IX ak ad h7 v L) : Met l yX7_better wsX7_better ({ frames := 6, cells := 0, slots := 0, locals := 136 }) (cPre D ak ad [.ref h7, .int (xw)] L sz) (cI D (S := va_W) (fun _ L1 => IX ak ad h7 v L1) (fun L1 => L1) L sz) 0 0 (va_A L sz) := by
  obtain ⟨xa, ta, ra, ma, wa, ga, sa, la, gq, mk, ka, M, tr, bm, sf, sn, so, lp, lu, lt, lk, lr, PL, rfl, hn, hO, hH, h0, h1, h2, h3, hV⟩ := hI
  obtain ⟨⟨pa, cl, ps, pe, pi_, pn, be, co, to_, gc, le, gr, ac, sq, tg, fr, mi, en, cd, hK, hPL⟩, hHC, hAS⟩ := id hH
  exact gx_better l D ak ad sz h7 xa ta ra ma wa ga sa la gq mk ka v.1.length M tr bm sf sn so lp lu lt lk lr PL pa cl ps pe pi_ pn be co to_ gc le gr ac sq tg fr mi en cd hPL xw _ (sp_X7_better hK.pj hAS hHC (fun r y0 y1 y2 y3 y4 y5 y6 y7 y8 y9 y10 y11 => ⟨xa, ta, ra, ma, wa, ga, sa, la, gq, mk, ka, upM M 1 (y0, mi5 y1 y2 y3 y4 y5, ma6 y6 y7 y8 y9 y10 y11), tr, bm, sf, sn, so, lp, lu, lt, lk, lr, PL, rfl, hn, hO, hH, h0, h1, h2, h3, hV⟩))

set_option maxHeartbeats 4000000 in
set_option maxRecDepth 100000 in
theorem x_apart (l : Launch) (D : va_G) (ak : Nat → ClassId) (ad : Nat → Nat) (sz h7 : Nat) (v : VW) (L : va_W)  (hI : IX ak ad h7 v L) : Met l yX7_apart wsX7_apart ({ frames := 6, cells := 0, slots := 0, locals := 138 }) (cPre D ak ad [.ref h7] L sz) (cI D (S := va_W) (fun _ L1 => IX ak ad h7 v L1) (fun L1 => L1) L sz) 0 0 (va_A L sz) := by
  obtain ⟨xa, ta, ra, ma, wa, ga, sa, la, gq, mk, ka, M, tr, bm, sf, sn, so, lp, lu, lt, lk, lr, PL, rfl, hn, hO, hH, h0, h1, h2, h3, hV⟩ := hI
  obtain ⟨⟨pa, cl, ps, pe, pi_, pn, be, co, to_, gc, le, gr, ac, sq, tg, fr, mi, en, cd, hK, hPL⟩, hHC, hAS⟩ := id hH
  exact gx_apart l D ak ad sz h7 xa ta ra ma wa ga sa la gq mk ka v.1.length M tr bm sf sn so lp lu lt lk lr PL pa cl ps pe pi_ pn be co to_ gc le gr ac sq tg fr mi en cd hPL  _ (sp_X7_apart hK.pj hAS (fun r y0 y1 y2 y3 y4 y5 y6 y7 y8 y9 y10 y11 y12 y13 y14 y15 y16 y17 y18 y19 y20 y21 y22 y23 => ⟨xa, ta, ra, ma, wa, ga, sa, la, gq, mk, ka, upM (upM M 1 (y0, mi5 y1 y2 y3 y4 y5, ma6 y6 y7 y8 y9 y10 y11)) 2 (y12, mi5 y13 y14 y15 y16 y17, ma6 y18 y19 y20 y21 y22 y23), tr, bm, sf, sn, so, lp, lu, lt, lk, lr, PL, rfl, hn, hO, hH, h0, h1, h2, h3, hV⟩))

set_option maxHeartbeats 4000000 in
set_option maxRecDepth 100000 in
theorem x_most (l : Launch) (D : va_G) (ak : Nat → ClassId) (ad : Nat → Nat) (sz h7 : Nat) (v : VW) (L : va_W) (xl : Int32) (xw : Int32) (hI : IX ak ad h7 v L) : Met l yX7_most wsX7_most ({ frames := 6, cells := 0, slots := 0, locals := 138 }) (cPre D ak ad [.ref h7, .int (xl), .int (xw)] L sz) (cI D (S := va_W) (fun _ L1 => IX ak ad h7 v L1) (fun L1 => L1) L sz) 0 0 (va_A L sz) := by
  obtain ⟨xa, ta, ra, ma, wa, ga, sa, la, gq, mk, ka, M, tr, bm, sf, sn, so, lp, lu, lt, lk, lr, PL, rfl, hn, hO, hH, h0, h1, h2, h3, hV⟩ := hI
  obtain ⟨⟨pa, cl, ps, pe, pi_, pn, be, co, to_, gc, le, gr, ac, sq, tg, fr, mi, en, cd, hK, hPL⟩, hHC, hAS⟩ := id hH
  exact gx_most l D ak ad sz h7 xa ta ra ma wa ga sa la gq mk ka v.1.length M tr bm sf sn so lp lu lt lk lr PL pa cl ps pe pi_ pn be co to_ gc le gr ac sq tg fr mi en cd hPL xl xw _ (sp_X7_most hK.1 hK.pj hAS hO (fun r y0 y1 y2 y3 y4 y5 y6 y7 y8 y9 y10 y11 y12 y13 y14 y15 y16 y17 y18 y19 y20 y21 y22 hO2 => ⟨xa, ta, ra, ma, wa, ga, sa, la, gq, mk, ka, upM M 1 (y0, mi5 y1 y2 y3 y4 y5, ma6 y6 y7 y8 y9 y10 y11), tr, bm, y12, y13, ma4 y14 y15 y16 y17, y18, y19, y20, y21, y22, PL, rfl, hn, hO2, hH, h0, h1, h2, h3, hV⟩))

set_option maxHeartbeats 4000000 in
set_option maxRecDepth 100000 in
theorem x_never (l : Launch) (D : va_G) (ak : Nat → ClassId) (ad : Nat → Nat) (sz h7 : Nat) (v : VW) (L : va_W)  (hI : IX ak ad h7 v L) : Met l yX7_never wsX7_never ({ frames := 6, cells := 0, slots := 0, locals := 138 }) (cPre D ak ad [.ref h7] L sz) (cI D (S := va_W) (fun _ L1 => IX ak ad h7 v L1) (fun L1 => L1) L sz) 0 0 (va_A L sz) := by
  obtain ⟨xa, ta, ra, ma, wa, ga, sa, la, gq, mk, ka, M, tr, bm, sf, sn, so, lp, lu, lt, lk, lr, PL, rfl, hn, hO, hH, h0, h1, h2, h3, hV⟩ := hI
  obtain ⟨⟨pa, cl, ps, pe, pi_, pn, be, co, to_, gc, le, gr, ac, sq, tg, fr, mi, en, cd, hK, hPL⟩, hHC, hAS⟩ := id hH
  exact gx_never l D ak ad sz h7 xa ta ra ma wa ga sa la gq mk ka v.1.length M tr bm sf sn so lp lu lt lk lr PL pa cl ps pe pi_ pn be co to_ gc le gr ac sq tg fr mi en cd hPL  _ (sp_X7_never hK.1 hK.pj hAS hO (fun r y0 y1 y2 y3 y4 y5 y6 y7 y8 y9 y10 y11 y12 y13 y14 y15 y16 y17 y18 y19 y20 y21 y22 hO2 => ⟨xa, ta, ra, ma, wa, ga, sa, la, gq, mk, ka, upM M 1 (y0, mi5 y1 y2 y3 y4 y5, ma6 y6 y7 y8 y9 y10 y11), tr, bm, y12, y13, ma4 y14 y15 y16 y17, y18, y19, y20, y21, y22, PL, rfl, hn, hO2, hH, h0, h1, h2, h3, hV⟩))

set_option maxHeartbeats 4000000 in
set_option maxRecDepth 100000 in
theorem x_lasting (l : Launch) (D : va_G) (ak : Nat → ClassId) (ad : Nat → Nat) (sz h7 : Nat) (v : VW) (L : va_W) (xr : Int32) (hI : IX ak ad h7 v L) : Met l yX7_lasting wsX7_lasting ({ frames := 7, cells := 0, slots := 0, locals := 159 }) (cPre D ak ad [.ref h7, .int (xr)] L sz) (cI D (S := va_W) (fun _ L1 => IX ak ad h7 v L1) (fun L1 => L1) L sz) 0 0 (va_A L sz) := by
  obtain ⟨xa, ta, ra, ma, wa, ga, sa, la, gq, mk, ka, M, tr, bm, sf, sn, so, lp, lu, lt, lk, lr, PL, rfl, hn, hO, hH, h0, h1, h2, h3, hV⟩ := hI
  obtain ⟨⟨pa, cl, ps, pe, pi_, pn, be, co, to_, gc, le, gr, ac, sq, tg, fr, mi, en, cd, hK, hPL⟩, hHC, hAS⟩ := id hH
  exact gx_lasting l D ak ad sz h7 xa ta ra ma wa ga sa la gq mk ka v.1.length M tr bm sf sn so lp lu lt lk lr PL pa cl ps pe pi_ pn be co to_ gc le gr ac sq tg fr mi en cd hPL xr _ (sp_X7_lasting hK.1 hK.pj hAS hO (fun r y0 y1 y2 y3 y4 y5 y6 y7 y8 y9 y10 y11 y12 y13 y14 y15 y16 y17 y18 y19 y20 y21 y22 hO2 => ⟨xa, ta, ra, ma, wa, ga, sa, la, gq, mk, ka, upM M 1 (y0, mi5 y1 y2 y3 y4 y5, ma6 y6 y7 y8 y9 y10 y11), tr, bm, y12, y13, ma4 y14 y15 y16 y17, y18, y19, y20, y21, y22, PL, rfl, hn, hO2, hH, h0, h1, h2, h3, hV⟩))

set_option maxHeartbeats 4000000 in
set_option maxRecDepth 100000 in
theorem x_lasts (l : Launch) (D : va_G) (ak : Nat → ClassId) (ad : Nat → Nat) (sz h7 : Nat) (v : VW) (L : va_W) (xr : Int32) (xl : Int32) (xw : Int32) (hI : IX ak ad h7 v L) : Met l yX7_lasts wsX7_lasts ({ frames := 7, cells := 0, slots := 0, locals := 159 }) (cPre D ak ad [.ref h7, .int (xr), .int (xl), .int (xw)] L sz) (cI D (S := va_W) (fun _ L1 => IX ak ad h7 v L1) (fun L1 => L1) L sz) 0 0 (va_A L sz) := by
  obtain ⟨xa, ta, ra, ma, wa, ga, sa, la, gq, mk, ka, M, tr, bm, sf, sn, so, lp, lu, lt, lk, lr, PL, rfl, hn, hO, hH, h0, h1, h2, h3, hV⟩ := hI
  obtain ⟨⟨pa, cl, ps, pe, pi_, pn, be, co, to_, gc, le, gr, ac, sq, tg, fr, mi, en, cd, hK, hPL⟩, hHC, hAS⟩ := id hH
  exact gx_lasts l D ak ad sz h7 xa ta ra ma wa ga sa la gq mk ka v.1.length M tr bm sf sn so lp lu lt lk lr PL pa cl ps pe pi_ pn be co to_ gc le gr ac sq tg fr mi en cd hPL xr xl xw _ (sp_X7_lasts hK.1 hK.pj hAS hO (fun r y0 y1 y2 y3 y4 y5 y6 y7 y8 y9 y10 y11 y12 y13 y14 y15 y16 y17 y18 y19 y20 y21 y22 hO2 => ⟨xa, ta, ra, ma, wa, ga, sa, la, gq, mk, ka, upM M 1 (y0, mi5 y1 y2 y3 y4 y5, ma6 y6 y7 y8 y9 y10 y11), tr, bm, y12, y13, ma4 y14 y15 y16 y17, y18, y19, y20, y21, y22, PL, rfl, hn, hO2, hH, h0, h1, h2, h3, hV⟩))

set_option maxHeartbeats 4000000 in
set_option maxRecDepth 100000 in
theorem x_same0 (l : Launch) (D : va_G) (ak : Nat → ClassId) (ad : Nat → Nat) (sz h7 : Nat) (v : VW) (L : va_W)  (hI : IX ak ad h7 v L) : Met l yX7_same wsX7_same ({ frames := 6, cells := 0, slots := 0, locals := 138 }) (cPre D ak ad [.ref h7, .int (0)] L sz) (cI D (S := va_W) (fun _ L1 => IX ak ad h7 v L1) (fun L1 => L1) L sz) 0 0 (va_A L sz) := by
  obtain ⟨xa, ta, ra, ma, wa, ga, sa, la, gq, mk, ka, M, tr, bm, sf, sn, so, lp, lu, lt, lk, lr, PL, rfl, hn, hO, hH, h0, h1, h2, h3, hV⟩ := hI
  obtain ⟨⟨pa, cl, ps, pe, pi_, pn, be, co, to_, gc, le, gr, ac, sq, tg, fr, mi, en, cd, hK, hPL⟩, hHC, hAS⟩ := id hH
  obtain ⟨⟨pb, cq, qs, qe, qi, qn, be2, co2, to_2, gc2, le2, gr2, ac2, sq2, tg2, fr2, mi2, en2, cd2, hK2, hPL2⟩, hHC2, hAS2⟩ := id h0
  exact gx_same0 l D ak ad sz h7 xa ta ra ma wa ga sa la gq mk ka v.1.length M tr bm sf sn so lp lu lt lk lr PL pa cl ps pe pi_ pn be co to_ gc le gr ac sq tg fr mi en cd hPL pb cq qs qe qi qn be2 co2 to_2 gc2 le2 gr2 ac2 sq2 tg2 fr2 mi2 en2 cd2 hPL2  _ (sp_X7_same0 hK.pj hK2.pj hAS hAS2 (fun r y0 y1 y2 y3 y4 y5 y6 y7 y8 y9 y10 y11 y12 y13 y14 y15 y16 y17 y18 y19 y20 y21 y22 y23 => ⟨xa, ta, ra, ma, wa, ga, sa, la, gq, mk, ka, upM (upM M 1 (y0, mi5 y1 y2 y3 y4 y5, ma6 y6 y7 y8 y9 y10 y11)) 2 (y12, mi5 y13 y14 y15 y16 y17, ma6 y18 y19 y20 y21 y22 y23), tr, bm, sf, sn, so, lp, lu, lt, lk, lr, PL, rfl, hn, hO, hH, h0, h1, h2, h3, hV⟩))

set_option maxHeartbeats 4000000 in
set_option maxRecDepth 100000 in
theorem x_same1 (l : Launch) (D : va_G) (ak : Nat → ClassId) (ad : Nat → Nat) (sz h7 : Nat) (v : VW) (L : va_W)  (hI : IX ak ad h7 v L) : Met l yX7_same wsX7_same ({ frames := 6, cells := 0, slots := 0, locals := 138 }) (cPre D ak ad [.ref h7, .int (1)] L sz) (cI D (S := va_W) (fun _ L1 => IX ak ad h7 v L1) (fun L1 => L1) L sz) 0 0 (va_A L sz) := by
  obtain ⟨xa, ta, ra, ma, wa, ga, sa, la, gq, mk, ka, M, tr, bm, sf, sn, so, lp, lu, lt, lk, lr, PL, rfl, hn, hO, hH, h0, h1, h2, h3, hV⟩ := hI
  obtain ⟨⟨pa, cl, ps, pe, pi_, pn, be, co, to_, gc, le, gr, ac, sq, tg, fr, mi, en, cd, hK, hPL⟩, hHC, hAS⟩ := id hH
  obtain ⟨⟨pb, cq, qs, qe, qi, qn, be2, co2, to_2, gc2, le2, gr2, ac2, sq2, tg2, fr2, mi2, en2, cd2, hK2, hPL2⟩, hHC2, hAS2⟩ := id h1
  exact gx_same1 l D ak ad sz h7 xa ta ra ma wa ga sa la gq mk ka v.1.length M tr bm sf sn so lp lu lt lk lr PL pa cl ps pe pi_ pn be co to_ gc le gr ac sq tg fr mi en cd hPL pb cq qs qe qi qn be2 co2 to_2 gc2 le2 gr2 ac2 sq2 tg2 fr2 mi2 en2 cd2 hPL2  _ (sp_X7_same1 hK.pj hK2.pj hAS hAS2 (fun r y0 y1 y2 y3 y4 y5 y6 y7 y8 y9 y10 y11 y12 y13 y14 y15 y16 y17 y18 y19 y20 y21 y22 y23 => ⟨xa, ta, ra, ma, wa, ga, sa, la, gq, mk, ka, upM (upM M 1 (y0, mi5 y1 y2 y3 y4 y5, ma6 y6 y7 y8 y9 y10 y11)) 2 (y12, mi5 y13 y14 y15 y16 y17, ma6 y18 y19 y20 y21 y22 y23), tr, bm, sf, sn, so, lp, lu, lt, lk, lr, PL, rfl, hn, hO, hH, h0, h1, h2, h3, hV⟩))

set_option maxHeartbeats 4000000 in
set_option maxRecDepth 100000 in
theorem x_same2 (l : Launch) (D : va_G) (ak : Nat → ClassId) (ad : Nat → Nat) (sz h7 : Nat) (v : VW) (L : va_W)  (hI : IX ak ad h7 v L) : Met l yX7_same wsX7_same ({ frames := 6, cells := 0, slots := 0, locals := 138 }) (cPre D ak ad [.ref h7, .int (2)] L sz) (cI D (S := va_W) (fun _ L1 => IX ak ad h7 v L1) (fun L1 => L1) L sz) 0 0 (va_A L sz) := by
  obtain ⟨xa, ta, ra, ma, wa, ga, sa, la, gq, mk, ka, M, tr, bm, sf, sn, so, lp, lu, lt, lk, lr, PL, rfl, hn, hO, hH, h0, h1, h2, h3, hV⟩ := hI
  obtain ⟨⟨pa, cl, ps, pe, pi_, pn, be, co, to_, gc, le, gr, ac, sq, tg, fr, mi, en, cd, hK, hPL⟩, hHC, hAS⟩ := id hH
  obtain ⟨⟨pb, cq, qs, qe, qi, qn, be2, co2, to_2, gc2, le2, gr2, ac2, sq2, tg2, fr2, mi2, en2, cd2, hK2, hPL2⟩, hHC2, hAS2⟩ := id h2
  exact gx_same2 l D ak ad sz h7 xa ta ra ma wa ga sa la gq mk ka v.1.length M tr bm sf sn so lp lu lt lk lr PL pa cl ps pe pi_ pn be co to_ gc le gr ac sq tg fr mi en cd hPL pb cq qs qe qi qn be2 co2 to_2 gc2 le2 gr2 ac2 sq2 tg2 fr2 mi2 en2 cd2 hPL2  _ (sp_X7_same2 hK.pj hK2.pj hAS hAS2 (fun r y0 y1 y2 y3 y4 y5 y6 y7 y8 y9 y10 y11 y12 y13 y14 y15 y16 y17 y18 y19 y20 y21 y22 y23 => ⟨xa, ta, ra, ma, wa, ga, sa, la, gq, mk, ka, upM (upM M 1 (y0, mi5 y1 y2 y3 y4 y5, ma6 y6 y7 y8 y9 y10 y11)) 2 (y12, mi5 y13 y14 y15 y16 y17, ma6 y18 y19 y20 y21 y22 y23), tr, bm, sf, sn, so, lp, lu, lt, lk, lr, PL, rfl, hn, hO, hH, h0, h1, h2, h3, hV⟩))

set_option maxHeartbeats 4000000 in
set_option maxRecDepth 100000 in
theorem x_same3 (l : Launch) (D : va_G) (ak : Nat → ClassId) (ad : Nat → Nat) (sz h7 : Nat) (v : VW) (L : va_W)  (hI : IX ak ad h7 v L) : Met l yX7_same wsX7_same ({ frames := 6, cells := 0, slots := 0, locals := 138 }) (cPre D ak ad [.ref h7, .int (3)] L sz) (cI D (S := va_W) (fun _ L1 => IX ak ad h7 v L1) (fun L1 => L1) L sz) 0 0 (va_A L sz) := by
  obtain ⟨xa, ta, ra, ma, wa, ga, sa, la, gq, mk, ka, M, tr, bm, sf, sn, so, lp, lu, lt, lk, lr, PL, rfl, hn, hO, hH, h0, h1, h2, h3, hV⟩ := hI
  obtain ⟨⟨pa, cl, ps, pe, pi_, pn, be, co, to_, gc, le, gr, ac, sq, tg, fr, mi, en, cd, hK, hPL⟩, hHC, hAS⟩ := id hH
  obtain ⟨⟨pb, cq, qs, qe, qi, qn, be2, co2, to_2, gc2, le2, gr2, ac2, sq2, tg2, fr2, mi2, en2, cd2, hK2, hPL2⟩, hHC2, hAS2⟩ := id h3
  exact gx_same3 l D ak ad sz h7 xa ta ra ma wa ga sa la gq mk ka v.1.length M tr bm sf sn so lp lu lt lk lr PL pa cl ps pe pi_ pn be co to_ gc le gr ac sq tg fr mi en cd hPL pb cq qs qe qi qn be2 co2 to_2 gc2 le2 gr2 ac2 sq2 tg2 fr2 mi2 en2 cd2 hPL2  _ (sp_X7_same3 hK.pj hK2.pj hAS hAS2 (fun r y0 y1 y2 y3 y4 y5 y6 y7 y8 y9 y10 y11 y12 y13 y14 y15 y16 y17 y18 y19 y20 y21 y22 y23 => ⟨xa, ta, ra, ma, wa, ga, sa, la, gq, mk, ka, upM (upM M 1 (y0, mi5 y1 y2 y3 y4 y5, ma6 y6 y7 y8 y9 y10 y11)) 2 (y12, mi5 y13 y14 y15 y16 y17, ma6 y18 y19 y20 y21 y22 y23), tr, bm, sf, sn, so, lp, lu, lt, lk, lr, PL, rfl, hn, hO, hH, h0, h1, h2, h3, hV⟩))

set_option maxHeartbeats 4000000 in
set_option maxRecDepth 100000 in
theorem x_samex (l : Launch) (D : va_G) (ak : Nat → ClassId) (ad : Nat → Nat) (sz h7 : Nat) (v : VW) (L : va_W) (xm : Int32) (hI : IX ak ad h7 v L) (hx : xm < 0 ∨ 4 ≤ xm) : Met l yX7_same wsX7_same ({ frames := 1, cells := 0, slots := 0, locals := 21 }) (cPre D ak ad [.ref h7, .int (xm)] L sz) (cI D (S := va_W) (fun _ L1 => IX ak ad h7 v L1) (fun L1 => L1) L sz) 0 0 (va_A L sz) := by
  obtain ⟨xa, ta, ra, ma, wa, ga, sa, la, gq, mk, ka, M, tr, bm, sf, sn, so, lp, lu, lt, lk, lr, PL, rfl, hn, hO, hH, h0, h1, h2, h3, hV⟩ := hI
  obtain ⟨⟨pa, cl, ps, pe, pi_, pn, be, co, to_, gc, le, gr, ac, sq, tg, fr, mi, en, cd, hK, hPL⟩, hHC, hAS⟩ := id hH
  exact gx_samex l D ak ad sz h7 xa ta ra ma wa ga sa la gq mk ka v.1.length M tr bm sf sn so lp lu lt lk lr PL xm _ (sp_X7_samex hx (fun r => ⟨xa, ta, ra, ma, wa, ga, sa, la, gq, mk, ka, M, tr, bm, sf, sn, so, lp, lu, lt, lk, lr, PL, rfl, hn, hO, hH, h0, h1, h2, h3, hV⟩))

set_option maxHeartbeats 4000000 in
set_option maxRecDepth 100000 in
theorem x_markx (l : Launch) (D : va_G) (ak : Nat → ClassId) (ad : Nat → Nat) (sz h7 : Nat) (v : VW) (L : va_W) (xm : Int32) (xb : Int32) (hI : IX ak ad h7 v L) (hx : xm < 0 ∨ 4 ≤ xm) : Met l yX7_mark wsX7_mark ({ frames := 1, cells := 0, slots := 0, locals := 21 }) (cPre D ak ad [.ref h7, .int (xm), .int (xb)] L sz) (cI D (S := va_W) (fun r L1 => r = 0 ∧ IX ak ad h7 v L1) (fun L1 => L1) L sz) 0 0 (va_A L sz) := by
  obtain ⟨xa, ta, ra, ma, wa, ga, sa, la, gq, mk, ka, M, tr, bm, sf, sn, so, lp, lu, lt, lk, lr, PL, rfl, hn, hO, hH, h0, h1, h2, h3, hV⟩ := hI
  obtain ⟨⟨pa, cl, ps, pe, pi_, pn, be, co, to_, gc, le, gr, ac, sq, tg, fr, mi, en, cd, hK, hPL⟩, hHC, hAS⟩ := id hH
  exact gx_markx l D ak ad sz h7 xa ta ra ma wa ga sa la gq mk ka v.1.length M tr bm sf sn so lp lu lt lk lr PL xm xb _ (sp_X7_markx hx ⟨rfl, ⟨xa, ta, ra, ma, wa, ga, sa, la, gq, mk, ka, M, tr, bm, sf, sn, so, lp, lu, lt, lk, lr, PL, rfl, hn, hO, hH, h0, h1, h2, h3, hV⟩⟩)

set_option maxHeartbeats 4000000 in
set_option maxRecDepth 100000 in
theorem x_mark0 (l : Launch) (D : va_G) (ak : Nat → ClassId) (ad : Nat → Nat) (sz h7 : Nat) (v : VW) (L : va_W) (xb : Int32) (hI : IX ak ad h7 v L) : Met l yX7_mark wsX7_mark ({ frames := 3, cells := 0, slots := 0, locals := 82 }) (cPre D ak ad [.ref h7, .int (0), .int (xb)] L sz) (cI D (S := va_W) (fun r L1 => r = f_mark v 0 xb ∧ IX ak ad h7 (s_mark v 0 xb) L1) (fun L1 => L1) L sz) 0 0 (va_A L sz) := by
  obtain ⟨xa, ta, ra, ma, wa, ga, sa, la, gq, mk, ka, M, tr, bm, sf, sn, so, lp, lu, lt, lk, lr, PL, rfl, hn, hO, hH, h0, h1, h2, h3, hV⟩ := hI
  obtain ⟨⟨pa, cl, ps, pe, pi_, pn, be, co, to_, gc, le, gr, ac, sq, tg, fr, mi, en, cd, hK, hPL⟩, hHC, hAS⟩ := id hH
  exact gx_mark0 l D ak ad sz h7 xa ta ra ma wa ga sa la gq mk ka v.1.length M tr bm sf sn so lp lu lt lk lr PL xb _ (sp_X7_mark0 hAS h0.2.2 (fun a_ b_ => ⟨(f_mark0 hV (by decide) a_ b_).1, (f_mark0 hV (by decide) a_ b_).2 ▸ (show IX ak ad h7 v _ from ⟨xa, ta, ra, ma, wa, ga, sa, la, gq, mk, ka, upM (upM M 0 ((M 0).1, mi5 ((M 0).2.1 0) ((M 0).2.1 1) ((M 0).2.1 2) ((M 0).2.1 3) ((M 0).2.1 4), ma6 ((M 0).2.2 0) ((M 0).2.2 1) ((M 0).2.2 2) ((M 0).2.2 3) ((M 0).2.2 4) ((M 0).2.2 5))) 3 ((M 3).1, mi5 ((M 3).2.1 0) ((M 3).2.1 1) ((M 3).2.1 2) ((M 3).2.1 3) ((M 3).2.1 4), ma6 ((M 3).2.2 0) ((M 3).2.2 1) ((M 3).2.2 2) ((M 3).2.2 3) ((M 3).2.2 4) ((M 3).2.2 5)), tr, bm, sf, sn, so, lp, lu, lt, lk, lr, PL, rfl, hn, hO, hH, h0, h1, h2, h3, hV⟩)⟩) (fun e0 e1 e2 e3 e4 a_ hs => ⟨(f_mark1 a_).1, (f_mark1 a_).2 ▸ (show IX ak ad h7 (v.1, fun i => if i = 0 then true else v.2 i) _ from ⟨xa, ta, ra, ma, wa, ga, sa, la, gq, mk, ka, upM (upM M 0 ((M 0).1, mi5 ((M 0).2.1 0) ((M 0).2.1 1) ((M 0).2.1 2) ((M 0).2.1 3) ((M 0).2.1 4), ma6 ((M 0).2.2 0) ((M 0).2.2 1) ((M 0).2.2 2) ((M 0).2.2 3) ((M 0).2.2 4) ((M 0).2.2 5))) 3 ((M 0).1, mi5 ((M 0).2.1 0) ((M 0).2.1 1) ((M 0).2.1 2) ((M 0).2.1 3) ((M 0).2.1 4), ma6 e0 e1 e2 e3 e4 ((M 3).2.2 5)), tr, (upd bm 0 (vp_nar .boolean 1)), sf, sn, so, lp, lu, lt, lk, lr, PL, rfl, hn, hO, hH, ⟨hH.1, hHC, hs⟩, h1, h2, h3, vb_mark hV⟩)⟩) (fun e0 e1 e2 e3 e4 a_ b_ hs => ⟨(f_mark2 hV (by decide) a_ b_).1, (f_mark2 hV (by decide) a_ b_).2 ▸ (show IX ak ad h7 v _ from ⟨xa, ta, ra, ma, wa, ga, sa, la, gq, mk, ka, upM (upM M 0 ((M 3).1, mi5 ((M 3).2.1 0) ((M 3).2.1 1) ((M 3).2.1 2) ((M 3).2.1 3) ((M 3).2.1 4), ma6 e0 e1 e2 e3 e4 ((M 0).2.2 5))) 3 ((M 3).1, mi5 ((M 3).2.1 0) ((M 3).2.1 1) ((M 3).2.1 2) ((M 3).2.1 3) ((M 3).2.1 4), ma6 ((M 3).2.2 0) ((M 3).2.2 1) ((M 3).2.2 2) ((M 3).2.2 3) ((M 3).2.2 4) ((M 3).2.2 5)), tr, bm, sf, sn, so, lp, lu, lt, lk, lr, PL, rfl, hn, hO, ⟨h0.1, h0.2.1, hs⟩, h0, h1, h2, h3, hV⟩)⟩))

set_option maxHeartbeats 4000000 in
set_option maxRecDepth 100000 in
theorem x_mark1 (l : Launch) (D : va_G) (ak : Nat → ClassId) (ad : Nat → Nat) (sz h7 : Nat) (v : VW) (L : va_W) (xb : Int32) (hI : IX ak ad h7 v L) : Met l yX7_mark wsX7_mark ({ frames := 3, cells := 0, slots := 0, locals := 82 }) (cPre D ak ad [.ref h7, .int (1), .int (xb)] L sz) (cI D (S := va_W) (fun r L1 => r = f_mark v 1 xb ∧ IX ak ad h7 (s_mark v 1 xb) L1) (fun L1 => L1) L sz) 0 0 (va_A L sz) := by
  obtain ⟨xa, ta, ra, ma, wa, ga, sa, la, gq, mk, ka, M, tr, bm, sf, sn, so, lp, lu, lt, lk, lr, PL, rfl, hn, hO, hH, h0, h1, h2, h3, hV⟩ := hI
  obtain ⟨⟨pa, cl, ps, pe, pi_, pn, be, co, to_, gc, le, gr, ac, sq, tg, fr, mi, en, cd, hK, hPL⟩, hHC, hAS⟩ := id hH
  exact gx_mark1 l D ak ad sz h7 xa ta ra ma wa ga sa la gq mk ka v.1.length M tr bm sf sn so lp lu lt lk lr PL xb _ (sp_X7_mark1 hAS h1.2.2 (fun a_ b_ => ⟨(f_mark0 hV (by decide) a_ b_).1, (f_mark0 hV (by decide) a_ b_).2 ▸ (show IX ak ad h7 v _ from ⟨xa, ta, ra, ma, wa, ga, sa, la, gq, mk, ka, upM (upM M 0 ((M 0).1, mi5 ((M 0).2.1 0) ((M 0).2.1 1) ((M 0).2.1 2) ((M 0).2.1 3) ((M 0).2.1 4), ma6 ((M 0).2.2 0) ((M 0).2.2 1) ((M 0).2.2 2) ((M 0).2.2 3) ((M 0).2.2 4) ((M 0).2.2 5))) 4 ((M 4).1, mi5 ((M 4).2.1 0) ((M 4).2.1 1) ((M 4).2.1 2) ((M 4).2.1 3) ((M 4).2.1 4), ma6 ((M 4).2.2 0) ((M 4).2.2 1) ((M 4).2.2 2) ((M 4).2.2 3) ((M 4).2.2 4) ((M 4).2.2 5)), tr, bm, sf, sn, so, lp, lu, lt, lk, lr, PL, rfl, hn, hO, hH, h0, h1, h2, h3, hV⟩)⟩) (fun e0 e1 e2 e3 e4 a_ hs => ⟨(f_mark1 a_).1, (f_mark1 a_).2 ▸ (show IX ak ad h7 (v.1, fun i => if i = 1 then true else v.2 i) _ from ⟨xa, ta, ra, ma, wa, ga, sa, la, gq, mk, ka, upM (upM M 0 ((M 0).1, mi5 ((M 0).2.1 0) ((M 0).2.1 1) ((M 0).2.1 2) ((M 0).2.1 3) ((M 0).2.1 4), ma6 ((M 0).2.2 0) ((M 0).2.2 1) ((M 0).2.2 2) ((M 0).2.2 3) ((M 0).2.2 4) ((M 0).2.2 5))) 4 ((M 0).1, mi5 ((M 0).2.1 0) ((M 0).2.1 1) ((M 0).2.1 2) ((M 0).2.1 3) ((M 0).2.1 4), ma6 e0 e1 e2 e3 e4 ((M 4).2.2 5)), tr, (upd bm 1 (vp_nar .boolean 1)), sf, sn, so, lp, lu, lt, lk, lr, PL, rfl, hn, hO, hH, h0, ⟨hH.1, hHC, hs⟩, h2, h3, vb_mark hV⟩)⟩) (fun e0 e1 e2 e3 e4 a_ b_ hs => ⟨(f_mark2 hV (by decide) a_ b_).1, (f_mark2 hV (by decide) a_ b_).2 ▸ (show IX ak ad h7 v _ from ⟨xa, ta, ra, ma, wa, ga, sa, la, gq, mk, ka, upM (upM M 0 ((M 4).1, mi5 ((M 4).2.1 0) ((M 4).2.1 1) ((M 4).2.1 2) ((M 4).2.1 3) ((M 4).2.1 4), ma6 e0 e1 e2 e3 e4 ((M 0).2.2 5))) 4 ((M 4).1, mi5 ((M 4).2.1 0) ((M 4).2.1 1) ((M 4).2.1 2) ((M 4).2.1 3) ((M 4).2.1 4), ma6 ((M 4).2.2 0) ((M 4).2.2 1) ((M 4).2.2 2) ((M 4).2.2 3) ((M 4).2.2 4) ((M 4).2.2 5)), tr, bm, sf, sn, so, lp, lu, lt, lk, lr, PL, rfl, hn, hO, ⟨h1.1, h1.2.1, hs⟩, h0, h1, h2, h3, hV⟩)⟩))

set_option maxHeartbeats 4000000 in
set_option maxRecDepth 100000 in
theorem x_mark2 (l : Launch) (D : va_G) (ak : Nat → ClassId) (ad : Nat → Nat) (sz h7 : Nat) (v : VW) (L : va_W) (xb : Int32) (hI : IX ak ad h7 v L) : Met l yX7_mark wsX7_mark ({ frames := 3, cells := 0, slots := 0, locals := 82 }) (cPre D ak ad [.ref h7, .int (2), .int (xb)] L sz) (cI D (S := va_W) (fun r L1 => r = f_mark v 2 xb ∧ IX ak ad h7 (s_mark v 2 xb) L1) (fun L1 => L1) L sz) 0 0 (va_A L sz) := by
  obtain ⟨xa, ta, ra, ma, wa, ga, sa, la, gq, mk, ka, M, tr, bm, sf, sn, so, lp, lu, lt, lk, lr, PL, rfl, hn, hO, hH, h0, h1, h2, h3, hV⟩ := hI
  obtain ⟨⟨pa, cl, ps, pe, pi_, pn, be, co, to_, gc, le, gr, ac, sq, tg, fr, mi, en, cd, hK, hPL⟩, hHC, hAS⟩ := id hH
  exact gx_mark2 l D ak ad sz h7 xa ta ra ma wa ga sa la gq mk ka v.1.length M tr bm sf sn so lp lu lt lk lr PL xb _ (sp_X7_mark2 hAS h2.2.2 (fun a_ b_ => ⟨(f_mark0 hV (by decide) a_ b_).1, (f_mark0 hV (by decide) a_ b_).2 ▸ (show IX ak ad h7 v _ from ⟨xa, ta, ra, ma, wa, ga, sa, la, gq, mk, ka, upM (upM M 0 ((M 0).1, mi5 ((M 0).2.1 0) ((M 0).2.1 1) ((M 0).2.1 2) ((M 0).2.1 3) ((M 0).2.1 4), ma6 ((M 0).2.2 0) ((M 0).2.2 1) ((M 0).2.2 2) ((M 0).2.2 3) ((M 0).2.2 4) ((M 0).2.2 5))) 5 ((M 5).1, mi5 ((M 5).2.1 0) ((M 5).2.1 1) ((M 5).2.1 2) ((M 5).2.1 3) ((M 5).2.1 4), ma6 ((M 5).2.2 0) ((M 5).2.2 1) ((M 5).2.2 2) ((M 5).2.2 3) ((M 5).2.2 4) ((M 5).2.2 5)), tr, bm, sf, sn, so, lp, lu, lt, lk, lr, PL, rfl, hn, hO, hH, h0, h1, h2, h3, hV⟩)⟩) (fun e0 e1 e2 e3 e4 a_ hs => ⟨(f_mark1 a_).1, (f_mark1 a_).2 ▸ (show IX ak ad h7 (v.1, fun i => if i = 2 then true else v.2 i) _ from ⟨xa, ta, ra, ma, wa, ga, sa, la, gq, mk, ka, upM (upM M 0 ((M 0).1, mi5 ((M 0).2.1 0) ((M 0).2.1 1) ((M 0).2.1 2) ((M 0).2.1 3) ((M 0).2.1 4), ma6 ((M 0).2.2 0) ((M 0).2.2 1) ((M 0).2.2 2) ((M 0).2.2 3) ((M 0).2.2 4) ((M 0).2.2 5))) 5 ((M 0).1, mi5 ((M 0).2.1 0) ((M 0).2.1 1) ((M 0).2.1 2) ((M 0).2.1 3) ((M 0).2.1 4), ma6 e0 e1 e2 e3 e4 ((M 5).2.2 5)), tr, (upd bm 2 (vp_nar .boolean 1)), sf, sn, so, lp, lu, lt, lk, lr, PL, rfl, hn, hO, hH, h0, h1, ⟨hH.1, hHC, hs⟩, h3, vb_mark hV⟩)⟩) (fun e0 e1 e2 e3 e4 a_ b_ hs => ⟨(f_mark2 hV (by decide) a_ b_).1, (f_mark2 hV (by decide) a_ b_).2 ▸ (show IX ak ad h7 v _ from ⟨xa, ta, ra, ma, wa, ga, sa, la, gq, mk, ka, upM (upM M 0 ((M 5).1, mi5 ((M 5).2.1 0) ((M 5).2.1 1) ((M 5).2.1 2) ((M 5).2.1 3) ((M 5).2.1 4), ma6 e0 e1 e2 e3 e4 ((M 0).2.2 5))) 5 ((M 5).1, mi5 ((M 5).2.1 0) ((M 5).2.1 1) ((M 5).2.1 2) ((M 5).2.1 3) ((M 5).2.1 4), ma6 ((M 5).2.2 0) ((M 5).2.2 1) ((M 5).2.2 2) ((M 5).2.2 3) ((M 5).2.2 4) ((M 5).2.2 5)), tr, bm, sf, sn, so, lp, lu, lt, lk, lr, PL, rfl, hn, hO, ⟨h2.1, h2.2.1, hs⟩, h0, h1, h2, h3, hV⟩)⟩))

set_option maxHeartbeats 4000000 in
set_option maxRecDepth 100000 in
theorem x_mark3 (l : Launch) (D : va_G) (ak : Nat → ClassId) (ad : Nat → Nat) (sz h7 : Nat) (v : VW) (L : va_W) (xb : Int32) (hI : IX ak ad h7 v L) : Met l yX7_mark wsX7_mark ({ frames := 3, cells := 0, slots := 0, locals := 82 }) (cPre D ak ad [.ref h7, .int (3), .int (xb)] L sz) (cI D (S := va_W) (fun r L1 => r = f_mark v 3 xb ∧ IX ak ad h7 (s_mark v 3 xb) L1) (fun L1 => L1) L sz) 0 0 (va_A L sz) := by
  obtain ⟨xa, ta, ra, ma, wa, ga, sa, la, gq, mk, ka, M, tr, bm, sf, sn, so, lp, lu, lt, lk, lr, PL, rfl, hn, hO, hH, h0, h1, h2, h3, hV⟩ := hI
  obtain ⟨⟨pa, cl, ps, pe, pi_, pn, be, co, to_, gc, le, gr, ac, sq, tg, fr, mi, en, cd, hK, hPL⟩, hHC, hAS⟩ := id hH
  exact gx_mark3 l D ak ad sz h7 xa ta ra ma wa ga sa la gq mk ka v.1.length M tr bm sf sn so lp lu lt lk lr PL xb _ (sp_X7_mark3 hAS h3.2.2 (fun a_ b_ => ⟨(f_mark0 hV (by decide) a_ b_).1, (f_mark0 hV (by decide) a_ b_).2 ▸ (show IX ak ad h7 v _ from ⟨xa, ta, ra, ma, wa, ga, sa, la, gq, mk, ka, upM (upM M 0 ((M 0).1, mi5 ((M 0).2.1 0) ((M 0).2.1 1) ((M 0).2.1 2) ((M 0).2.1 3) ((M 0).2.1 4), ma6 ((M 0).2.2 0) ((M 0).2.2 1) ((M 0).2.2 2) ((M 0).2.2 3) ((M 0).2.2 4) ((M 0).2.2 5))) 6 ((M 6).1, mi5 ((M 6).2.1 0) ((M 6).2.1 1) ((M 6).2.1 2) ((M 6).2.1 3) ((M 6).2.1 4), ma6 ((M 6).2.2 0) ((M 6).2.2 1) ((M 6).2.2 2) ((M 6).2.2 3) ((M 6).2.2 4) ((M 6).2.2 5)), tr, bm, sf, sn, so, lp, lu, lt, lk, lr, PL, rfl, hn, hO, hH, h0, h1, h2, h3, hV⟩)⟩) (fun e0 e1 e2 e3 e4 a_ hs => ⟨(f_mark1 a_).1, (f_mark1 a_).2 ▸ (show IX ak ad h7 (v.1, fun i => if i = 3 then true else v.2 i) _ from ⟨xa, ta, ra, ma, wa, ga, sa, la, gq, mk, ka, upM (upM M 0 ((M 0).1, mi5 ((M 0).2.1 0) ((M 0).2.1 1) ((M 0).2.1 2) ((M 0).2.1 3) ((M 0).2.1 4), ma6 ((M 0).2.2 0) ((M 0).2.2 1) ((M 0).2.2 2) ((M 0).2.2 3) ((M 0).2.2 4) ((M 0).2.2 5))) 6 ((M 0).1, mi5 ((M 0).2.1 0) ((M 0).2.1 1) ((M 0).2.1 2) ((M 0).2.1 3) ((M 0).2.1 4), ma6 e0 e1 e2 e3 e4 ((M 6).2.2 5)), tr, (upd bm 3 (vp_nar .boolean 1)), sf, sn, so, lp, lu, lt, lk, lr, PL, rfl, hn, hO, hH, h0, h1, h2, ⟨hH.1, hHC, hs⟩, vb_mark hV⟩)⟩) (fun e0 e1 e2 e3 e4 a_ b_ hs => ⟨(f_mark2 hV (by decide) a_ b_).1, (f_mark2 hV (by decide) a_ b_).2 ▸ (show IX ak ad h7 v _ from ⟨xa, ta, ra, ma, wa, ga, sa, la, gq, mk, ka, upM (upM M 0 ((M 6).1, mi5 ((M 6).2.1 0) ((M 6).2.1 1) ((M 6).2.1 2) ((M 6).2.1 3) ((M 6).2.1 4), ma6 e0 e1 e2 e3 e4 ((M 0).2.2 5))) 6 ((M 6).1, mi5 ((M 6).2.1 0) ((M 6).2.1 1) ((M 6).2.1 2) ((M 6).2.1 3) ((M 6).2.1 4), ma6 ((M 6).2.2 0) ((M 6).2.2 1) ((M 6).2.2 2) ((M 6).2.2 3) ((M 6).2.2 4) ((M 6).2.2 5)), tr, bm, sf, sn, so, lp, lu, lt, lk, lr, PL, rfl, hn, hO, ⟨h3.1, h3.2.1, hs⟩, h0, h1, h2, h3, hV⟩)⟩))
