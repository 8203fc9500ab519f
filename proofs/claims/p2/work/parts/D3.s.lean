set_option maxHeartbeats 4000000 in
set_option maxRecDepth 100000 in
theorem x_stuff (l : Launch) (D : va_G) (ak : Nat → ClassId) (ad : Nat → Nat) (sz h7 n : Nat) (L : va_W) (xs : Int32) (xw : Int32) (hI : IX ak ad h7 n L) : Met l yX7_stuff wsX7_stuff ({ frames := 1, cells := 0, slots := 0, locals := 21 }) (cPre D ak ad [.ref h7, .int (xs), .int (xw)] L sz) (cI D (S := va_W) (fun _ L1 => IX ak ad h7 n L1) (fun L1 => L1) L sz) 0 0 (va_A L sz) := by
  obtain ⟨xa, ta, ra, ma, wa, ga, sa, la, gq, mk, ka, M, tr, bm, sf, sn, so, lp, lu, lt, lk, lr, PL, rfl, hn, hO, hH, h0, h1, h2, h3⟩ := hI
  obtain ⟨⟨pa, cl, ps, pe, pi_, pn, be, co, to_, gc, le, gr, ac, sq, tg, fr, mi, en, cd, hK, hPL⟩, hHC, hAS⟩ := id hH
  refine fr_i (c_X7_stuff l D ak ad sz h7 xa ma (M 0).1 pa ((M 0).2.1 0) ((M 0).2.1 1) ((M 0).2.1 2) ((M 0).2.1 3) ((M 0).2.1 4) (nI ps) (nI pe) (nI pi_) (nI pn) be co xs xw (fun (r : Int32)  => IX ak ad h7 n (setAll (XL ak ad h7 xa ta ra ma wa ga sa la gq mk ka n M tr bm sf sn so lp lu lt lk lr) [0, 10] (wW_X7_stuff ak ad h7 xa ma (M 0).1 ((M 0).2.1 0) ((M 0).2.1 1) ((M 0).2.1 2) ((M 0).2.1 3) ((M 0).2.1 4)) ++ PL)) ?_) [0, 10] (by decide) (by rw [XL_len]; decide) rfl (fun q hq => hPL q (mem_of_map (Pw := PWl ak (M 0).1 pa cl (nI ps) (nI pe) (nI pi_) (nI pn) be co to_ gc le gr ac sq tg fr mi en cd) [0, 1, 2] rfl q hq)) (fun u => rfl) (fun r u h => h)
  exact sp_X7_stuff hK.1 (fun r => ⟨xa, ta, ra, ma, wa, ga, sa, la, gq, mk, ka, M, tr, bm, sf, sn, so, lp, lu, lt, lk, lr, PL, rfl, hn, hO, hH, h0, h1, h2, h3⟩)

set_option maxHeartbeats 4000000 in
set_option maxRecDepth 100000 in
theorem x_line (l : Launch) (D : va_G) (ak : Nat → ClassId) (ad : Nat → Nat) (sz h7 n : Nat) (L : va_W) (xl : Int32) (xw : Int32) (hI : IX ak ad h7 n L) : Met l yX7_line wsX7_line ({ frames := 1, cells := 0, slots := 0, locals := 21 }) (cPre D ak ad [.ref h7, .int (xl), .int (xw)] L sz) (cI D (S := va_W) (fun _ L1 => IX ak ad h7 n L1) (fun L1 => L1) L sz) 0 0 (va_A L sz) := by
  obtain ⟨xa, ta, ra, ma, wa, ga, sa, la, gq, mk, ka, M, tr, bm, sf, sn, so, lp, lu, lt, lk, lr, PL, rfl, hn, hO, hH, h0, h1, h2, h3⟩ := hI
  obtain ⟨⟨pa, cl, ps, pe, pi_, pn, be, co, to_, gc, le, gr, ac, sq, tg, fr, mi, en, cd, hK, hPL⟩, hHC, hAS⟩ := id hH
  refine fr_i (c_X7_line l D ak ad sz h7 xa ma (M 0).1 pa ((M 0).2.1 0) ((M 0).2.1 1) ((M 0).2.1 2) ((M 0).2.1 3) ((M 0).2.1 4) ((M 0).2.2 0) ((M 0).2.2 1) ((M 0).2.2 2) (nI ps) (nI pe) (nI pi_) (nI pn) be ac xl xw (fun (r : Int32)  => IX ak ad h7 n (setAll (XL ak ad h7 xa ta ra ma wa ga sa la gq mk ka n M tr bm sf sn so lp lu lt lk lr) [0, 10, 11, 12, 13] (wW_X7_line ak ad h7 xa ma (M 0).1 ((M 0).2.1 0) ((M 0).2.1 1) ((M 0).2.1 2) ((M 0).2.1 3) ((M 0).2.1 4) ((M 0).2.2 0) ((M 0).2.2 1) ((M 0).2.2 2)) ++ PL)) ?_) [0, 10, 11, 12, 13] (by decide) (by rw [XL_len]; decide) rfl (fun q hq => hPL q (mem_of_map (Pw := PWl ak (M 0).1 pa cl (nI ps) (nI pe) (nI pi_) (nI pn) be co to_ gc le gr ac sq tg fr mi en cd) [0, 1, 7] rfl q hq)) (fun u => rfl) (fun r u h => h)
  exact sp_X7_line hK.2.2.2.1 hAS (fun r => ⟨xa, ta, ra, ma, wa, ga, sa, la, gq, mk, ka, M, tr, bm, sf, sn, so, lp, lu, lt, lk, lr, PL, rfl, hn, hO, hH, h0, h1, h2, h3⟩)

set_option maxHeartbeats 4000000 in
set_option maxRecDepth 100000 in
theorem x_lay (l : Launch) (D : va_G) (ak : Nat → ClassId) (ad : Nat → Nat) (sz h7 n : Nat) (L : va_W) (xl : Int32) (xs : Int32) (xt : Int32) (hI : IX ak ad h7 n L) : Met l yX7_lay wsX7_lay ({ frames := 1, cells := 0, slots := 0, locals := 21 }) (cPre D ak ad [.ref h7, .int (xl), .int (xs), .int (xt)] L sz) (cI D (S := va_W) (fun _ L1 => IX ak ad h7 n L1) (fun L1 => L1) L sz) 0 0 (va_A L sz) := by
  obtain ⟨xa, ta, ra, ma, wa, ga, sa, la, gq, mk, ka, M, tr, bm, sf, sn, so, lp, lu, lt, lk, lr, PL, rfl, hn, hO, hH, h0, h1, h2, h3⟩ := hI
  obtain ⟨⟨pa, cl, ps, pe, pi_, pn, be, co, to_, gc, le, gr, ac, sq, tg, fr, mi, en, cd, hK, hPL⟩, hHC, hAS⟩ := id hH
  refine fr_i (c_X7_lay l D ak ad sz h7 xa ma (M 0).1 pa ((M 0).2.1 0) ((M 0).2.1 1) ((M 0).2.1 2) ((M 0).2.1 3) ((M 0).2.1 4) ((M 0).2.2 0) ((M 0).2.2 1) ((M 0).2.2 2) (nI ps) (nI pe) (nI pi_) (nI pn) xl xs xt (fun (r : Int32) (y0 : Nat → Int32) (y1 : Nat → Int32) (y2 : Nat → Int32) => IX ak ad h7 n (setAll (XL ak ad h7 xa ta ra ma wa ga sa la gq mk ka n M tr bm sf sn so lp lu lt lk lr) [0, 10, 11, 12, 13] (wW_X7_lay ak ad h7 xa ma (M 0).1 ((M 0).2.1 0) ((M 0).2.1 1) ((M 0).2.1 2) ((M 0).2.1 3) ((M 0).2.1 4) y0 y1 y2) ++ PL)) ?_) [0, 10, 11, 12, 13] (by decide) (by rw [XL_len]; decide) rfl (fun q hq => hPL q (mem_of_map (Pw := PWl ak (M 0).1 pa cl (nI ps) (nI pe) (nI pi_) (nI pn) be co to_ gc le gr ac sq tg fr mi en cd) [0] rfl q hq)) (fun u => rfl) (fun r u h => h)
  exact sp_X7_lay hK.1 hK.2.2.2.1 hAS (fun r y0 y1 y2 hs => ⟨xa, ta, ra, ma, wa, ga, sa, la, gq, mk, ka, upM M 0 ((M 0).1, mi5 ((M 0).2.1 0) ((M 0).2.1 1) ((M 0).2.1 2) ((M 0).2.1 3) ((M 0).2.1 4), ma6 y0 y1 y2 ((M 0).2.2 3) ((M 0).2.2 4) ((M 0).2.2 5)), tr, bm, sf, sn, so, lp, lu, lt, lk, lr, PL, rfl, hn, hO, ⟨hH.1, hHC, hs⟩, h0, h1, h2, h3⟩)

set_option maxHeartbeats 4000000 in
set_option maxRecDepth 100000 in
theorem x_cost (l : Launch) (D : va_G) (ak : Nat → ClassId) (ad : Nat → Nat) (sz h7 n : Nat) (L : va_W)  (hI : IX ak ad h7 n L) : Met l yX7_cost wsX7_cost ({ frames := 0, cells := 0, slots := 0, locals := 0 }) (cPre D ak ad [.ref h7] L sz) (cI D (S := va_W) (fun _ L1 => IX ak ad h7 n L1) (fun L1 => L1) L sz) 0 0 (va_A L sz) := by
  obtain ⟨xa, ta, ra, ma, wa, ga, sa, la, gq, mk, ka, M, tr, bm, sf, sn, so, lp, lu, lt, lk, lr, PL, rfl, hn, hO, hH, h0, h1, h2, h3⟩ := hI
  obtain ⟨⟨pa, cl, ps, pe, pi_, pn, be, co, to_, gc, le, gr, ac, sq, tg, fr, mi, en, cd, hK, hPL⟩, hHC, hAS⟩ := id hH
  refine fr_i (c_X7_cost l D ak ad sz h7 xa ma (M 0).1 pa ((M 0).2.1 0) ((M 0).2.1 1) ((M 0).2.1 2) ((M 0).2.1 3) ((M 0).2.1 4) ((M 0).2.2 0) ((M 0).2.2 1) (nI ps) (nI pe) (nI pi_) (nI pn) co (fun (r : Int32)  => IX ak ad h7 n (setAll (XL ak ad h7 xa ta ra ma wa ga sa la gq mk ka n M tr bm sf sn so lp lu lt lk lr) [0, 10, 11, 12] (wW_X7_cost ak ad h7 xa ma (M 0).1 ((M 0).2.1 0) ((M 0).2.1 1) ((M 0).2.1 2) ((M 0).2.1 3) ((M 0).2.1 4) ((M 0).2.2 0) ((M 0).2.2 1)) ++ PL)) ?_) [0, 10, 11, 12] (by decide) (by rw [XL_len]; decide) rfl (fun q hq => hPL q (mem_of_map (Pw := PWl ak (M 0).1 pa cl (nI ps) (nI pe) (nI pi_) (nI pn) be co to_ gc le gr ac sq tg fr mi en cd) [0, 2] rfl q hq)) (fun u => rfl) (fun r u h => h)
  exact sp_X7_cost hK.2.2.2.1 hAS (fun r => ⟨xa, ta, ra, ma, wa, ga, sa, la, gq, mk, ka, M, tr, bm, sf, sn, so, lp, lu, lt, lk, lr, PL, rfl, hn, hO, hH, h0, h1, h2, h3⟩)

set_option maxHeartbeats 4000000 in
set_option maxRecDepth 100000 in
theorem x_inputs (l : Launch) (D : va_G) (ak : Nat → ClassId) (ad : Nat → Nat) (sz h7 n : Nat) (L : va_W)  (hI : IX ak ad h7 n L) : Met l yX7_inputs wsX7_inputs ({ frames := 3, cells := 0, slots := 0, locals := 56 }) (cPre D ak ad [.ref h7] L sz) (cI D (S := va_W) (fun _ L1 => IX ak ad h7 n L1) (fun L1 => L1) L sz) 0 0 (va_A L sz) := by
  obtain ⟨xa, ta, ra, ma, wa, ga, sa, la, gq, mk, ka, M, tr, bm, sf, sn, so, lp, lu, lt, lk, lr, PL, rfl, hn, hO, hH, h0, h1, h2, h3⟩ := hI
  obtain ⟨⟨pa, cl, ps, pe, pi_, pn, be, co, to_, gc, le, gr, ac, sq, tg, fr, mi, en, cd, hK, hPL⟩, hHC, hAS⟩ := id hH
  refine fr_i (c_X7_inputs l D ak ad sz h7 xa ma (M 0).1 pa ((M 0).2.1 0) ((M 0).2.1 1) ((M 0).2.1 2) ((M 0).2.1 3) ((M 0).2.1 4) (nI ps) (nI pe) (nI pi_) (nI pn) le gr (fun (r : Int32)  => IX ak ad h7 n (setAll (XL ak ad h7 xa ta ra ma wa ga sa la gq mk ka n M tr bm sf sn so lp lu lt lk lr) [0, 10] (wW_X7_inputs ak ad h7 xa ma (M 0).1 ((M 0).2.1 0) ((M 0).2.1 1) ((M 0).2.1 2) ((M 0).2.1 3) ((M 0).2.1 4)) ++ PL)) ?_) [0, 10] (by decide) (by rw [XL_len]; decide) rfl (fun q hq => hPL q (mem_of_map (Pw := PWl ak (M 0).1 pa cl (nI ps) (nI pe) (nI pi_) (nI pn) be co to_ gc le gr ac sq tg fr mi en cd) [0, 5, 6] rfl q hq)) (fun u => rfl) (fun r u h => h)
  exact sp_X7_inputs hK.2.2.1 (fun r => ⟨xa, ta, ra, ma, wa, ga, sa, la, gq, mk, ka, M, tr, bm, sf, sn, so, lp, lu, lt, lk, lr, PL, rfl, hn, hO, hH, h0, h1, h2, h3⟩)

set_option maxHeartbeats 4000000 in
set_option maxRecDepth 100000 in
theorem x_input (l : Launch) (D : va_G) (ak : Nat → ClassId) (ad : Nat → Nat) (sz h7 n : Nat) (L : va_W) (xi : Int32) (xc : Int32) (hI : IX ak ad h7 n L) : Met l yX7_input wsX7_input ({ frames := 3, cells := 0, slots := 0, locals := 60 }) (cPre D ak ad [.ref h7, .int (xi), .int (xc)] L sz) (cI D (S := va_W) (fun _ L1 => IX ak ad h7 n L1) (fun L1 => L1) L sz) 0 0 (va_A L sz) := by
  obtain ⟨xa, ta, ra, ma, wa, ga, sa, la, gq, mk, ka, M, tr, bm, sf, sn, so, lp, lu, lt, lk, lr, PL, rfl, hn, hO, hH, h0, h1, h2, h3⟩ := hI
  obtain ⟨⟨pa, cl, ps, pe, pi_, pn, be, co, to_, gc, le, gr, ac, sq, tg, fr, mi, en, cd, hK, hPL⟩, hHC, hAS⟩ := id hH
  refine fr_i (c_X7_input l D ak ad sz h7 xa ma (M 0).1 pa ((M 0).2.1 0) ((M 0).2.1 1) ((M 0).2.1 2) ((M 0).2.1 3) ((M 0).2.1 4) (nI ps) (nI pe) (nI pi_) (nI pn) to_ gc le gr xi xc (fun (r : Int32)  => IX ak ad h7 n (setAll (XL ak ad h7 xa ta ra ma wa ga sa la gq mk ka n M tr bm sf sn so lp lu lt lk lr) [0, 10] (wW_X7_input ak ad h7 xa ma (M 0).1 ((M 0).2.1 0) ((M 0).2.1 1) ((M 0).2.1 2) ((M 0).2.1 3) ((M 0).2.1 4)) ++ PL)) ?_) [0, 10] (by decide) (by rw [XL_len]; decide) rfl (fun q hq => hPL q (mem_of_map (Pw := PWl ak (M 0).1 pa cl (nI ps) (nI pe) (nI pi_) (nI pn) be co to_ gc le gr ac sq tg fr mi en cd) [0, 3, 4, 5, 6] rfl q hq)) (fun u => rfl) (fun r u h => h)
  exact sp_X7_input hK.2.1 hK.2.2.1 (fun r => ⟨xa, ta, ra, ma, wa, ga, sa, la, gq, mk, ka, M, tr, bm, sf, sn, so, lp, lu, lt, lk, lr, PL, rfl, hn, hO, hH, h0, h1, h2, h3⟩)

set_option maxHeartbeats 4000000 in
set_option maxRecDepth 100000 in
theorem x_begin (l : Launch) (D : va_G) (ak : Nat → ClassId) (ad : Nat → Nat) (sz h7 n : Nat) (L : va_W) (xi : Int32) (hI : IX ak ad h7 n L) : Met l yX7_begin wsX7_begin ({ frames := 4, cells := 0, slots := 0, locals := 82 }) (cPre D ak ad [.ref h7, .int (xi)] L sz) (cI D (S := va_W) (fun _ L1 => IX ak ad h7 n L1) (fun L1 => L1) L sz) 0 0 (va_A L sz) := by
  obtain ⟨xa, ta, ra, ma, wa, ga, sa, la, gq, mk, ka, M, tr, bm, sf, sn, so, lp, lu, lt, lk, lr, PL, rfl, hn, hO, hH, h0, h1, h2, h3⟩ := hI
  obtain ⟨⟨pa, cl, ps, pe, pi_, pn, be, co, to_, gc, le, gr, ac, sq, tg, fr, mi, en, cd, hK, hPL⟩, hHC, hAS⟩ := id hH
  refine fr_i (c_X7_begin l D ak ad sz h7 xa ma (M 0).1 pa ((M 0).2.1 0) ((M 0).2.1 1) ((M 0).2.1 2) ((M 0).2.1 3) ((M 0).2.1 4) ((M 0).2.2 3) (nI ps) (nI pe) (nI pi_) (nI pn) to_ gc le gr xi (fun (r : Int32) (y0 : Int32) (y1 : Int32) (y2 : Int32) (y3 : Int32) (y4 : Nat → Int32) => IX ak ad h7 n (setAll (XL ak ad h7 xa ta ra ma wa ga sa la gq mk ka n M tr bm sf sn so lp lu lt lk lr) [0, 10, 14] (wW_X7_begin ak ad h7 xa ma (M 0).1 ((M 0).2.1 0) y0 y1 y2 y3 y4) ++ PL)) ?_) [0, 10, 14] (by decide) (by rw [XL_len]; decide) rfl (fun q hq => hPL q (mem_of_map (Pw := PWl ak (M 0).1 pa cl (nI ps) (nI pe) (nI pi_) (nI pn) be co to_ gc le gr ac sq tg fr mi en cd) [0, 3, 4, 5, 6] rfl q hq)) (fun u => rfl) (fun r u h => h)
  exact sp_X7_begin hK.2.1 hK.2.2.1 hHC (fun r y0 y1 y2 y3 y4 hc => ⟨xa, ta, ra, ma, wa, ga, sa, la, gq, mk, ka, upM M 0 ((M 0).1, mi5 ((M 0).2.1 0) y0 y1 y2 y3, ma6 ((M 0).2.2 0) ((M 0).2.2 1) ((M 0).2.2 2) y4 ((M 0).2.2 4) ((M 0).2.2 5)), tr, bm, sf, sn, so, lp, lu, lt, lk, lr, PL, rfl, hn, hO, ⟨hH.1, hc, hAS⟩, h0, h1, h2, h3⟩)

set_option maxHeartbeats 4000000 in
set_option maxRecDepth 100000 in
theorem x_state (l : Launch) (D : va_G) (ak : Nat → ClassId) (ad : Nat → Nat) (sz h7 n : Nat) (L : va_W) (xw : Int32) (hI : IX ak ad h7 n L) : Met l yX7_state wsX7_state ({ frames := 0, cells := 0, slots := 0, locals := 0 }) (cPre D ak ad [.ref h7, .int (xw)] L sz) (cI D (S := va_W) (fun _ L1 => IX ak ad h7 n L1) (fun L1 => L1) L sz) 0 0 (va_A L sz) := by
  obtain ⟨xa, ta, ra, ma, wa, ga, sa, la, gq, mk, ka, M, tr, bm, sf, sn, so, lp, lu, lt, lk, lr, PL, rfl, hn, hO, hH, h0, h1, h2, h3⟩ := hI
  obtain ⟨⟨pa, cl, ps, pe, pi_, pn, be, co, to_, gc, le, gr, ac, sq, tg, fr, mi, en, cd, hK, hPL⟩, hHC, hAS⟩ := id hH
  refine fr_i0 (c_X7_state l D ak ad sz h7 xa ma (M 0).1 ((M 0).2.1 0) ((M 0).2.1 1) ((M 0).2.1 2) ((M 0).2.1 3) ((M 0).2.1 4) xw (fun (r : Int32)  => IX ak ad h7 n (setAll (XL ak ad h7 xa ta ra ma wa ga sa la gq mk ka n M tr bm sf sn so lp lu lt lk lr) [0, 10] (wW_X7_state ak ad h7 xa ma (M 0).1 ((M 0).2.1 0) ((M 0).2.1 1) ((M 0).2.1 2) ((M 0).2.1 3) ((M 0).2.1 4)) ++ PL)) ?_) [0, 10] (by decide) (by rw [XL_len]; decide) rfl (fun u => rfl) (fun r u h => h)
  exact sp_X7_state (fun r => ⟨xa, ta, ra, ma, wa, ga, sa, la, gq, mk, ka, M, tr, bm, sf, sn, so, lp, lu, lt, lk, lr, PL, rfl, hn, hO, hH, h0, h1, h2, h3⟩)

set_option maxHeartbeats 4000000 in
set_option maxRecDepth 100000 in
theorem x_fresh (l : Launch) (D : va_G) (ak : Nat → ClassId) (ad : Nat → Nat) (sz h7 n : Nat) (L : va_W)  (hI : IX ak ad h7 n L) : Met l yX7_fresh wsX7_fresh ({ frames := 1, cells := 0, slots := 0, locals := 23 }) (cPre D ak ad [.ref h7] L sz) (cI D (S := va_W) (fun _ L1 => IX ak ad h7 n L1) (fun L1 => L1) L sz) 0 0 (va_A L sz) := by
  obtain ⟨xa, ta, ra, ma, wa, ga, sa, la, gq, mk, ka, M, tr, bm, sf, sn, so, lp, lu, lt, lk, lr, PL, rfl, hn, hO, hH, h0, h1, h2, h3⟩ := hI
  obtain ⟨⟨pa, cl, ps, pe, pi_, pn, be, co, to_, gc, le, gr, ac, sq, tg, fr, mi, en, cd, hK, hPL⟩, hHC, hAS⟩ := id hH
  refine fr_i0 (c_X7_fresh l D ak ad sz h7 xa ma (M 0).1 ((M 0).2.1 0) ((M 0).2.1 1) ((M 0).2.1 2) ((M 0).2.1 3) ((M 0).2.1 4) ((M 0).2.2 2) (fun (r : Int32) (y0 : Nat → Int32) => IX ak ad h7 n (setAll (XL ak ad h7 xa ta ra ma wa ga sa la gq mk ka n M tr bm sf sn so lp lu lt lk lr) [0, 10, 13] (wW_X7_fresh ak ad h7 xa ma (M 0).1 ((M 0).2.1 0) ((M 0).2.1 1) ((M 0).2.1 2) ((M 0).2.1 3) ((M 0).2.1 4) y0) ++ PL)) ?_) [0, 10, 13] (by decide) (by rw [XL_len]; decide) rfl (fun u => rfl) (fun r u h => h)
  exact sp_X7_fresh (fun y0 => ⟨xa, ta, ra, ma, wa, ga, sa, la, gq, mk, ka, upM M 0 ((M 0).1, mi5 ((M 0).2.1 0) ((M 0).2.1 1) ((M 0).2.1 2) ((M 0).2.1 3) ((M 0).2.1 4), ma6 ((M 0).2.2 0) ((M 0).2.2 1) y0 ((M 0).2.2 3) ((M 0).2.2 4) ((M 0).2.2 5)), tr, bm, sf, sn, so, lp, lu, lt, lk, lr, PL, rfl, hn, hO, hH, h0, h1, h2, h3⟩)

set_option maxHeartbeats 4000000 in
set_option maxRecDepth 100000 in
theorem x_count (l : Launch) (D : va_G) (ak : Nat → ClassId) (ad : Nat → Nat) (sz h7 n : Nat) (L : va_W) (xw : Int32) (hI : IX ak ad h7 n L) : Met l yX7_count wsX7_count ({ frames := 0, cells := 0, slots := 0, locals := 0 }) (cPre D ak ad [.ref h7, .int (xw)] L sz) (cI D (S := va_W) (fun _ L1 => IX ak ad h7 n L1) (fun L1 => L1) L sz) 0 0 (va_A L sz) := by
  obtain ⟨xa, ta, ra, ma, wa, ga, sa, la, gq, mk, ka, M, tr, bm, sf, sn, so, lp, lu, lt, lk, lr, PL, rfl, hn, hO, hH, h0, h1, h2, h3⟩ := hI
  obtain ⟨⟨pa, cl, ps, pe, pi_, pn, be, co, to_, gc, le, gr, ac, sq, tg, fr, mi, en, cd, hK, hPL⟩, hHC, hAS⟩ := id hH
  refine fr_i (c_X7_count l D ak ad sz h7 xa ma ta (M 0).1 pa (nI n) tr.1 ((M 0).2.1 0) ((M 0).2.1 1) ((M 0).2.1 2) ((M 0).2.1 3) ((M 0).2.1 4) (nI ps) (nI pe) (nI pi_) (nI pn) xw (fun (r : Int32)  => IX ak ad h7 n (setAll (XL ak ad h7 xa ta ra ma wa ga sa la gq mk ka n M tr bm sf sn so lp lu lt lk lr) [0, 1, 10] (wW_X7_count ak ad h7 xa ma ta (M 0).1 (nI n) tr.1 ((M 0).2.1 0) ((M 0).2.1 1) ((M 0).2.1 2) ((M 0).2.1 3) ((M 0).2.1 4)) ++ PL)) ?_) [0, 1, 10] (by decide) (by rw [XL_len]; decide) rfl (fun q hq => hPL q (mem_of_map (Pw := PWl ak (M 0).1 pa cl (nI ps) (nI pe) (nI pi_) (nI pn) be co to_ gc le gr ac sq tg fr mi en cd) [0] rfl q hq)) (fun u => rfl) (fun r u h => h)
  exact sp_X7_count (fun r => ⟨xa, ta, ra, ma, wa, ga, sa, la, gq, mk, ka, M, tr, bm, sf, sn, so, lp, lu, lt, lk, lr, PL, rfl, hn, hO, hH, h0, h1, h2, h3⟩)
