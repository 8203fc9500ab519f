section
set_option maxHeartbeats 4000000 in
set_option maxRecDepth 100000 in
theorem x_feed (l : Launch) (D : va_G) (ak : Nat → ClassId) (ad : Nat → Nat) (sz h7 : Nat) (v : VW) (L : va_W) (ya : Int64) (yb : Int64) (yc : Int64) (hI : IX ak ad h7 v L) : Met l yX7_feed wsX7_feed ({ frames := 1, cells := 0, slots := 0, locals := 24 }) (cPre D ak ad [.ref h7, .long (ya), .long (yb), .long (yc)] L sz) (cI D (S := va_W) (fun r L1 => r = f_feed v ya yb yc ∧ IX ak ad h7 (s_feed v ya yb yc) L1) (fun L1 => L1) L sz) 0 0 (va_A L sz) := by
  obtain ⟨xa, ta, ra, ma, wa, ga, sa, la, gq, mk, ka, M, tr, bm, sf, sn, so, lp, lu, lt, lk, lr, PL, GA, rfl, hn, hO, hH, h0, h1, h2, h3, hV, hC⟩ := hI
  obtain ⟨⟨pa, cl, ps, pe, pi_, pn, be, co, to_, gc, le, gr, ac, sq, tg, fr, mi, en, cd, hK, hQ, hPL⟩, hHC, hAS, hM, hGA⟩ := id hH
  exact gx_feed l D ak ad sz h7 xa ta ra ma wa ga sa la gq mk ka v.1.length M tr bm sf sn so lp lu lt lk lr PL ya yb yc _ (sq_X7_feed hn (fun y1 hT1 => ⟨_, rfl, rfl, (fun (k_ : List Nat) (hk_ : TL k_ y1) => (show IX ak ad h7 (k_, v.2) (XL ak ad h7 xa ta ra ma wa ga sa la gq mk ka k_.length M ((tr.1, y1, tr.2.2.1, tr.2.2.2.1, tr.2.2.2.2.1, tr.2.2.2.2.2.1, tr.2.2.2.2.2.2.1, tr.2.2.2.2.2.2.2.1, tr.2.2.2.2.2.2.2.2.1, tr.2.2.2.2.2.2.2.2.2.1, tr.2.2.2.2.2.2.2.2.2.2.1, tr.2.2.2.2.2.2.2.2.2.2.2.1, tr.2.2.2.2.2.2.2.2.2.2.2.2.1, tr.2.2.2.2.2.2.2.2.2.2.2.2.2.1, tr.2.2.2.2.2.2.2.2.2.2.2.2.2.2)) bm sf sn so lp lu lt lk lr ++ PL) from ⟨xa, ta, ra, ma, wa, ga, sa, la, gq, mk, ka, M, (tr.1, y1, tr.2.2.1, tr.2.2.2.1, tr.2.2.2.2.1, tr.2.2.2.2.2.1, tr.2.2.2.2.2.2.1, tr.2.2.2.2.2.2.2.1, tr.2.2.2.2.2.2.2.2.1, tr.2.2.2.2.2.2.2.2.2.1, tr.2.2.2.2.2.2.2.2.2.2.1, tr.2.2.2.2.2.2.2.2.2.2.2.1, tr.2.2.2.2.2.2.2.2.2.2.2.2.1, tr.2.2.2.2.2.2.2.2.2.2.2.2.2.1, tr.2.2.2.2.2.2.2.2.2.2.2.2.2.2), bm, sf, sn, so, lp, lu, lt, lk, lr, PL, GA, rfl, hk_, hO, hH, h0, h1, h2, h3, fun k_ hk_ => hV k_ hk_, hC⟩)) _ hT1⟩))

set_option maxHeartbeats 4000000 in
set_option maxRecDepth 100000 in
theorem x_programme (l : Launch) (D : va_G) (ak : Nat → ClassId) (ad : Nat → Nat) (sz h7 : Nat) (v : VW) (L : va_W)  (hI : IX ak ad h7 v L) : Met l yX7_programme wsX7_programme ({ frames := 48, cells := 15, slots := 1133, locals := 2729 }) (cPre D ak ad [.ref h7] L sz) (cI D (S := va_W) (fun r L1 => r = f_programme v ∧ IX ak ad h7 (s_programme v) L1) (fun L1 => L1) L sz) 15 1133 (va_A L sz) := by
  obtain ⟨xa, ta, ra, ma, wa, ga, sa, la, gq, mk, ka, M, tr, bm, sf, sn, so, lp, lu, lt, lk, lr, PL, GA, rfl, hn, hO, hH, h0, h1, h2, h3, hV, hC⟩ := hI
  obtain ⟨⟨pa, cl, ps, pe, pi_, pn, be, co, to_, gc, le, gr, ac, sq, tg, fr, mi, en, cd, hK, hQ, hPL⟩, hHC, hAS, hM, hGA⟩ := id hH
  refine Met.disZ (R := fun r L1 => r = f_programme v ∧ (DIS L1 → IX ak ad h7 (s_programme v) L1)) ?_ (fun r L1 h hd => ⟨h.1, h.2 hd⟩)
  exact gx_programme l D ak ad sz h7 xa ta ra ma wa ga sa la gq mk ka v.1.length M tr bm sf sn so lp lu lt lk lr PL  _ (wq_X7_programme (Φ1 := fun (r : Int32) (y1 : Nat) (y2 : Int32) (y3 : Int32) (y4 : Nat) (y5 : Int32) (y6 : Int64) (y7 : Int32) (y8 : Nat → Int64) (y9 : Nat → Int64) (y10 : Nat → Int32) (y11 : Int32) (y12 : Int32) (y13 : Nat → Nat) (y14 : Nat → Int32) (y15 : Nat → Int64) (y16 : Int32) (y17 : Int32) (y18 : Int32) (y19 : Int32) (y20 : Nat → Int32) (y21 : Nat → Int32) (y22 : Nat → Int32) (y23 : Nat → Int32) (y24 : Nat → Int32) (y25 : Nat → Int32) (y26 : Nat → Int32) (y27 : Nat → Int32) (y28 : Nat → Int32) (y29 : Nat → Int32) (y30 : Nat → Int32) (y31 : Nat → Int32) (y32 : Nat) (y33 : Nat → Int32) (y34 : Nat) (y35 : Int32) (y36 : Int32) (y37 : Int32) (y38 : Int32) (y39 : Nat → Int32) (y40 : Nat → Int32) (y41 : Nat → Int32) => (∃ (s e g l : Nat), (y16 = nI s ∧ y17 = nI e ∧ y18 = nI g ∧ y19 = nI l) ∧ PK s e g l y27 y28 y32 y33) ∧ y11 = 0 ∧ AS y39 ∧ HC y37 y38) (Φ2 := fun (r : Int32) (y1 : Nat) (y2 : Int32) (y3 : Int32) (y4 : Nat) (y5 : Int32) (y6 : Int64) (y7 : Int32) (y8 : Nat → Int64) (y9 : Nat → Int64) (y10 : Nat → Int32) (y11 : Int32) (y12 : Int32) (y13 : Nat → Nat) (y14 : Nat → Int32) (y15 : Nat → Int64) (y16 : Int32) (y17 : Int32) (y18 : Int32) (y19 : Int32) (y20 : Nat → Int32) (y21 : Nat → Int32) (y22 : Nat → Int32) (y23 : Nat → Int32) (y24 : Nat → Int32) (y25 : Nat → Int32) (y26 : Nat → Int32) (y27 : Nat → Int32) (y28 : Nat → Int32) (y29 : Nat → Int32) (y30 : Nat → Int32) (y31 : Nat → Int32) (y32 : Nat) (y33 : Nat → Int32) (y34 : Nat) (y35 : Int32) (y36 : Int32) (y37 : Int32) (y38 : Int32) (y39 : Nat → Int32) (y40 : Nat → Int32) (y41 : Nat → Int32) => r = f_programme v ∧ CMV (hdP v) ((M 0).2.1 0) y35 y36 y37 y38 y39 y40 y41 ((M 0).2.2 3) ((M 0).2.2 4) ∧ ((y34 = (M 0).1 ∧ hdP v = v.2.2.1) ∨ (y34 = y1 ∧ PQ9 (hdP v).1 y16 y17 y18 y19 y20 y21 y22 y23 y24 y25 y26 y27 y28 y29 y30 y31 y32 y33))) (fun _ y1 y2 y3 y4 y5 y6 y7 y8 y9 y10 y11 y12 y13 y14 y15 y16 y17 y18 y19 y20 y21 y22 y23 y24 y25 y26 y27 y28 y29 y30 y31 y32 y33 y34 y35 y36 y37 y38 y39 y40 y41 u w => fun y0 => by
    obtain ⟨⟨s, e, g, l_, ⟨q1, q2, q3, q4⟩, hk⟩, et, hs, hc⟩ := u
    obtain ⟨er, hcm, hor⟩ := w
    have hpg : PGo ak (PL ++ PWl ak y1 y0 y32 y16 y17 y18 y19 y20 y21 y22 y23 y24 y25 y26 y27 y28 y29 y30 y31 y33) (hdP v).1 y34 := by
      rcases hor with ⟨eq, eh⟩ | ⟨eq, hq⟩
      · rw [eq, eh]; exact hH.1.app
      · rw [eq]; exact ⟨y0, y32, s, e, g, l_, y20, y21, y22, y23, y24, y25, y26, y27, y28, y29, y30, y31, y33, hk, (by rw [← q1, ← q2, ← q3, ← q4]; exact hq), fun q hq => List.mem_append_right _ (by rw [q1, q2, q3, q4]; exact hq)⟩
    refine ⟨0, et, er, fun hd => ?_⟩
    have ne : ∀ a_, (∃ e_, (a_, e_) ∈ PL) → (fun a_ => if a_ = y1 then (hdP v).1 else GA a_) a_ = GA a_ := fun a_ h_ => h_.elim (fun e_ h_ => if_neg (dis_ne hd h_))
    have hga : (hdP v).1 = (fun a_ => if a_ = y1 then (hdP v).1 else GA a_) y34 := by
      rcases hor with ⟨eq, eh⟩ | ⟨eq, hq⟩
      · rw [eq, ne _ hH.1.mem, eh]; exact hGA
      · rw [eq]; exact (if_pos rfl).symm
    exact ⟨xa, ta, ra, ma, wa, ga, sa, la, gq, mk, ka, upM M 0 (y34, mi5 ((M 0).2.1 0) y35 y36 y37 y38, ma6 y39 y40 y41 ((M 0).2.2 3) ((M 0).2.2 4) ((M 0).2.2 5)), (y12, tr.2.1, y13, y14, y15, y2, y1, y3, y4, y5, y6, y7, y8, y9, y10), bm, sf, sn, so, lp, lu, lt, lk, lr, PL ++ PWl ak y1 y0 y32 y16 y17 y18 y19 y20 y21 y22 y23 y24 y25 y26 y27 y28 y29 y30 y31 y33, (fun a_ => if a_ = y1 then (hdP v).1 else GA a_), rfl, TL.nil, hO, ⟨hpg, hc, hs, hcm, hga⟩, h0.app ne, h1.app ne, h2.app ne, h3.app ne, hV, hC.app ne⟩) (sp_X7_programme hn.1 (fun r pg d t tok p v_ f sn2 cn code c tk pl vl s e g l_ be co to_ gc le gr ac sq tg fr mi en cd hk => ⟨⟨⟨s, e, g, l_, ⟨rfl, rfl, rfl, rfl⟩, hk⟩, rfl, hAS, hHC⟩, fun e0 e1 e2 hs => ⟨⟨s, e, g, l_, ⟨rfl, rfl, rfl, rfl⟩, hk⟩, rfl, hs, HC.zero⟩⟩)) (sq7_programme hn (fun e he _ _ => by intros; exact ⟨f_pb he, by rw [hdP_b he]; exact hM, Or.inl ⟨rfl, hdP_b he⟩⟩) (fun g hg => by intros; rename_i hq _ _ _ a b c; exact ⟨f_pg hg, by rw [hdP_g hg]; exact CMV.tdZ (parse_good hg) hq hM.1 a b c, Or.inr ⟨rfl, by rw [hdP_g hg]; exact hq⟩⟩)))
end
section
theorem gm_ce {st ce ip ln le mo ta ac ls lf lt cd : Nat → Int32} (h : GM st ce ip ln le mo ta ac ls lf lt cd) : ∃ k : Nat, ce 0 = nI k ∧ k ≤ 6 := by
  obtain ⟨_, ⟨k, h1, h2⟩, _⟩ := h 0 (by decide) (by decide)
  exact ⟨k, h2, h1⟩
theorem im_prog {st ce ip ln ln2 le mo ta ac ls lf lt cd il mk : Nat → Int32} {l : Nat} {sta sta2 hn hs hw : Int32} (hG : GM st ce ip ln2 le mo ta ac ls lf lt cd) (hd : (sta2 = 0 ∧ ∀ p, ¬ p = 0 → ¬ p = 1 → p < 6 → ln2 p = ln p) ∨ (sta2 = sta ∧ ∀ p, ¬ p = 1 → ln2 p = ln p)) (hl : ln 0 = nI l) (hl6 : l ≤ 16) (hH : HS l sta hn hs hw) (hM : MK il mk ln) : (∃ l : Nat, ln2 0 = nI l ∧ l ≤ 16 ∧ HS l sta2 hn hs hw) ∧ MK il mk ln2 := by
  have hq : ∀ p, ¬ p = 0 → ¬ p = 1 → p < 6 → ln2 p = ln p := by
    rcases hd with ⟨_, h⟩ | ⟨_, h⟩
    · exact h
    · exact fun p _ h1 _ => h p h1
  refine ⟨?_, fun m hm hi => ?_⟩
  · rcases hd with ⟨e, _⟩ | ⟨e, h⟩
    · obtain ⟨l2, hr⟩ := hG.rp (p := 0) (by decide) (by decide)
      refine ⟨l2, hr.2.1, hr.2.2.1, Or.inl e, hH.2.1, fun z => ?_⟩
      rw [e] at z
      exact absurd z (by decide)
    · rw [e]
      exact ⟨l, (h 0 (by decide)).trans hl, hl6, hH⟩
  · obtain ⟨l2, a1, a2, a3⟩ := hM m hm hi
    exact ⟨l2, (hq (2 + m) (by omega) (by omega) (by omega)).trans a1, a2, a3⟩
theorem f_same_no {v : VW} {bm : Nat → Int32} {x : Int32} (h : VB4 v bm) (e : ∀ k, k < 4 → x = nI k → bm k = 0) : (-2 : Int32) = f_same v x := by
  cases z : ixO x 4 with
  | none => unfold f_same; rw [z]
  | some k =>
    obtain ⟨h4, ex⟩ := ixO_some (by decide) z
    rw [ex]
    exact f_same_0 h h4 (e k h4 ex)
theorem mk_out {v : VW} {il : Nat → Int32} {x0 x1 : Int32} {P : VW → Prop} (hV : VB4 v il) (h : x0 < 0 ∨ 3 < x0 ∨ (¬ x1 = 0 ∧ il x0.toNatClampNeg = 0)) (hp : P v) : (∀ k, k < 4 → x0 = nI k → (0 : Int32) = f_mark v k x1 ∧ P (s_mark v k x1)) ∧ ((x0 < 0 ∨ 4 ≤ x0) → (0 : Int32) = 0 ∧ P v) := by
  refine ⟨fun k hk e => ?_, fun _ => ⟨rfl, hp⟩⟩
  subst e
  rcases h with h | h | ⟨h, h2⟩
  · exact absurd h (nI_pos (by omega))
  · exact absurd ((nI_ltI (a := 3) (b := k) (by decide) (by omega)).mp h) (by omega)
  · rw [nI_clamp (by omega)] at h2
    have h3 := (hV k hk).mp h2
    exact ⟨f_mark_1 h h3, by rw [s_mark_1 h h3]; exact hp⟩
theorem mk_in {v : VW} {il : Nat → Int32} {x0 x1 : Int32} {m : Nat} {P : VW → Prop} (hV : VB4 v il) (hm : m < 4) (he : x0 = nI m) (hc : x1 = 0 ∨ ¬ il m = 0) (hp : ∀ w : VW, w.1 = v.1 → VB4 w (upd il m (vp_nar .boolean 1)) → w.2.2.1 = (if x1 = 0 then v.2.2.1 else v.2.2.2 m) → w.2.2.2 = (if x1 = 0 then updS v.2.2.2 m v.2.2.1 else v.2.2.2) → P w) : (∀ k, k < 4 → x0 = nI k → (1 : Int32) = f_mark v k x1 ∧ P (s_mark v k x1)) ∧ ((x0 < 0 ∨ 4 ≤ x0) → (1 : Int32) = 0 ∧ P v) := by
  refine ⟨fun k hk e => ?_, fun h => ?_⟩
  · have ek : m = k := (nI_eq (by omega) (by omega)).mp (he.symm.trans e)
    subst ek
    by_cases hx : x1 = 0
    · refine ⟨f_mark_0 hx, hp _ s_mark_t ?_ ?_ ?_⟩
      · rw [s_mark_0 hx]; exact vb_mark hV
      · rw [s_mark_0 hx, if_pos hx]
      · rw [s_mark_0 hx, if_pos hx]
    · have hb : ¬ il m = 0 := hc.resolve_left hx
      have hb2 : ¬ v.2.1 m = false := fun z => hb ((hV m hm).mpr z)
      refine ⟨f_mark_2 hb2, hp _ s_mark_t ?_ ?_ ?_⟩
      · rw [s_mark_2 hx hb2]; exact vb_back hV hm hb
      · rw [s_mark_2 hx hb2, if_neg hx]
      · rw [s_mark_2 hx hb2, if_neg hx]
  · subst he
    rcases h with h | h
    · exact absurd h (nI_pos (by omega))
    · exact absurd ((nI_leI (a := 4) (b := m) (by decide) (by omega)).mp h) (by omega)
set_option maxHeartbeats 4000000 in
set_option maxRecDepth 100000 in
theorem m_stuff (l : Launch) (D : va_G) (ak : Nat → ClassId) (ad : Nat → Nat) (sz h : Nat) (v : VW) (L : va_W) (x0 : Int32) (x1 : Int32) (hI : IM ak h v L) : Met l yX8_stuff wsX8_stuff ({ frames := 1, cells := 0, slots := 0, locals := 22 }) (cPre D ak ad [.ref h, .int (x0), .int (x1)] L sz) (cI D (S := va_W) (fun r L1 => r = f_stuff v.2.2.1 x0 x1 ∧ IM ak h v L1) (fun L1 => L1) L sz) 0 0 (va_A L sz) := by
  obtain ⟨am, F, fw, A, b, rfl, hn, hG, hC, ⟨l_, hl, hl6, hH⟩, hM, hV, hR⟩ := hI
  exact gm_stuff l D ak ad sz h am v.1.length F fw A b x0 x1 _ (wq_X8_stuff (Φ1 := fun (r : Int32) (y0 : Int32) => True) (Φ2 := fun (r : Int32) (y0 : Int32) => r = f_stuff v.2.2.1 x0 x1) (fun _ y0 u w => ⟨w, ⟨am, ofL 0 [y0, (F 1), (F 2), (F 3), (F 4), (F 5), (F 6), (F 7), (F 8), (F 9), (F 10), (F 11), (F 12), (F 13), (F 14), (F 15), (F 16), (F 17), (F 18), (F 19)], fw, A, b, rfl, hn, hG, hC, ⟨l_, hl, hl6, hH⟩, hM, hV, hR⟩⟩) (sp_X8_stuff hG (fun _ => trivial)) (sq8_stuff (m := v.2.2.1) hR.1.1 hR.2.1 rfl))

set_option maxHeartbeats 4000000 in
set_option maxRecDepth 100000 in
theorem m_line (l : Launch) (D : va_G) (ak : Nat → ClassId) (ad : Nat → Nat) (sz h : Nat) (v : VW) (L : va_W) (x0 : Int32) (x1 : Int32) (hI : IM ak h v L) : Met l yX8_line wsX8_line ({ frames := 1, cells := 0, slots := 0, locals := 22 }) (cPre D ak ad [.ref h, .int (x0), .int (x1)] L sz) (cI D (S := va_W) (fun r L1 => r = f_line v.2.2.1 x0 x1 ∧ IM ak h v L1) (fun L1 => L1) L sz) 0 0 (va_A L sz) := by
  obtain ⟨am, F, fw, A, b, rfl, hn, hG, hC, ⟨l_, hl, hl6, hH⟩, hM, hV, hR⟩ := hI
  exact gm_line l D ak ad sz h am v.1.length F fw A b x0 x1 _ (wq_X8_line (Φ1 := fun (r : Int32) (y0 : Int32) => True) (Φ2 := fun (r : Int32) (y0 : Int32) => r = f_line v.2.2.1 x0 x1) (fun _ y0 u w => ⟨w, ⟨am, ofL 0 [y0, (F 1), (F 2), (F 3), (F 4), (F 5), (F 6), (F 7), (F 8), (F 9), (F 10), (F 11), (F 12), (F 13), (F 14), (F 15), (F 16), (F 17), (F 18), (F 19)], fw, A, b, rfl, hn, hG, hC, ⟨l_, hl, hl6, hH⟩, hM, hV, hR⟩⟩) (sp_X8_line hG (fun _ => trivial)) (sq8_line (m := v.2.2.1) hR.1.1 hR.2.1 hR.1.2 hR.2.2.1 rfl))

set_option maxHeartbeats 4000000 in
set_option maxRecDepth 100000 in
theorem m_cost (l : Launch) (D : va_G) (ak : Nat → ClassId) (ad : Nat → Nat) (sz h : Nat) (v : VW) (L : va_W)  (hI : IM ak h v L) : Met l yX8_cost wsX8_cost ({ frames := 0, cells := 0, slots := 0, locals := 0 }) (cPre D ak ad [.ref h] L sz) (cI D (S := va_W) (fun r L1 => r = f_cost v.2.2.1 ∧ IM ak h v L1) (fun L1 => L1) L sz) 0 0 (va_A L sz) := by
  obtain ⟨am, F, fw, A, b, rfl, hn, hG, hC, ⟨l_, hl, hl6, hH⟩, hM, hV, hR⟩ := hI
  exact gm_cost l D ak ad sz h am v.1.length F fw A b  _ (wq_X8_cost (Φ1 := fun (r : Int32) (y0 : Int32) => True) (Φ2 := fun (r : Int32) (y0 : Int32) => r = f_cost v.2.2.1) (fun _ y0 u w => ⟨w, ⟨am, ofL 0 [y0, (F 1), (F 2), (F 3), (F 4), (F 5), (F 6), (F 7), (F 8), (F 9), (F 10), (F 11), (F 12), (F 13), (F 14), (F 15), (F 16), (F 17), (F 18), (F 19)], fw, A, b, rfl, hn, hG, hC, ⟨l_, hl, hl6, hH⟩, hM, hV, hR⟩⟩) (sp_X8_cost hG (fun _ => trivial)) (sq8_cost (m := v.2.2.1) hR.1.1 hR.2.1 hR.1.2 rfl))

set_option maxHeartbeats 4000000 in
set_option maxRecDepth 100000 in
theorem m_inputs (l : Launch) (D : va_G) (ak : Nat → ClassId) (ad : Nat → Nat) (sz h : Nat) (v : VW) (L : va_W)  (hI : IM ak h v L) : Met l yX8_inputs wsX8_inputs ({ frames := 2, cells := 0, slots := 0, locals := 43 }) (cPre D ak ad [.ref h] L sz) (cI D (S := va_W) (fun r L1 => r = f_inputs v.2.2.1 ∧ IM ak h v L1) (fun L1 => L1) L sz) 0 0 (va_A L sz) := by
  obtain ⟨am, F, fw, A, b, rfl, hn, hG, hC, ⟨l_, hl, hl6, hH⟩, hM, hV, hR⟩ := hI
  exact gm_inputs l D ak ad sz h am v.1.length F fw A b  _ (wq_X8_inputs (Φ1 := fun (r : Int32) (y0 : Int32) => True) (Φ2 := fun (r : Int32) (y0 : Int32) => r = f_inputs v.2.2.1) (fun _ y0 u w => ⟨w, ⟨am, ofL 0 [y0, (F 1), (F 2), (F 3), (F 4), (F 5), (F 6), (F 7), (F 8), (F 9), (F 10), (F 11), (F 12), (F 13), (F 14), (F 15), (F 16), (F 17), (F 18), (F 19)], fw, A, b, rfl, hn, hG, hC, ⟨l_, hl, hl6, hH⟩, hM, hV, hR⟩⟩) (sp_X8_inputs hG (fun _ => trivial)) (sq8_inputs (m := v.2.2.1) hR.1.1 hR.2.1 rfl))

set_option maxHeartbeats 4000000 in
set_option maxRecDepth 100000 in
theorem m_input (l : Launch) (D : va_G) (ak : Nat → ClassId) (ad : Nat → Nat) (sz h : Nat) (v : VW) (L : va_W) (x0 : Int32) (x1 : Int32) (hI : IM ak h v L) : Met l yX8_input wsX8_input ({ frames := 2, cells := 0, slots := 0, locals := 46 }) (cPre D ak ad [.ref h, .int (x0), .int (x1)] L sz) (cI D (S := va_W) (fun r L1 => r = f_input v.2.2.1 x0 x1 ∧ IM ak h v L1) (fun L1 => L1) L sz) 0 0 (va_A L sz) := by
  obtain ⟨am, F, fw, A, b, rfl, hn, hG, hC, ⟨l_, hl, hl6, hH⟩, hM, hV, hR⟩ := hI
  exact gm_input l D ak ad sz h am v.1.length F fw A b x0 x1 _ (wq_X8_input (Φ1 := fun (r : Int32) (y0 : Int32) => True) (Φ2 := fun (r : Int32) (y0 : Int32) => r = f_input v.2.2.1 x0 x1) (fun _ y0 u w => ⟨w, ⟨am, ofL 0 [y0, (F 1), (F 2), (F 3), (F 4), (F 5), (F 6), (F 7), (F 8), (F 9), (F 10), (F 11), (F 12), (F 13), (F 14), (F 15), (F 16), (F 17), (F 18), (F 19)], fw, A, b, rfl, hn, hG, hC, ⟨l_, hl, hl6, hH⟩, hM, hV, hR⟩⟩) (sp_X8_input hG (fun _ => trivial)) (sq8_input (m := v.2.2.1) hR.1.1 hR.2.1 rfl))

set_option maxHeartbeats 4000000 in
set_option maxRecDepth 100000 in
theorem m_state (l : Launch) (D : va_G) (ak : Nat → ClassId) (ad : Nat → Nat) (sz h : Nat) (v : VW) (L : va_W) (x0 : Int32) (hI : IM ak h v L) : Met l yX8_state wsX8_state ({ frames := 1, cells := 0, slots := 0, locals := 22 }) (cPre D ak ad [.ref h, .int (x0)] L sz) (cI D (S := va_W) (fun r L1 => r = f_state v.2.2.1 x0 ∧ IM ak h v L1) (fun L1 => L1) L sz) 0 0 (va_A L sz) := by
  obtain ⟨am, F, fw, A, b, rfl, hn, hG, hC, ⟨l_, hl, hl6, hH⟩, hM, hV, hR⟩ := hI
  exact gm_state l D ak ad sz h am v.1.length F fw A b x0 _ (wq_X8_state (Φ1 := fun (r : Int32) (y0 : Int32) => True) (Φ2 := fun (r : Int32) (y0 : Int32) => r = f_state v.2.2.1 x0) (fun _ y0 u w => ⟨w, ⟨am, ofL 0 [y0, (F 1), (F 2), (F 3), (F 4), (F 5), (F 6), (F 7), (F 8), (F 9), (F 10), (F 11), (F 12), (F 13), (F 14), (F 15), (F 16), (F 17), (F 18), (F 19)], fw, A, b, rfl, hn, hG, hC, ⟨l_, hl, hl6, hH⟩, hM, hV, hR⟩⟩) (sp_X8_state (fun _ => trivial)) (sq8_state (m := v.2.2.1) hR.2.1 hR.2.2.1 rfl))

set_option maxHeartbeats 4000000 in
set_option maxRecDepth 100000 in
theorem m_count (l : Launch) (D : va_G) (ak : Nat → ClassId) (ad : Nat → Nat) (sz h : Nat) (v : VW) (L : va_W) (x0 : Int32) (hI : IM ak h v L) : Met l yX8_count wsX8_count ({ frames := 1, cells := 0, slots := 0, locals := 22 }) (cPre D ak ad [.ref h, .int (x0)] L sz) (cI D (S := va_W) (fun r L1 => r = f_count v.1.length v.2.2.1 x0 ∧ IM ak h v L1) (fun L1 => L1) L sz) 0 0 (va_A L sz) := by
  obtain ⟨am, F, fw, A, b, rfl, hn, hG, hC, ⟨l_, hl, hl6, hH⟩, hM, hV, hR⟩ := hI
  exact gm_count l D ak ad sz h am v.1.length F fw A b x0 _ (wq_X8_count (Φ1 := fun (r : Int32) (y0 : Int32) => True) (Φ2 := fun (r : Int32) (y0 : Int32) => r = f_count v.1.length v.2.2.1 x0) (fun _ y0 u w => ⟨w, ⟨am, ofL 0 [y0, (F 1), (F 2), (F 3), (F 4), (F 5), (F 6), (F 7), (F 8), (F 9), (F 10), (F 11), (F 12), (F 13), (F 14), (F 15), (F 16), (F 17), (F 18), (F 19)], fw, A, b, rfl, hn, hG, hC, ⟨l_, hl, hl6, hH⟩, hM, hV, hR⟩⟩) (sp_X8_count (fun _ => trivial)) (sq8_count (m := v.2.2.1) hR.1.1 rfl))

set_option maxHeartbeats 4000000 in
set_option maxRecDepth 100000 in
theorem m_fresh (l : Launch) (D : va_G) (ak : Nat → ClassId) (ad : Nat → Nat) (sz h : Nat) (v : VW) (L : va_W)  (hI : IM ak h v L) : Met l yX8_fresh wsX8_fresh ({ frames := 0, cells := 0, slots := 0, locals := 0 }) (cPre D ak ad [.ref h] L sz) (cI D (S := va_W) (fun r L1 => r = 1 ∧ IM ak h (setH v (s_fresh v.2.2.1 )) L1) (fun L1 => L1) L sz) 0 0 (va_A L sz) := by
  obtain ⟨am, F, fw, A, b, rfl, hn, hG, hC, ⟨l_, hl, hl6, hH⟩, hM, hV, hR⟩ := hI
  exact gm_fresh l D ak ad sz h am v.1.length F fw A b  _ (wq_X8_fresh (Φ1 := fun (r : Int32) (y0 : Int32) (y1 : Nat → Int32) => True) (Φ2 := fun (r : Int32) (y0 : Int32) (y1 : Nat → Int32) => r = 1 ∧ RH9 v.2.2.1.1 (s_fresh v.2.2.1 ).2.2.2 (F 15) (F 16) (F 17) (F 18) (A 37) y1 (A 39)) (fun _ y0 y1 u w => ⟨w.1, ⟨am, ofL 0 [y0, (F 1), (F 2), (F 3), (F 4), (F 5), (F 6), (F 7), (F 8), (F 9), (F 10), (F 11), (F 12), (F 13), (F 14), (F 15), (F 16), (F 17), (F 18), (F 19)], fw, ofL (fun _ => 0) [(A 0), (A 1), (A 2), (A 3), (A 4), (fun _ => 0), (fun _ => 0), (A 7), (A 8), (A 9), (A 10), (A 11), (A 12), (A 13), (A 14), (A 15), (A 16), (A 17), (A 18), (A 19), (A 20), (A 21), (A 22), (A 23), (A 24), (A 25), (A 26), (A 27), (A 28), (A 29), (A 30), (A 31), (A 32), (A 33), (A 34), (A 35), (A 36), (A 37), y1, (A 39), (A 40), (A 41), (A 42), (A 43), (A 44), (A 45), (A 46)], b, rfl, hn, hG, hC, ⟨l_, hl, hl6, hH⟩, hM, hV, hR.freshZ w.2⟩⟩) (sp_X8_fresh (fun y1 => trivial)) (sq8_fresh (m := v.2.2.1) hR.2.2.1 (fun _ a => ⟨rfl, a⟩)))

set_option maxHeartbeats 4000000 in
set_option maxRecDepth 100000 in
theorem m_lay (l : Launch) (D : va_G) (ak : Nat → ClassId) (ad : Nat → Nat) (sz h : Nat) (v : VW) (L : va_W) (x0 : Int32) (x1 : Int32) (x2 : Int32) (hI : IM ak h v L) : Met l yX8_lay wsX8_lay ({ frames := 1, cells := 0, slots := 0, locals := 22 }) (cPre D ak ad [.ref h, .int (x0), .int (x1), .int (x2)] L sz) (cI D (S := va_W) (fun r L1 => r = f_lay v.2.2.1 x0 x1 x2 ∧ IM ak h (setH v (s_lay v.2.2.1 x0 x1 x2)) L1) (fun L1 => L1) L sz) 0 0 (va_A L sz) := by
  obtain ⟨am, F, fw, A, b, rfl, hn, hG, hC, ⟨l_, hl, hl6, hH⟩, hM, hV, hR⟩ := hI
  exact gm_lay l D ak ad sz h am v.1.length F fw A b x0 x1 x2 _ (wq_X8_lay (Φ1 := fun (r : Int32) (y0 : Int32) (y1 : Nat → Int32) (y2 : Nat → Int32) (y3 : Nat → Int32) => GM (A 1) (A 2) (A 3) (A 4) (A 11) (A 12) (A 13) (A 14) y1 (A 17) (A 18) (A 19)) (Φ2 := fun (r : Int32) (y0 : Int32) (y1 : Nat → Int32) (y2 : Nat → Int32) (y3 : Nat → Int32) => r = f_lay v.2.2.1 x0 x1 x2 ∧ YB 0 (nL v.2.2.1.1) (s_lay v.2.2.1 x0 x1 x2).2.1 (s_lay v.2.2.1 x0 x1 x2).2.2.1 y1 y2 ∧ KY0 (A 15) (A 16) y1 y2 ∧ RH9 v.2.2.1.1 (s_lay v.2.2.1 x0 x1 x2).2.2.2 (F 15) (F 16) (F 17) (F 18) (A 37) y3 (A 39)) (fun _ y0 y1 y2 y3 u w => ⟨w.1, ⟨am, ofL 0 [y0, (F 1), (F 2), (F 3), (F 4), (F 5), (F 6), (F 7), (F 8), (F 9), (F 10), (F 11), (F 12), (F 13), (F 14), (F 15), (F 16), (F 17), (F 18), (F 19)], fw, ofL (fun _ => 0) [(A 0), (A 1), (A 2), (A 3), (A 4), (fun _ => 0), (fun _ => 0), (A 7), (A 8), (A 9), (A 10), (A 11), (A 12), (A 13), (A 14), y1, y2, (A 17), (A 18), (A 19), (A 20), (A 21), (A 22), (A 23), (A 24), (A 25), (A 26), (A 27), (A 28), (A 29), (A 30), (A 31), (A 32), (A 33), (A 34), (A 35), (A 36), (A 37), y3, (A 39), (A 40), (A 41), (A 42), (A 43), (A 44), (A 45), (A 46)], b, rfl, hn, u, hC, ⟨l_, hl, hl6, hH⟩, hM, hV, hR.layZ w.2.1 w.2.2.1 w.2.2.2⟩⟩) (sp_X8_lay hG (fun _ y1 y2 y3 _ hG2 => hG2)) (sq8_lay (m := v.2.2.1) hR.1.1 hR.2.1 hR.1.2 hR.2.2.1 (fun _ _ _ a b c => ⟨rfl, a, b, c⟩)))

set_option maxHeartbeats 4000000 in
set_option maxRecDepth 100000 in
theorem m_begin (l : Launch) (D : va_G) (ak : Nat → ClassId) (ad : Nat → Nat) (sz h : Nat) (v : VW) (L : va_W) (x0 : Int32) (hI : IM ak h v L) : Met l yX8_begin wsX8_begin ({ frames := 2, cells := 0, slots := 0, locals := 46 }) (cPre D ak ad [.ref h, .int (x0)] L sz) (cI D (S := va_W) (fun r L1 => r = f_begin v.2.2.1 x0 ∧ IM ak h (setH v (s_begin v.2.2.1 x0)) L1) (fun L1 => L1) L sz) 0 0 (va_A L sz) := by
  obtain ⟨am, F, fw, A, b, rfl, hn, hG, hC, ⟨l_, hl, hl6, hH⟩, hM, hV, hR⟩ := hI
  exact gm_begin l D ak ad sz h am v.1.length F fw A b x0 _ (wq_X8_begin (Φ1 := fun (r : Int32) (y0 : Int32) (y1 : Int32) (y2 : Int32) (y3 : Int32) (y4 : Int32) (y5 : Nat → Int32) => (∃ l : Nat, (A 4) 0 = nI l ∧ l ≤ 16 ∧ HS l y1 y2 y3 y4)) (Φ2 := fun (r : Int32) (y0 : Int32) (y1 : Int32) (y2 : Int32) (y3 : Int32) (y4 : Int32) (y5 : Nat → Int32) => r = f_begin v.2.2.1 x0 ∧ RH9 v.2.2.1.1 (s_begin v.2.2.1 x0).2.2.2 y1 y2 y3 y4 y5 (A 38) (A 39)) (fun _ y0 y1 y2 y3 y4 y5 u w => ⟨w.1, ⟨am, ofL 0 [y0, (F 1), (F 2), (F 3), (F 4), (F 5), (F 6), (F 7), (F 8), (F 9), (F 10), (F 11), (F 12), (F 13), (F 14), y1, y2, y3, y4, (F 19)], fw, ofL (fun _ => 0) [(A 0), (A 1), (A 2), (A 3), (A 4), (fun _ => 0), (fun _ => 0), (A 7), (A 8), (A 9), (A 10), (A 11), (A 12), (A 13), (A 14), (A 15), (A 16), (A 17), (A 18), (A 19), (A 20), (A 21), (A 22), (A 23), (A 24), (A 25), (A 26), (A 27), (A 28), (A 29), (A 30), (A 31), (A 32), (A 33), (A 34), (A 35), (A 36), y5, (A 38), (A 39), (A 40), (A 41), (A 42), (A 43), (A 44), (A 45), (A 46)], b, rfl, hn, hG, hC, u, hM, hV, hR.beginZ w.2⟩⟩) (sp_X8_begin hG ⟨l_, hl, hl6, hH⟩ (fun y5 hz => ⟨l_, hl, hl6, Or.inr (Or.inl rfl), ⟨0, 0, rfl, rfl, Nat.le_refl _, by decide⟩, fun _ => ⟨0, Nat.pos_of_ne_zero (fun e => hz (by rw [hl, e]; rfl)), rfl⟩⟩)) (sq8_begin (m := v.2.2.1) hR.1.1 hR.2.1 hR.2.2.1 (fun _ _ _ _ _ a => ⟨rfl, a⟩)))

set_option maxHeartbeats 4000000 in
set_option maxRecDepth 100000 in
theorem m_run (l : Launch) (D : va_G) (ak : Nat → ClassId) (ad : Nat → Nat) (sz h : Nat) (v : VW) (L : va_W) (x0 : Int32) (hI : IM ak h v L) : Met l yX8_run wsX8_run ({ frames := 5, cells := 0, slots := 0, locals := 117 }) (cPre D ak ad [.ref h, .int (x0)] L sz) (cI D (S := va_W) (fun r L1 => r = f_run v.2.2.1 x0 ∧ IM ak h (setH v (s_run v.2.2.1 x0)) L1) (fun L1 => L1) L sz) 0 0 (va_A L sz) := by
  obtain ⟨am, F, fw, A, b, rfl, hn, hG, hC, ⟨l_, hl, hl6, hH⟩, hM, hV, hR⟩ := hI
  exact gm_run l D ak ad sz h am v.1.length F fw A b x0 _ (wq_X8_run (Φ1 := fun (r : Int32) (y0 : Int32) (y1 : Int32) (y2 : Int32) (y3 : Int32) (y4 : Int32) (y5 : Int32) (y6 : Int32) (y7 : Int32) (y8 : Int32) (y9 : Int32) (y10 : Int32) (y11 : Nat → Int32) (y12 : Nat → Int32) (y13 : Nat → Int32) (y14 : Nat → Int32) (y15 : Nat → Int32) (y16 : Nat → Int32) (y17 : Nat → Int32) (y18 : Nat → Int32) (y19 : Nat → Int32) (y20 : Nat → Int32) (y21 : Nat → Int32) (y22 : Nat → Int32) (y23 : Nat → Int32) (y24 : Nat → Int32) (y25 : Nat → Int32) (y26 : Nat → Int32) => (∃ l : Nat, (A 4) 0 = nI l ∧ l ≤ 16 ∧ HS l y7 y8 y9 y10)) (Φ2 := fun (r : Int32) (y0 : Int32) (y1 : Int32) (y2 : Int32) (y3 : Int32) (y4 : Int32) (y5 : Int32) (y6 : Int32) (y7 : Int32) (y8 : Int32) (y9 : Int32) (y10 : Int32) (y11 : Nat → Int32) (y12 : Nat → Int32) (y13 : Nat → Int32) (y14 : Nat → Int32) (y15 : Nat → Int32) (y16 : Nat → Int32) (y17 : Nat → Int32) (y18 : Nat → Int32) (y19 : Nat → Int32) (y20 : Nat → Int32) (y21 : Nat → Int32) (y22 : Nat → Int32) (y23 : Nat → Int32) (y24 : Nat → Int32) (y25 : Nat → Int32) (y26 : Nat → Int32) => r = f_run v.2.2.1 x0 ∧ RH9 v.2.2.1.1 (s_run v.2.2.1 x0).2.2.2 y7 y8 y9 y10 y24 y25 y26) (fun _ y0 y1 y2 y3 y4 y5 y6 y7 y8 y9 y10 y11 y12 y13 y14 y15 y16 y17 y18 y19 y20 y21 y22 y23 y24 y25 y26 u w => ⟨w.1, ⟨am, ofL 0 [y0, (F 1), (F 2), (F 3), (F 4), (F 5), (F 6), (F 7), y1, y2, y3, y4, y5, y6, (F 14), y7, y8, y9, y10, (F 19)], fw, ofL (fun _ => 0) [(A 0), (A 1), (A 2), (A 3), (A 4), (fun _ => 0), (fun _ => 0), (A 7), (A 8), (A 9), (A 10), (A 11), (A 12), (A 13), (A 14), (A 15), (A 16), (A 17), (A 18), (A 19), (A 20), (A 21), y11, y12, y13, y14, y15, y16, y17, y18, y19, y20, y21, y22, y23, (A 35), (A 36), y24, y25, y26, (A 40), (A 41), (A 42), (A 43), (A 44), (A 45), (A 46)], b, rfl, hn, hG, hC, u, hM, hV, hR.runZ w.2⟩⟩) (sp_X8_run hG hl hl6 hH (fun _ y1 y2 y3 y4 y5 y6 y7 y8 y9 y10 y11 y12 y13 y14 y15 y16 y17 y18 y19 y20 y21 y22 y23 y24 y25 y26 hH2 => ⟨l_, hl, hl6, hH2⟩)) (sq8_runM (m := v.2.2.1) hR.1.1 hR.2.1 hR.1.2 hR.2.2.1 (by intros; rename_i a; exact ⟨rfl, a⟩)))

set_option maxHeartbeats 4000000 in
set_option maxRecDepth 100000 in
theorem m_steps (l : Launch) (D : va_G) (ak : Nat → ClassId) (ad : Nat → Nat) (sz h : Nat) (v : VW) (L : va_W) (x0 : Int32) (hI : IM ak h v L) : Met l yX8_steps wsX8_steps ({ frames := 7, cells := 0, slots := 0, locals := 162 }) (cPre D ak ad [.ref h, .int (x0)] L sz) (cI D (S := va_W) (fun r L1 => r = f_steps v.2.2.1 x0 ∧ IM ak h v L1) (fun L1 => L1) L sz) 0 0 (va_A L sz) := by
  obtain ⟨am, F, fw, A, b, rfl, hn, hG, hC, ⟨l_, hl, hl6, hH⟩, hM, hV, hR⟩ := hI
  exact gm_steps l D ak ad sz h am v.1.length F fw A b x0 _ (wq_X8_steps (Φ1 := fun (r : Int32) (y0 : Int32) (y1 : Int32) (y2 : Int32) (y3 : Int32) (y4 : Int32) (y5 : Int32) (y6 : Int32) (y7 : Int32) (y8 : Nat → Int32) (y9 : Nat → Int32) (y10 : Nat → Int32) (y11 : Nat → Int32) (y12 : Nat → Int32) (y13 : Nat → Int32) (y14 : Nat → Int32) (y15 : Nat → Int32) (y16 : Nat → Int32) (y17 : Nat → Int32) (y18 : Nat → Int32) (y19 : Nat → Int32) (y20 : Nat → Int32) (y21 : Nat → Int32) (y22 : Nat → Int32) => True) (Φ2 := fun (r : Int32) (y0 : Int32) (y1 : Int32) (y2 : Int32) (y3 : Int32) (y4 : Int32) (y5 : Int32) (y6 : Int32) (y7 : Int32) (y8 : Nat → Int32) (y9 : Nat → Int32) (y10 : Nat → Int32) (y11 : Nat → Int32) (y12 : Nat → Int32) (y13 : Nat → Int32) (y14 : Nat → Int32) (y15 : Nat → Int32) (y16 : Nat → Int32) (y17 : Nat → Int32) (y18 : Nat → Int32) (y19 : Nat → Int32) (y20 : Nat → Int32) (y21 : Nat → Int32) (y22 : Nat → Int32) => r = f_steps v.2.2.1 x0) (fun _ y0 y1 y2 y3 y4 y5 y6 y7 y8 y9 y10 y11 y12 y13 y14 y15 y16 y17 y18 y19 y20 y21 y22 u w => ⟨w, ⟨am, ofL 0 [y0, (F 1), (F 2), (F 3), (F 4), (F 5), (F 6), (F 7), y1, y2, y3, y4, y5, y6, y7, (F 15), (F 16), (F 17), (F 18), (F 19)], fw, ofL (fun _ => 0) [(A 0), (A 1), (A 2), (A 3), (A 4), (fun _ => 0), (fun _ => 0), (A 7), (A 8), (A 9), (A 10), (A 11), (A 12), (A 13), (A 14), (A 15), (A 16), (A 17), (A 18), (A 19), (A 20), (A 21), y8, y9, y10, y11, y12, y13, y14, y15, y16, y17, y18, y19, y20, y21, y22, (A 37), (A 38), (A 39), (A 40), (A 41), (A 42), (A 43), (A 44), (A 45), (A 46)], b, rfl, hn, hG, hC, ⟨l_, hl, hl6, hH⟩, hM, hV, hR⟩⟩) (sp_X8_steps hG (fun _ y1 y2 y3 y4 y5 y6 y7 y8 y9 y10 y11 y12 y13 y14 y15 y16 y17 y18 y19 y20 y21 y22 => trivial)) (sq8_steps (m := v.2.2.1) hR.1 hR.2.1 (by unfold BWq; intros; rfl)))

set_option maxHeartbeats 4000000 in
set_option maxRecDepth 100000 in
theorem m_falls (l : Launch) (D : va_G) (ak : Nat → ClassId) (ad : Nat → Nat) (sz h : Nat) (v : VW) (L : va_W) (x0 : Int32) (hI : IM ak h v L) : Met l yX8_falls wsX8_falls ({ frames := 7, cells := 0, slots := 0, locals := 162 }) (cPre D ak ad [.ref h, .int (x0)] L sz) (cI D (S := va_W) (fun r L1 => r = f_falls v.2.2.1 x0 ∧ IM ak h v L1) (fun L1 => L1) L sz) 0 0 (va_A L sz) := by
  obtain ⟨am, F, fw, A, b, rfl, hn, hG, hC, ⟨l_, hl, hl6, hH⟩, hM, hV, hR⟩ := hI
  exact gm_falls l D ak ad sz h am v.1.length F fw A b x0 _ (wq_X8_falls (Φ1 := fun (r : Int32) (y0 : Int32) (y1 : Int32) (y2 : Int32) (y3 : Int32) (y4 : Int32) (y5 : Int32) (y6 : Int32) (y7 : Int32) (y8 : Nat → Int32) (y9 : Nat → Int32) (y10 : Nat → Int32) (y11 : Nat → Int32) (y12 : Nat → Int32) (y13 : Nat → Int32) (y14 : Nat → Int32) (y15 : Nat → Int32) (y16 : Nat → Int32) (y17 : Nat → Int32) (y18 : Nat → Int32) (y19 : Nat → Int32) (y20 : Nat → Int32) (y21 : Nat → Int32) (y22 : Nat → Int32) => True) (Φ2 := fun (r : Int32) (y0 : Int32) (y1 : Int32) (y2 : Int32) (y3 : Int32) (y4 : Int32) (y5 : Int32) (y6 : Int32) (y7 : Int32) (y8 : Nat → Int32) (y9 : Nat → Int32) (y10 : Nat → Int32) (y11 : Nat → Int32) (y12 : Nat → Int32) (y13 : Nat → Int32) (y14 : Nat → Int32) (y15 : Nat → Int32) (y16 : Nat → Int32) (y17 : Nat → Int32) (y18 : Nat → Int32) (y19 : Nat → Int32) (y20 : Nat → Int32) (y21 : Nat → Int32) (y22 : Nat → Int32) => r = f_falls v.2.2.1 x0) (fun _ y0 y1 y2 y3 y4 y5 y6 y7 y8 y9 y10 y11 y12 y13 y14 y15 y16 y17 y18 y19 y20 y21 y22 u w => ⟨w, ⟨am, ofL 0 [y0, (F 1), (F 2), (F 3), (F 4), (F 5), (F 6), (F 7), y1, y2, y3, y4, y5, y6, y7, (F 15), (F 16), (F 17), (F 18), (F 19)], fw, ofL (fun _ => 0) [(A 0), (A 1), (A 2), (A 3), (A 4), (fun _ => 0), (fun _ => 0), (A 7), (A 8), (A 9), (A 10), (A 11), (A 12), (A 13), (A 14), (A 15), (A 16), (A 17), (A 18), (A 19), (A 20), (A 21), y8, y9, y10, y11, y12, y13, y14, y15, y16, y17, y18, y19, y20, y21, y22, (A 37), (A 38), (A 39), (A 40), (A 41), (A 42), (A 43), (A 44), (A 45), (A 46)], b, rfl, hn, hG, hC, ⟨l_, hl, hl6, hH⟩, hM, hV, hR⟩⟩) (sp_X8_falls hG (fun _ y1 y2 y3 y4 y5 y6 y7 y8 y9 y10 y11 y12 y13 y14 y15 y16 y17 y18 y19 y20 y21 y22 => trivial)) (sq8_falls (m := v.2.2.1) hR.1 hR.2.1 (by unfold BWq; intros; rfl)))

set_option maxHeartbeats 4000000 in
set_option maxRecDepth 100000 in
theorem m_first (l : Launch) (D : va_G) (ak : Nat → ClassId) (ad : Nat → Nat) (sz h : Nat) (v : VW) (L : va_W) (x0 : Int32) (hI : IM ak h v L) : Met l yX8_first wsX8_first ({ frames := 7, cells := 0, slots := 0, locals := 162 }) (cPre D ak ad [.ref h, .int (x0)] L sz) (cI D (S := va_W) (fun r L1 => r = f_first v.2.2.1 x0 ∧ IM ak h v L1) (fun L1 => L1) L sz) 0 0 (va_A L sz) := by
  obtain ⟨am, F, fw, A, b, rfl, hn, hG, hC, ⟨l_, hl, hl6, hH⟩, hM, hV, hR⟩ := hI
  exact gm_first l D ak ad sz h am v.1.length F fw A b x0 _ (wq_X8_first (Φ1 := fun (r : Int32) (y0 : Int32) (y1 : Int32) (y2 : Int32) (y3 : Int32) (y4 : Int32) (y5 : Int32) (y6 : Int32) (y7 : Int32) (y8 : Nat → Int32) (y9 : Nat → Int32) (y10 : Nat → Int32) (y11 : Nat → Int32) (y12 : Nat → Int32) (y13 : Nat → Int32) (y14 : Nat → Int32) (y15 : Nat → Int32) (y16 : Nat → Int32) (y17 : Nat → Int32) (y18 : Nat → Int32) (y19 : Nat → Int32) (y20 : Nat → Int32) (y21 : Nat → Int32) (y22 : Nat → Int32) => True) (Φ2 := fun (r : Int32) (y0 : Int32) (y1 : Int32) (y2 : Int32) (y3 : Int32) (y4 : Int32) (y5 : Int32) (y6 : Int32) (y7 : Int32) (y8 : Nat → Int32) (y9 : Nat → Int32) (y10 : Nat → Int32) (y11 : Nat → Int32) (y12 : Nat → Int32) (y13 : Nat → Int32) (y14 : Nat → Int32) (y15 : Nat → Int32) (y16 : Nat → Int32) (y17 : Nat → Int32) (y18 : Nat → Int32) (y19 : Nat → Int32) (y20 : Nat → Int32) (y21 : Nat → Int32) (y22 : Nat → Int32) => r = f_first v.2.2.1 x0) (fun _ y0 y1 y2 y3 y4 y5 y6 y7 y8 y9 y10 y11 y12 y13 y14 y15 y16 y17 y18 y19 y20 y21 y22 u w => ⟨w, ⟨am, ofL 0 [y0, (F 1), (F 2), (F 3), (F 4), (F 5), (F 6), (F 7), y1, y2, y3, y4, y5, y6, y7, (F 15), (F 16), (F 17), (F 18), (F 19)], fw, ofL (fun _ => 0) [(A 0), (A 1), (A 2), (A 3), (A 4), (fun _ => 0), (fun _ => 0), (A 7), (A 8), (A 9), (A 10), (A 11), (A 12), (A 13), (A 14), (A 15), (A 16), (A 17), (A 18), (A 19), (A 20), (A 21), y8, y9, y10, y11, y12, y13, y14, y15, y16, y17, y18, y19, y20, y21, y22, (A 37), (A 38), (A 39), (A 40), (A 41), (A 42), (A 43), (A 44), (A 45), (A 46)], b, rfl, hn, hG, hC, ⟨l_, hl, hl6, hH⟩, hM, hV, hR⟩⟩) (sp_X8_first hG (fun _ y1 y2 y3 y4 y5 y6 y7 y8 y9 y10 y11 y12 y13 y14 y15 y16 y17 y18 y19 y20 y21 y22 => trivial)) (sq8_first (m := v.2.2.1) hR.1 hR.2.1 (by unfold BWq; intros; rfl)))

set_option maxHeartbeats 4000000 in
set_option maxRecDepth 100000 in
theorem m_rounds (l : Launch) (D : va_G) (ak : Nat → ClassId) (ad : Nat → Nat) (sz h : Nat) (v : VW) (L : va_W) (x0 : Int32) (hI : IM ak h v L) : Met l yX8_rounds wsX8_rounds ({ frames := 6, cells := 0, slots := 0, locals := 139 }) (cPre D ak ad [.ref h, .int (x0)] L sz) (cI D (S := va_W) (fun r L1 => r = f_rounds v.2.2.1 x0 ∧ IM ak h v L1) (fun L1 => L1) L sz) 0 0 (va_A L sz) := by
  obtain ⟨am, F, fw, A, b, rfl, hn, hG, hC, ⟨l_, hl, hl6, hH⟩, hM, hV, hR⟩ := hI
  exact gm_rounds l D ak ad sz h am v.1.length F fw A b x0 _ (wq_X8_rounds (Φ1 := fun (r : Int32) (y0 : Int32) (y1 : Int32) (y2 : Int32) (y3 : Int32) (y4 : Int32) (y5 : Int32) (y6 : Int32) (y7 : Int32) (y8 : Nat → Int32) (y9 : Nat → Int32) (y10 : Nat → Int32) (y11 : Nat → Int32) (y12 : Nat → Int32) (y13 : Nat → Int32) (y14 : Nat → Int32) (y15 : Nat → Int32) (y16 : Nat → Int32) (y17 : Nat → Int32) (y18 : Nat → Int32) (y19 : Nat → Int32) (y20 : Nat → Int32) (y21 : Nat → Int32) (y22 : Nat → Int32) => True) (Φ2 := fun (r : Int32) (y0 : Int32) (y1 : Int32) (y2 : Int32) (y3 : Int32) (y4 : Int32) (y5 : Int32) (y6 : Int32) (y7 : Int32) (y8 : Nat → Int32) (y9 : Nat → Int32) (y10 : Nat → Int32) (y11 : Nat → Int32) (y12 : Nat → Int32) (y13 : Nat → Int32) (y14 : Nat → Int32) (y15 : Nat → Int32) (y16 : Nat → Int32) (y17 : Nat → Int32) (y18 : Nat → Int32) (y19 : Nat → Int32) (y20 : Nat → Int32) (y21 : Nat → Int32) (y22 : Nat → Int32) => r = f_rounds v.2.2.1 x0) (fun _ y0 y1 y2 y3 y4 y5 y6 y7 y8 y9 y10 y11 y12 y13 y14 y15 y16 y17 y18 y19 y20 y21 y22 u w => ⟨w, ⟨am, ofL 0 [y0, (F 1), (F 2), (F 3), (F 4), (F 5), (F 6), (F 7), y1, y2, y3, y4, y5, y6, y7, (F 15), (F 16), (F 17), (F 18), (F 19)], fw, ofL (fun _ => 0) [(A 0), (A 1), (A 2), (A 3), (A 4), (fun _ => 0), (fun _ => 0), (A 7), (A 8), (A 9), (A 10), (A 11), (A 12), (A 13), (A 14), (A 15), (A 16), (A 17), (A 18), (A 19), (A 20), (A 21), y8, y9, y10, y11, y12, y13, y14, y15, y16, y17, y18, y19, y20, y21, y22, (A 37), (A 38), (A 39), (A 40), (A 41), (A 42), (A 43), (A 44), (A 45), (A 46)], b, rfl, hn, hG, hC, ⟨l_, hl, hl6, hH⟩, hM, hV, hR⟩⟩) (sp_X8_rounds hG (fun _ y1 y2 y3 y4 y5 y6 y7 y8 y9 y10 y11 y12 y13 y14 y15 y16 y17 y18 y19 y20 y21 y22 => trivial)) (sq8_rounds (m := v.2.2.1) hR.1 hR.2.1 (by unfold BWq; intros; rfl)))

set_option maxHeartbeats 4000000 in
set_option maxRecDepth 100000 in
theorem m_apart (l : Launch) (D : va_G) (ak : Nat → ClassId) (ad : Nat → Nat) (sz h : Nat) (v : VW) (L : va_W)  (hI : IM ak h v L) : Met l yX8_apart wsX8_apart ({ frames := 8, cells := 0, slots := 0, locals := 191 }) (cPre D ak ad [.ref h] L sz) (cI D (S := va_W) (fun r L1 => r = f_apart v.2.2.1 ∧ IM ak h v L1) (fun L1 => L1) L sz) 0 0 (va_A L sz) := by
  obtain ⟨am, F, fw, A, b, rfl, hn, hG, hC, ⟨l_, hl, hl6, hH⟩, hM, hV, hR⟩ := hI
  exact gm_apart l D ak ad sz h am v.1.length F fw A b  _ (wq_X8_apart (Φ1 := fun (r : Int32) (y0 : Int32) (y1 : Int32) (y2 : Int32) (y3 : Int32) (y4 : Int32) (y5 : Int32) (y6 : Int32) (y7 : Int32) (y8 : Nat → Int32) (y9 : Nat → Int32) (y10 : Nat → Int32) (y11 : Nat → Int32) (y12 : Nat → Int32) (y13 : Nat → Int32) (y14 : Nat → Int32) (y15 : Nat → Int32) (y16 : Nat → Int32) (y17 : Nat → Int32) (y18 : Nat → Int32) (y19 : Nat → Int32) (y20 : Nat → Int32) (y21 : Nat → Int32) (y22 : Nat → Int32) (y23 : Nat → Int32) => True) (Φ2 := fun (r : Int32) (y0 : Int32) (y1 : Int32) (y2 : Int32) (y3 : Int32) (y4 : Int32) (y5 : Int32) (y6 : Int32) (y7 : Int32) (y8 : Nat → Int32) (y9 : Nat → Int32) (y10 : Nat → Int32) (y11 : Nat → Int32) (y12 : Nat → Int32) (y13 : Nat → Int32) (y14 : Nat → Int32) (y15 : Nat → Int32) (y16 : Nat → Int32) (y17 : Nat → Int32) (y18 : Nat → Int32) (y19 : Nat → Int32) (y20 : Nat → Int32) (y21 : Nat → Int32) (y22 : Nat → Int32) (y23 : Nat → Int32) => r = f_apart v.2.2.1) (fun _ y0 y1 y2 y3 y4 y5 y6 y7 y8 y9 y10 y11 y12 y13 y14 y15 y16 y17 y18 y19 y20 y21 y22 y23 u w => ⟨w, ⟨am, ofL 0 [y0, (F 1), (F 2), (F 3), (F 4), (F 5), (F 6), (F 7), y1, y2, y3, y4, y5, y6, y7, (F 15), (F 16), (F 17), (F 18), (F 19)], fw, ofL (fun _ => 0) [(A 0), (A 1), (A 2), (A 3), (A 4), (fun _ => 0), (fun _ => 0), (A 7), (A 8), (A 9), (A 10), (A 11), (A 12), (A 13), (A 14), (A 15), (A 16), (A 17), (A 18), (A 19), (A 20), (A 21), y8, y9, y10, y11, y12, y13, y14, y15, y16, y17, y18, y19, y20, y21, y22, (A 37), (A 38), (A 39), (A 40), (A 41), (A 42), y23, (A 44), (A 45), (A 46)], b, rfl, hn, hG, hC, ⟨l_, hl, hl6, hH⟩, hM, hV, hR⟩⟩) (sp_X8_apart hG (fun _ y1 y2 y3 y4 y5 y6 y7 y8 y9 y10 y11 y12 y13 y14 y15 y16 y17 y18 y19 y20 y21 y22 y23 => trivial)) (sq8_apart (m := v.2.2.1) hR.1 hR.2.1 (by unfold BWm; intros; rfl)))

set_option maxHeartbeats 4000000 in
set_option maxRecDepth 100000 in
theorem m_same (l : Launch) (D : va_G) (ak : Nat → ClassId) (ad : Nat → Nat) (sz h : Nat) (v : VW) (L : va_W) (x0 : Int32) (hI : IM ak h v L) : Met l yX8_same wsX8_same ({ frames := 8, cells := 0, slots := 0, locals := 191 }) (cPre D ak ad [.ref h, .int (x0)] L sz) (cI D (S := va_W) (fun r L1 => r = f_same v x0 ∧ IM ak h v L1) (fun L1 => L1) L sz) 0 0 (va_A L sz) := by
  obtain ⟨am, F, fw, A, b, rfl, hn, hG, hC, ⟨l_, hl, hl6, hH⟩, hM, hV, hR⟩ := hI
  exact gm_same l D ak ad sz h am v.1.length F fw A b x0 _ (wq_X8_same (Φ1 := fun (r : Int32) (y0 : Int32) (y1 : Int32) (y2 : Int32) (y3 : Int32) (y4 : Int32) (y5 : Int32) (y6 : Int32) (y7 : Int32) (y8 : Nat → Int32) (y9 : Nat → Int32) (y10 : Nat → Int32) (y11 : Nat → Int32) (y12 : Nat → Int32) (y13 : Nat → Int32) (y14 : Nat → Int32) (y15 : Nat → Int32) (y16 : Nat → Int32) (y17 : Nat → Int32) (y18 : Nat → Int32) (y19 : Nat → Int32) (y20 : Nat → Int32) (y21 : Nat → Int32) (y22 : Nat → Int32) (y23 : Nat → Int32) => True) (Φ2 := fun (r : Int32) (y0 : Int32) (y1 : Int32) (y2 : Int32) (y3 : Int32) (y4 : Int32) (y5 : Int32) (y6 : Int32) (y7 : Int32) (y8 : Nat → Int32) (y9 : Nat → Int32) (y10 : Nat → Int32) (y11 : Nat → Int32) (y12 : Nat → Int32) (y13 : Nat → Int32) (y14 : Nat → Int32) (y15 : Nat → Int32) (y16 : Nat → Int32) (y17 : Nat → Int32) (y18 : Nat → Int32) (y19 : Nat → Int32) (y20 : Nat → Int32) (y21 : Nat → Int32) (y22 : Nat → Int32) (y23 : Nat → Int32) => r = f_same v x0) (fun _ y0 y1 y2 y3 y4 y5 y6 y7 y8 y9 y10 y11 y12 y13 y14 y15 y16 y17 y18 y19 y20 y21 y22 y23 u w => ⟨w, ⟨am, ofL 0 [y0, (F 1), (F 2), (F 3), (F 4), (F 5), (F 6), (F 7), y1, y2, y3, y4, y5, y6, y7, (F 15), (F 16), (F 17), (F 18), (F 19)], fw, ofL (fun _ => 0) [(A 0), (A 1), (A 2), (A 3), (A 4), (fun _ => 0), (fun _ => 0), (A 7), (A 8), (A 9), (A 10), (A 11), (A 12), (A 13), (A 14), (A 15), (A 16), (A 17), (A 18), (A 19), (A 20), (A 21), y8, y9, y10, y11, y12, y13, y14, y15, y16, y17, y18, y19, y20, y21, y22, (A 37), (A 38), (A 39), (A 40), (A 41), (A 42), y23, (A 44), (A 45), (A 46)], b, rfl, hn, hG, hC, ⟨l_, hl, hl6, hH⟩, hM, hV, hR⟩⟩) (sp_X8_same hG (fun _ y1 y2 y3 y4 y5 y6 y7 y8 y9 y10 y11 y12 y13 y14 y15 y16 y17 y18 y19 y20 y21 y22 y23 => trivial)) (sq8_same (m := v.2.2.1) hR.1 hR.2.1 (fun e => by unfold BWm; intros; exact f_same_no hV e) (fun k hk ek e => ⟨v.2.2.2 k, (hR.2.2.2 k hk).1, (hR.2.2.2 k hk).2.1, by unfold BWm; intros; show sameM _ _ = f_same v x0; rw [ek]; exact f_same_1 hV hk e⟩)))

set_option maxHeartbeats 4000000 in
set_option maxRecDepth 100000 in
theorem m_better (l : Launch) (D : va_G) (ak : Nat → ClassId) (ad : Nat → Nat) (sz h : Nat) (v : VW) (L : va_W) (x0 : Int32) (hI : IM ak h v L) : Met l yX8_better wsX8_better ({ frames := 6, cells := 0, slots := 0, locals := 139 }) (cPre D ak ad [.ref h, .int (x0)] L sz) (cI D (S := va_W) (fun _ L1 => IM ak h v L1) (fun L1 => L1) L sz) 0 0 (va_A L sz) := by
  obtain ⟨am, F, fw, A, b, rfl, hn, hG, hC, ⟨l_, hl, hl6, hH⟩, hM, hV, hR⟩ := hI
  exact gm_better l D ak ad sz h am v.1.length F fw A b x0 _ (sp_X8_better hG hl hl6 hH (fun _ y1 y2 y3 y4 y5 y6 y7 y8 y9 y10 y11 y12 y13 y14 y15 y16 y17 y18 y19 y20 y21 y22 => ⟨am, ofL 0 [0, (F 1), (F 2), (F 3), (F 4), (F 5), (F 6), (F 7), y1, y2, y3, y4, y5, y6, y7, (F 15), (F 16), (F 17), (F 18), (F 19)], fw, ofL (fun _ => 0) [(A 0), (A 1), (A 2), (A 3), (A 4), (fun _ => 0), (fun _ => 0), (A 7), (A 8), (A 9), (A 10), (A 11), (A 12), (A 13), (A 14), (A 15), (A 16), (A 17), (A 18), (A 19), (A 20), (A 21), y8, y9, y10, y11, y12, y13, y14, y15, y16, y17, y18, y19, y20, y21, y22, (A 37), (A 38), (A 39), (A 40), (A 41), (A 42), (A 43), (A 44), (A 45), (A 46)], b, rfl, hn, hG, hC, ⟨l_, hl, hl6, hH⟩, hM, hV, hR⟩))

set_option maxHeartbeats 4000000 in
set_option maxRecDepth 100000 in
theorem m_most (l : Launch) (D : va_G) (ak : Nat → ClassId) (ad : Nat → Nat) (sz h : Nat) (v : VW) (L : va_W) (x0 : Int32) (x1 : Int32) (hI : IM ak h v L) : Met l yX8_most wsX8_most ({ frames := 8, cells := 0, slots := 0, locals := 184 }) (cPre D ak ad [.ref h, .int (x0), .int (x1)] L sz) (cI D (S := va_W) (fun r L1 => r = f_most v.2.2.1 x0 x1 ∧ IM ak h v L1) (fun L1 => L1) L sz) 0 0 (va_A L sz) := by
  obtain ⟨am, F, fw, A, b, rfl, hn, hG, hC, ⟨l_, hl, hl6, hH⟩, hM, hV, hR⟩ := hI
  exact gm_most l D ak ad sz h am v.1.length F fw A b x0 x1 _ (wq_X8_most (Φ1 := fun (r : Int32) (y0 : Int32) (y1 : Int32) (y2 : Int32) (y3 : Int32) (y4 : Int32) (y5 : Int32) (y6 : Int32) (y7 : Int32) (y8 : Nat → Int32) (y9 : Nat → Int32) (y10 : Nat → Int32) (y11 : Nat → Int32) (y12 : Nat → Int32) (y13 : Nat → Int32) (y14 : Nat → Int32) (y15 : Nat → Int32) (y16 : Nat → Int32) (y17 : Nat → Int32) (y18 : Nat → Int32) (y19 : Nat → Int32) (y20 : Nat → Int32) (y21 : Nat → Int32) (y22 : Nat → Int32) (y23 : Nat → Int32) (y24 : Nat → Int32) (y25 : Nat → Int32) => True) (Φ2 := fun (r : Int32) (y0 : Int32) (y1 : Int32) (y2 : Int32) (y3 : Int32) (y4 : Int32) (y5 : Int32) (y6 : Int32) (y7 : Int32) (y8 : Nat → Int32) (y9 : Nat → Int32) (y10 : Nat → Int32) (y11 : Nat → Int32) (y12 : Nat → Int32) (y13 : Nat → Int32) (y14 : Nat → Int32) (y15 : Nat → Int32) (y16 : Nat → Int32) (y17 : Nat → Int32) (y18 : Nat → Int32) (y19 : Nat → Int32) (y20 : Nat → Int32) (y21 : Nat → Int32) (y22 : Nat → Int32) (y23 : Nat → Int32) (y24 : Nat → Int32) (y25 : Nat → Int32) => r = f_most v.2.2.1 x0 x1) (fun _ y0 y1 y2 y3 y4 y5 y6 y7 y8 y9 y10 y11 y12 y13 y14 y15 y16 y17 y18 y19 y20 y21 y22 y23 y24 y25 u w => ⟨w, ⟨am, ofL 0 [y0, (F 1), (F 2), (F 3), (F 4), (F 5), (F 6), (F 7), y1, y2, y3, y4, y5, y6, y7, (F 15), (F 16), (F 17), (F 18), (F 19)], fw, ofL (fun _ => 0) [(A 0), (A 1), (A 2), (A 3), (A 4), (fun _ => 0), (fun _ => 0), (A 7), (A 8), (A 9), (A 10), (A 11), (A 12), (A 13), (A 14), (A 15), (A 16), (A 17), (A 18), (A 19), (A 20), (A 21), y8, y9, y10, y11, y12, y13, y14, y15, y16, y17, y18, y19, y20, y21, y22, (A 37), (A 38), (A 39), y23, y24, y25, (A 43), (A 44), (A 45), (A 46)], b, rfl, hn, hG, hC, ⟨l_, hl, hl6, hH⟩, hM, hV, hR⟩⟩) (sp_X8_most hG (fun _ y1 y2 y3 y4 y5 y6 y7 y8 y9 y10 y11 y12 y13 y14 y15 y16 y17 y18 y19 y20 y21 y22 y23 y24 y25 => trivial)) (sq8_most (m := v.2.2.1) hR.1 hR.2.1 (by unfold EWq; intros; rfl)))

set_option maxHeartbeats 4000000 in
set_option maxRecDepth 100000 in
theorem m_never (l : Launch) (D : va_G) (ak : Nat → ClassId) (ad : Nat → Nat) (sz h : Nat) (v : VW) (L : va_W)  (hI : IM ak h v L) : Met l yX8_never wsX8_never ({ frames := 8, cells := 0, slots := 0, locals := 184 }) (cPre D ak ad [.ref h] L sz) (cI D (S := va_W) (fun r L1 => r = f_never v.2.2.1 ∧ IM ak h v L1) (fun L1 => L1) L sz) 0 0 (va_A L sz) := by
  obtain ⟨am, F, fw, A, b, rfl, hn, hG, hC, ⟨l_, hl, hl6, hH⟩, hM, hV, hR⟩ := hI
  exact gm_never l D ak ad sz h am v.1.length F fw A b  _ (wq_X8_never (Φ1 := fun (r : Int32) (y0 : Int32) (y1 : Int32) (y2 : Int32) (y3 : Int32) (y4 : Int32) (y5 : Int32) (y6 : Int32) (y7 : Int32) (y8 : Nat → Int32) (y9 : Nat → Int32) (y10 : Nat → Int32) (y11 : Nat → Int32) (y12 : Nat → Int32) (y13 : Nat → Int32) (y14 : Nat → Int32) (y15 : Nat → Int32) (y16 : Nat → Int32) (y17 : Nat → Int32) (y18 : Nat → Int32) (y19 : Nat → Int32) (y20 : Nat → Int32) (y21 : Nat → Int32) (y22 : Nat → Int32) (y23 : Nat → Int32) (y24 : Nat → Int32) (y25 : Nat → Int32) => True) (Φ2 := fun (r : Int32) (y0 : Int32) (y1 : Int32) (y2 : Int32) (y3 : Int32) (y4 : Int32) (y5 : Int32) (y6 : Int32) (y7 : Int32) (y8 : Nat → Int32) (y9 : Nat → Int32) (y10 : Nat → Int32) (y11 : Nat → Int32) (y12 : Nat → Int32) (y13 : Nat → Int32) (y14 : Nat → Int32) (y15 : Nat → Int32) (y16 : Nat → Int32) (y17 : Nat → Int32) (y18 : Nat → Int32) (y19 : Nat → Int32) (y20 : Nat → Int32) (y21 : Nat → Int32) (y22 : Nat → Int32) (y23 : Nat → Int32) (y24 : Nat → Int32) (y25 : Nat → Int32) => r = f_never v.2.2.1) (fun _ y0 y1 y2 y3 y4 y5 y6 y7 y8 y9 y10 y11 y12 y13 y14 y15 y16 y17 y18 y19 y20 y21 y22 y23 y24 y25 u w => ⟨w, ⟨am, ofL 0 [y0, (F 1), (F 2), (F 3), (F 4), (F 5), (F 6), (F 7), y1, y2, y3, y4, y5, y6, y7, (F 15), (F 16), (F 17), (F 18), (F 19)], fw, ofL (fun _ => 0) [(A 0), (A 1), (A 2), (A 3), (A 4), (fun _ => 0), (fun _ => 0), (A 7), (A 8), (A 9), (A 10), (A 11), (A 12), (A 13), (A 14), (A 15), (A 16), (A 17), (A 18), (A 19), (A 20), (A 21), y8, y9, y10, y11, y12, y13, y14, y15, y16, y17, y18, y19, y20, y21, y22, (A 37), (A 38), (A 39), y23, y24, y25, (A 43), (A 44), (A 45), (A 46)], b, rfl, hn, hG, hC, ⟨l_, hl, hl6, hH⟩, hM, hV, hR⟩⟩) (sp_X8_never hG (fun _ y1 y2 y3 y4 y5 y6 y7 y8 y9 y10 y11 y12 y13 y14 y15 y16 y17 y18 y19 y20 y21 y22 y23 y24 y25 => trivial)) (sq8_never (m := v.2.2.1) hR.1 hR.2.1 (by unfold EWq; intros; rfl)))

set_option maxHeartbeats 4000000 in
set_option maxRecDepth 100000 in
theorem m_lasting (l : Launch) (D : va_G) (ak : Nat → ClassId) (ad : Nat → Nat) (sz h : Nat) (v : VW) (L : va_W) (x0 : Int32) (hI : IM ak h v L) : Met l yX8_lasting wsX8_lasting ({ frames := 9, cells := 0, slots := 0, locals := 211 }) (cPre D ak ad [.ref h, .int (x0)] L sz) (cI D (S := va_W) (fun r L1 => r = f_lasting v.2.2.1 x0 ∧ IM ak h v L1) (fun L1 => L1) L sz) 0 0 (va_A L sz) := by
  obtain ⟨am, F, fw, A, b, rfl, hn, hG, hC, ⟨l_, hl, hl6, hH⟩, hM, hV, hR⟩ := hI
  exact gm_lasting l D ak ad sz h am v.1.length F fw A b x0 _ (wq_X8_lasting (Φ1 := fun (r : Int32) (y0 : Int32) (y1 : Int32) (y2 : Int32) (y3 : Int32) (y4 : Int32) (y5 : Int32) (y6 : Int32) (y7 : Int32) (y8 : Nat → Int32) (y9 : Nat → Int32) (y10 : Nat → Int32) (y11 : Nat → Int32) (y12 : Nat → Int32) (y13 : Nat → Int32) (y14 : Nat → Int32) (y15 : Nat → Int32) (y16 : Nat → Int32) (y17 : Nat → Int32) (y18 : Nat → Int32) (y19 : Nat → Int32) (y20 : Nat → Int32) (y21 : Nat → Int32) (y22 : Nat → Int32) (y23 : Nat → Int32) (y24 : Nat → Int32) (y25 : Nat → Int32) (y26 : Nat → Int32) => True) (Φ2 := fun (r : Int32) (y0 : Int32) (y1 : Int32) (y2 : Int32) (y3 : Int32) (y4 : Int32) (y5 : Int32) (y6 : Int32) (y7 : Int32) (y8 : Nat → Int32) (y9 : Nat → Int32) (y10 : Nat → Int32) (y11 : Nat → Int32) (y12 : Nat → Int32) (y13 : Nat → Int32) (y14 : Nat → Int32) (y15 : Nat → Int32) (y16 : Nat → Int32) (y17 : Nat → Int32) (y18 : Nat → Int32) (y19 : Nat → Int32) (y20 : Nat → Int32) (y21 : Nat → Int32) (y22 : Nat → Int32) (y23 : Nat → Int32) (y24 : Nat → Int32) (y25 : Nat → Int32) (y26 : Nat → Int32) => r = f_lasting v.2.2.1 x0) (fun _ y0 y1 y2 y3 y4 y5 y6 y7 y8 y9 y10 y11 y12 y13 y14 y15 y16 y17 y18 y19 y20 y21 y22 y23 y24 y25 y26 u w => ⟨w, ⟨am, ofL 0 [y0, (F 1), (F 2), (F 3), (F 4), (F 5), (F 6), (F 7), y1, y2, y3, y4, y5, y6, y7, (F 15), (F 16), (F 17), (F 18), (F 19)], fw, ofL (fun _ => 0) [(A 0), (A 1), (A 2), (A 3), (A 4), (fun _ => 0), (fun _ => 0), (A 7), (A 8), (A 9), (A 10), (A 11), (A 12), (A 13), (A 14), (A 15), (A 16), (A 17), (A 18), (A 19), (A 20), (A 21), y8, y9, y10, y11, y12, y13, y14, y15, y16, y17, y18, y19, y20, y21, y22, (A 37), (A 38), (A 39), y23, y24, y25, (A 43), y26, (A 45), (A 46)], b, rfl, hn, hG, hC, ⟨l_, hl, hl6, hH⟩, hM, hV, hR⟩⟩) (sp_X8_lasting hG hC (fun _ y1 y2 y3 y4 y5 y6 y7 y8 y9 y10 y11 y12 y13 y14 y15 y16 y17 y18 y19 y20 y21 y22 y23 y24 y25 y26 => trivial)) (sq8_lasting (m := v.2.2.1) hR.1 hR.2.1 (by unfold FWq; intros; rfl)))

set_option maxHeartbeats 4000000 in
set_option maxRecDepth 100000 in
theorem m_lasts (l : Launch) (D : va_G) (ak : Nat → ClassId) (ad : Nat → Nat) (sz h : Nat) (v : VW) (L : va_W) (x0 : Int32) (x1 : Int32) (x2 : Int32) (hI : IM ak h v L) : Met l yX8_lasts wsX8_lasts ({ frames := 9, cells := 0, slots := 0, locals := 211 }) (cPre D ak ad [.ref h, .int (x0), .int (x1), .int (x2)] L sz) (cI D (S := va_W) (fun r L1 => r = f_lasts v.2.2.1 x0 x1 x2 ∧ IM ak h v L1) (fun L1 => L1) L sz) 0 0 (va_A L sz) := by
  obtain ⟨am, F, fw, A, b, rfl, hn, hG, hC, ⟨l_, hl, hl6, hH⟩, hM, hV, hR⟩ := hI
  exact gm_lasts l D ak ad sz h am v.1.length F fw A b x0 x1 x2 _ (wq_X8_lasts (Φ1 := fun (r : Int32) (y0 : Int32) (y1 : Int32) (y2 : Int32) (y3 : Int32) (y4 : Int32) (y5 : Int32) (y6 : Int32) (y7 : Int32) (y8 : Nat → Int32) (y9 : Nat → Int32) (y10 : Nat → Int32) (y11 : Nat → Int32) (y12 : Nat → Int32) (y13 : Nat → Int32) (y14 : Nat → Int32) (y15 : Nat → Int32) (y16 : Nat → Int32) (y17 : Nat → Int32) (y18 : Nat → Int32) (y19 : Nat → Int32) (y20 : Nat → Int32) (y21 : Nat → Int32) (y22 : Nat → Int32) (y23 : Nat → Int32) (y24 : Nat → Int32) (y25 : Nat → Int32) (y26 : Nat → Int32) => True) (Φ2 := fun (r : Int32) (y0 : Int32) (y1 : Int32) (y2 : Int32) (y3 : Int32) (y4 : Int32) (y5 : Int32) (y6 : Int32) (y7 : Int32) (y8 : Nat → Int32) (y9 : Nat → Int32) (y10 : Nat → Int32) (y11 : Nat → Int32) (y12 : Nat → Int32) (y13 : Nat → Int32) (y14 : Nat → Int32) (y15 : Nat → Int32) (y16 : Nat → Int32) (y17 : Nat → Int32) (y18 : Nat → Int32) (y19 : Nat → Int32) (y20 : Nat → Int32) (y21 : Nat → Int32) (y22 : Nat → Int32) (y23 : Nat → Int32) (y24 : Nat → Int32) (y25 : Nat → Int32) (y26 : Nat → Int32) => r = f_lasts v.2.2.1 x0 x1 x2) (fun _ y0 y1 y2 y3 y4 y5 y6 y7 y8 y9 y10 y11 y12 y13 y14 y15 y16 y17 y18 y19 y20 y21 y22 y23 y24 y25 y26 u w => ⟨w, ⟨am, ofL 0 [y0, (F 1), (F 2), (F 3), (F 4), (F 5), (F 6), (F 7), y1, y2, y3, y4, y5, y6, y7, (F 15), (F 16), (F 17), (F 18), (F 19)], fw, ofL (fun _ => 0) [(A 0), (A 1), (A 2), (A 3), (A 4), (fun _ => 0), (fun _ => 0), (A 7), (A 8), (A 9), (A 10), (A 11), (A 12), (A 13), (A 14), (A 15), (A 16), (A 17), (A 18), (A 19), (A 20), (A 21), y8, y9, y10, y11, y12, y13, y14, y15, y16, y17, y18, y19, y20, y21, y22, (A 37), (A 38), (A 39), y23, y24, y25, (A 43), y26, (A 45), (A 46)], b, rfl, hn, hG, hC, ⟨l_, hl, hl6, hH⟩, hM, hV, hR⟩⟩) (sp_X8_lasts hG hC (fun _ y1 y2 y3 y4 y5 y6 y7 y8 y9 y10 y11 y12 y13 y14 y15 y16 y17 y18 y19 y20 y21 y22 y23 y24 y25 y26 => trivial)) (sq8_lasts (m := v.2.2.1) hR.1 hR.2.1 (by unfold FWq; intros; rfl)))

set_option maxHeartbeats 4000000 in
set_option maxRecDepth 100000 in
theorem m_wrote (l : Launch) (D : va_G) (ak : Nat → ClassId) (ad : Nat → Nat) (sz h : Nat) (v : VW) (L : va_W) (x0 : Int32) (hI : IM ak h v L) : Met l yX8_wrote wsX8_wrote ({ frames := 1, cells := 0, slots := 0, locals := 15 }) (cPre D ak ad [.ref h, .int (x0)] L sz) (cI D (S := va_W) (fun r L1 => (f_wrote v.2.2.1 x0 = none ∧ IMt ak h v 1 L1) ∨ (f_wrote v.2.2.1 x0 = some r ∧ IMt ak h v 0 L1)) (fun L1 => L1) L sz) 0 0 (va_A L sz) := by
  obtain ⟨am, F, fw, A, b, rfl, hn, hG, hC, ⟨l_, hl, hl6, hH⟩, hM, hV, hR⟩ := hI
  exact gm_wrote l D ak ad sz h am v.1.length F fw A b x0 _ (wq_X8_wrote (Φ1 := fun (r : Int32) (y0 : Int32) => True) (Φ2 := fun (r : Int32) (y0 : Int32) => (f_wrote v.2.2.1 x0 = none ∧ y0 = 1) ∨ (f_wrote v.2.2.1 x0 = some r ∧ y0 = 0)) (fun _ y0 u w => w.elim (fun q => Or.inl ⟨q.1, ⟨am, ofL 0 [y0, (F 1), (F 2), (F 3), (F 4), (F 5), (F 6), (F 7), (F 8), (F 9), (F 10), (F 11), (F 12), (F 13), (F 14), (F 15), (F 16), (F 17), (F 18), (F 19)], fw, A, b, rfl, q.2, hn, hG, hC, ⟨l_, hl, hl6, hH⟩, hM, hV, hR⟩⟩) (fun q => Or.inr ⟨q.1, ⟨am, ofL 0 [y0, (F 1), (F 2), (F 3), (F 4), (F 5), (F 6), (F 7), (F 8), (F 9), (F 10), (F 11), (F 12), (F 13), (F 14), (F 15), (F 16), (F 17), (F 18), (F 19)], fw, A, b, rfl, q.2, hn, hG, hC, ⟨l_, hl, hl6, hH⟩, hM, hV, hR⟩⟩)) (hH.2.1.elim (fun s_ hs_ => hs_.elim (fun u_ hu_ => sp_X8_wrote hu_.2.1 (by have := hu_.2.2.1; have := hu_.2.2.2; omega) trivial (fun _ _ _ _ => trivial)))) (sq8_wrote (m := v.2.2.1) hR.2.1 hR.2.2.1 (fun e => Or.inl ⟨e, rfl⟩) (fun r e => Or.inr ⟨e, rfl⟩)))

set_option maxHeartbeats 4000000 in
set_option maxRecDepth 100000 in
theorem m_cell (l : Launch) (D : va_G) (ak : Nat → ClassId) (ad : Nat → Nat) (sz h : Nat) (v : VW) (L : va_W) (x0 : Int32) (hI : IM ak h v L) : Met l yX8_cell wsX8_cell ({ frames := 1, cells := 0, slots := 0, locals := 21 }) (cPre D ak ad [.ref h, .int (x0)] L sz) (cI D (S := va_W) (fun r L1 => (f_cell v.2.2.1 x0 = none ∧ IMt ak h v 1 L1) ∨ (f_cell v.2.2.1 x0 = some r ∧ IMt ak h v 0 L1)) (fun L1 => L1) L sz) 0 0 (va_A L sz) := by
  obtain ⟨am, F, fw, A, b, rfl, hn, hG, hC, ⟨l_, hl, hl6, hH⟩, hM, hV, hR⟩ := hI
  exact gm_cell l D ak ad sz h am v.1.length F fw A b x0 _ (wq_X8_cell (Φ1 := fun (r : Int32) (y0 : Int32) => True) (Φ2 := fun (r : Int32) (y0 : Int32) => (f_cell v.2.2.1 x0 = none ∧ y0 = 1) ∨ (f_cell v.2.2.1 x0 = some r ∧ y0 = 0)) (fun _ y0 u w => w.elim (fun q => Or.inl ⟨q.1, ⟨am, ofL 0 [y0, (F 1), (F 2), (F 3), (F 4), (F 5), (F 6), (F 7), (F 8), (F 9), (F 10), (F 11), (F 12), (F 13), (F 14), (F 15), (F 16), (F 17), (F 18), (F 19)], fw, A, b, rfl, q.2, hn, hG, hC, ⟨l_, hl, hl6, hH⟩, hM, hV, hR⟩⟩) (fun q => Or.inr ⟨q.1, ⟨am, ofL 0 [y0, (F 1), (F 2), (F 3), (F 4), (F 5), (F 6), (F 7), (F 8), (F 9), (F 10), (F 11), (F 12), (F 13), (F 14), (F 15), (F 16), (F 17), (F 18), (F 19)], fw, A, b, rfl, q.2, hn, hG, hC, ⟨l_, hl, hl6, hH⟩, hM, hV, hR⟩⟩)) ((gm_ce hG).elim (fun k_ hk_ => sp_X8_cell hk_.1 hk_.2 trivial (fun _ _ _ _ => trivial))) (sq8_cell (m := v.2.2.1) hR.1 hR.2.1 hR.2.2.1 (fun e => Or.inl ⟨e, rfl⟩) (fun r e => Or.inr ⟨e, rfl⟩)))

set_option maxHeartbeats 4000000 in
set_option maxRecDepth 100000 in
theorem m_feed (l : Launch) (D : va_G) (ak : Nat → ClassId) (ad : Nat → Nat) (sz h : Nat) (v : VW) (L : va_W) (xa : Int64) (xb : Int64) (xc : Int64) (hI : IM ak h v L) : Met l yX8_feed wsX8_feed ({ frames := 0, cells := 0, slots := 0, locals := 0 }) (cPre D ak ad [.ref h, .long (xa), .long (xb), .long (xc)] L sz) (cI D (S := va_W) (fun r L1 => r = f_feed v xa xb xc ∧ IM ak h (s_feed v xa xb xc) L1) (fun L1 => L1) L sz) 0 0 (va_A L sz) := by
  obtain ⟨am, F, fw, A, b, rfl, hn, hG, hC, ⟨l_, hl, hl6, hH⟩, hM, hV, hR⟩ := hI
  exact gm_feed l D ak ad sz h am v.1.length F fw A b xa xb xc _ (sq_X8_feed hn (fun y2 hT1 => ⟨_, rfl, rfl, (fun (k_ : List Nat) (hk_ : TL k_ y2) => (show IM ak h (k_, v.2) (ML ak h am k_.length (ofL 0 [0, (F 1), (F 2), (F 3), (F 4), (F 5), (F 6), (F 7), (F 8), (F 9), (F 10), (F 11), (F 12), (F 13), (F 14), (F 15), (F 16), (F 17), (F 18), (F 19)]) fw (ofL (fun _ => 0) [y2, (A 1), (A 2), (A 3), (A 4), (fun _ => 0), (fun _ => 0), (A 7), (A 8), (A 9), (A 10), (A 11), (A 12), (A 13), (A 14), (A 15), (A 16), (A 17), (A 18), (A 19), (A 20), (A 21), (A 22), (A 23), (A 24), (A 25), (A 26), (A 27), (A 28), (A 29), (A 30), (A 31), (A 32), (A 33), (A 34), (A 35), (A 36), (A 37), (A 38), (A 39), (A 40), (A 41), (A 42), (A 43), (A 44), (A 45), (A 46)]) b ++ []) from ⟨am, ofL 0 [0, (F 1), (F 2), (F 3), (F 4), (F 5), (F 6), (F 7), (F 8), (F 9), (F 10), (F 11), (F 12), (F 13), (F 14), (F 15), (F 16), (F 17), (F 18), (F 19)], fw, ofL (fun _ => 0) [y2, (A 1), (A 2), (A 3), (A 4), (fun _ => 0), (fun _ => 0), (A 7), (A 8), (A 9), (A 10), (A 11), (A 12), (A 13), (A 14), (A 15), (A 16), (A 17), (A 18), (A 19), (A 20), (A 21), (A 22), (A 23), (A 24), (A 25), (A 26), (A 27), (A 28), (A 29), (A 30), (A 31), (A 32), (A 33), (A 34), (A 35), (A 36), (A 37), (A 38), (A 39), (A 40), (A 41), (A 42), (A 43), (A 44), (A 45), (A 46)], b, rfl, hk_, hG, hC, ⟨l_, hl, hl6, hH⟩, hM, fun k_ hk_ => hV k_ hk_, hR⟩)) _ hT1⟩))

set_option maxHeartbeats 4000000 in
set_option maxRecDepth 100000 in
theorem m_mark (l : Launch) (D : va_G) (ak : Nat → ClassId) (ad : Nat → Nat) (sz h : Nat) (v : VW) (L : va_W) (x0 : Int32) (x1 : Int32) (hI : IM ak h v L) : Met l yX8_mark wsX8_mark ({ frames := 2, cells := 0, slots := 0, locals := 47 }) (cPre D ak ad [.ref h, .int (x0), .int (x1)] L sz) (cI D (S := va_W) (fun r L1 => (∀ k, k < 4 → x0 = nI k → r = f_mark v k x1 ∧ IM ak h (s_mark v k x1) L1) ∧ ((x0 < 0 ∨ 4 ≤ x0) → r = 0 ∧ IM ak h v L1)) (fun L1 => L1) L sz) 0 0 (va_A L sz) := by
  obtain ⟨am, F, fw, A, b, rfl, hn, hG, hC, ⟨l_, hl, hl6, hH⟩, hM, hV, hR⟩ := hI
  exact gm_mark l D ak ad sz h am v.1.length F fw A b x0 x1 _ (wq_X8_mark (Φ1 := fun (r : Int32) (y0 : Int32) (y1 : Int32) (y2 : Int32) (y3 : Int32) (y4 : Int32) (y5 : Int32) (y6 : Nat → Int32) (y7 : Nat → Int32) (y8 : Nat → Int32) (y9 : Nat → Int32) (y10 : Nat → Int32) (y11 : Nat → Int32) (y12 : Nat → Int32) (y13 : Nat → Int32) (y14 : Nat → Int32) (y15 : Nat → Int32) (y16 : Nat → Int32) (y17 : Nat → Int32) (y18 : Nat → Int32) (y19 : Nat → Int32) (y20 : Nat → Int32) (y21 : Nat → Int32) (y22 : Nat → Int32) (y23 : Nat → Int32) (y24 : Nat → Int32) (y25 : Nat → Int32) (y26 : Nat → Int32) (y27 : Nat → Int32) => GM y6 y7 y8 y9 y14 y15 y16 y17 y18 y20 y21 y22 ∧ CO y11 ∧ (∃ l : Nat, y9 0 = nI l ∧ l ≤ 16 ∧ HS l y1 y2 y3 y4) ∧ MK y26 y27 y9) (Φ2 := fun (r : Int32) (y0 : Int32) (y1 : Int32) (y2 : Int32) (y3 : Int32) (y4 : Int32) (y5 : Int32) (y6 : Nat → Int32) (y7 : Nat → Int32) (y8 : Nat → Int32) (y9 : Nat → Int32) (y10 : Nat → Int32) (y11 : Nat → Int32) (y12 : Nat → Int32) (y13 : Nat → Int32) (y14 : Nat → Int32) (y15 : Nat → Int32) (y16 : Nat → Int32) (y17 : Nat → Int32) (y18 : Nat → Int32) (y19 : Nat → Int32) (y20 : Nat → Int32) (y21 : Nat → Int32) (y22 : Nat → Int32) (y23 : Nat → Int32) (y24 : Nat → Int32) (y25 : Nat → Int32) (y26 : Nat → Int32) (y27 : Nat → Int32) => (∀ k, k < 4 → x0 = nI k → r = f_mark v k x1 ∧ VB4 (s_mark v k x1) y26 ∧ RVm (s_mark v k x1).2.2.1 (s_mark v k x1).2.2.2 y1 y2 y3 y4 y6 y7 y8 y9 y10 y11 y12 y13 y14 y15 y16 y17 y18 y19 y20 y21 y22 y23 y24 y25 y27) ∧ ((x0 < 0 ∨ 4 ≤ x0) → r = 0 ∧ VB4 v y26 ∧ RVm v.2.2.1 v.2.2.2 y1 y2 y3 y4 y6 y7 y8 y9 y10 y11 y12 y13 y14 y15 y16 y17 y18 y19 y20 y21 y22 y23 y24 y25 y27)) (fun _ y0 y1 y2 y3 y4 y5 y6 y7 y8 y9 y10 y11 y12 y13 y14 y15 y16 y17 y18 y19 y20 y21 y22 y23 y24 y25 y26 y27 u w => by
    have im : ∀ z : VW, z.1 = v.1 → VB4 z y26 → RVm z.2.2.1 z.2.2.2 y1 y2 y3 y4 y6 y7 y8 y9 y10 y11 y12 y13 y14 y15 y16 y17 y18 y19 y20 y21 y22 y23 y24 y25 y27 → IM ak h z (ML ak h am v.1.length (ofL 0 [y0, (F 1), (F 2), (F 3), (F 4), (F 5), (F 6), (F 7), (F 8), (F 9), (F 10), (F 11), (F 12), (F 13), (F 14), y1, y2, y3, y4, y5]) fw (ofL (fun _ => 0) [(A 0), y6, y7, y8, y9, (fun _ => 0), (fun _ => 0), y10, y11, y12, y13, y14, y15, y16, y17, y18, y19, y20, y21, y22, (A 20), (A 21), (A 22), (A 23), (A 24), (A 25), (A 26), (A 27), (A 28), (A 29), (A 30), (A 31), (A 32), (A 33), (A 34), (A 35), (A 36), y23, y24, y25, (A 40), (A 41), (A 42), (A 43), (A 44), y26, y27]) b ++ []) := by
      intro z ez hvb hrv
      obtain ⟨z1, z2, z3, z4⟩ := z
      have ez : z1 = v.1 := ez
      subst ez
      exact ⟨am, ofL 0 [y0, (F 1), (F 2), (F 3), (F 4), (F 5), (F 6), (F 7), (F 8), (F 9), (F 10), (F 11), (F 12), (F 13), (F 14), y1, y2, y3, y4, y5], fw, ofL (fun _ => 0) [(A 0), y6, y7, y8, y9, (fun _ => 0), (fun _ => 0), y10, y11, y12, y13, y14, y15, y16, y17, y18, y19, y20, y21, y22, (A 20), (A 21), (A 22), (A 23), (A 24), (A 25), (A 26), (A 27), (A 28), (A 29), (A 30), (A 31), (A 32), (A 33), (A 34), (A 35), (A 36), y23, y24, y25, (A 40), (A 41), (A 42), (A 43), (A 44), y26, y27], b, rfl, hn, u.1, u.2.1, u.2.2.1, u.2.2.2, hvb, hrv⟩
    exact ⟨fun k hk e => ⟨(w.1 k hk e).1, im _ s_mark_t (w.1 k hk e).2.1 (w.1 k hk e).2.2⟩, fun e => ⟨(w.2 e).1, im _ rfl (w.2 e).2.1 (w.2 e).2.2⟩⟩) (sp_X8_mark hG hl hl6 hH hM (fun a_ => ⟨hG, hC, ⟨l_, hl, hl6, hH⟩, hM⟩) (fun m l2 y1 y2 y3 y4 y5 y6 y7 y8 y9 y10 y11 y12 y13 y14 y15 y16 y17 y18 y19 y20 y21 y22 y23 y24 y25 y27 a_ b_ c_ hG2 hl2 hl62 hH2 hM2 hC2 => ⟨hG2, hC2 hC, ⟨l2, hl2, hl62, hH2⟩, hM2⟩)) (sq8_mark hR (fun a_ => mk_out (P := (fun z : VW => VB4 z (A 45) ∧ RVm z.2.2.1 z.2.2.2 (F 15) (F 16) (F 17) (F 18) (A 1) (A 2) (A 3) (A 4) (A 7) (A 8) (A 9) (A 10) (A 11) (A 12) (A 13) (A 14) (A 15) (A 16) (A 17) (A 18) (A 19) (A 37) (A 38) (A 39) (A 46))) hV a_ ⟨hV, hR⟩) (fun j_ s9 n9 k9 u9 ma9 st9 ce9 ip9 ln9 be9 co9 ca9 ic9 il9 im9 ac9 aC9 ls9 tw9 lf9 lt9 cd9 hc9 wo9 hs9 mk9 a_ b_ c_ d_ => mk_in (P := fun z => VB4 z (upd (A 45) j_ (vp_nar .boolean 1)) ∧ RVm z.2.2.1 z.2.2.2 s9 n9 k9 u9 st9 ce9 ip9 ln9 be9 co9 ca9 ic9 il9 im9 ac9 aC9 ls9 tw9 lf9 lt9 cd9 hc9 wo9 hs9 mk9) hV a_ b_ c_ (fun z ez e1 e2 e3 => ⟨e1, by rw [e2, e3]; exact d_⟩))))

set_option maxHeartbeats 4000000 in
set_option maxRecDepth 100000 in
theorem m_programme (l : Launch) (D : va_G) (ak : Nat → ClassId) (ad : Nat → Nat) (sz h : Nat) (v : VW) (L : va_W)  (hI : IM ak h v L) : Met l yX8_programme wsX8_programme ({ frames := 6, cells := 0, slots := 0, locals := 132 }) (cPre D ak ad [.ref h] L sz) (cI D (S := va_W) (fun r L1 => r = f_programme v ∧ IM ak h (s_programme v) L1) (fun L1 => L1) L sz) 0 0 (va_A L sz) := by
  obtain ⟨am, F, fw, A, b, rfl, hn, hG, hC, ⟨l_, hl, hl6, hH⟩, hM, hV, hR⟩ := hI
  exact gm_programme l D ak ad sz h am v.1.length F fw A b  _ (wq_X8_programme (Φ1 := fun (r : Int32) (y0 : Int32) (y1 : Int32) (y2 : Int32) (y3 : Int32) (y4 : Int32) (y5 : Int32) (y6 : Int64) (y7 : Int32) (y8 : Int32) (y9 : Int32) (y10 : Int32) (y11 : Nat → Int32) (y12 : Nat → Int32) (y13 : Nat → Int32) (y14 : Nat → Int32) (y15 : Nat → Int64) (y16 : Nat → Int64) (y17 : Nat → Int32) (y18 : Nat → Int32) (y19 : Nat → Int32) (y20 : Nat → Int32) (y21 : Nat → Int32) (y22 : Nat → Int32) (y23 : Nat → Int32) (y24 : Nat → Int32) (y25 : Nat → Int32) (y26 : Nat → Int32) (y27 : Nat → Int32) (y28 : Nat → Int32) (y29 : Nat → Int32) (y30 : Nat → Int32) (y31 : Nat → Int32) (y32 : Nat → Int32) => y1 = 0 ∧ GM y11 y12 y13 y14 y21 y22 y23 y24 y25 y27 y28 y29 ∧ CO y18 ∧ (∃ l : Nat, y14 0 = nI l ∧ l ≤ 16 ∧ HS l y10 (F 16) (F 17) (F 18)) ∧ MK (A 45) (A 46) y14) (Φ2 := fun (r : Int32) (y0 : Int32) (y1 : Int32) (y2 : Int32) (y3 : Int32) (y4 : Int32) (y5 : Int32) (y6 : Int64) (y7 : Int32) (y8 : Int32) (y9 : Int32) (y10 : Int32) (y11 : Nat → Int32) (y12 : Nat → Int32) (y13 : Nat → Int32) (y14 : Nat → Int32) (y15 : Nat → Int64) (y16 : Nat → Int64) (y17 : Nat → Int32) (y18 : Nat → Int32) (y19 : Nat → Int32) (y20 : Nat → Int32) (y21 : Nat → Int32) (y22 : Nat → Int32) (y23 : Nat → Int32) (y24 : Nat → Int32) (y25 : Nat → Int32) (y26 : Nat → Int32) (y27 : Nat → Int32) (y28 : Nat → Int32) (y29 : Nat → Int32) (y30 : Nat → Int32) (y31 : Nat → Int32) (y32 : Nat → Int32) => r = f_programme v ∧ RVm (hdP v) v.2.2.2 y10 (F 16) (F 17) (F 18) y11 y12 y13 y14 y17 y18 y19 y20 y21 y22 y23 y24 y25 y26 y27 y28 y29 (A 37) y32 (A 39) (A 46)) (fun _ y0 y1 y2 y3 y4 y5 y6 y7 y8 y9 y10 y11 y12 y13 y14 y15 y16 y17 y18 y19 y20 y21 y22 y23 y24 y25 y26 y27 y28 y29 y30 y31 y32 u w => ⟨0, u.1, w.1, ⟨am, ofL 0 [y0, y2, y3, y4, y5, y7, y8, y9, (F 8), (F 9), (F 10), (F 11), (F 12), (F 13), (F 14), y10, (F 16), (F 17), (F 18), (F 19)], y6, ofL (fun _ => 0) [(A 0), y11, y12, y13, y14, (fun _ => 0), (fun _ => 0), y17, y18, y19, y20, y21, y22, y23, y24, y25, y26, y27, y28, y29, y30, y31, (A 22), (A 23), (A 24), (A 25), (A 26), (A 27), (A 28), (A 29), (A 30), (A 31), (A 32), (A 33), (A 34), (A 35), (A 36), (A 37), y32, (A 39), (A 40), (A 41), (A 42), (A 43), (A 44), (A 45), (A 46)], ofL (fun _ => 0) [y15, y16], rfl, TL.nil, u.2.1, u.2.2.1, u.2.2.2.1, u.2.2.2.2, hV, w.2⟩⟩) (sp_X8_programme hn.1 hG (fun _ y3 y4 y5 y6 y7 y8 y9 y10 y11 y12 y13 y14 y15 y16 y17 y18 y19 y20 y21 y22 y23 y24 y25 y26 y27 y28 y29 y30 y31 y32 hG2 hd hC2 => ⟨rfl, hG2, hC2 hC, (im_prog hG2 hd hl hl6 hH hM).1, (im_prog hG2 hd hl hl6 hH hM).2⟩)) (sq8_programme hn (fun e he => by intros; rename_i hf; exact ⟨f_pb he, by rw [hdP_b he]; exact hR.badZ hf⟩) (fun g hg => by intros; rename_i hf hz; exact ⟨f_pg hg, by rw [hdP_g hg]; exact hR.toldZ (parse_good hg) hf hz⟩)))
end
section
section LC
variable {D : va_G} {ak : Nat → ClassId} {ad : Nat → Nat} {s : State} {H : Heap} {A : Nat → Prop} {U C V : va_W} {locs : List Loc}
/-- a callee's row in the middle of the law's -/
theorem lc_mid (k : Nat) (q : Nat × va_E) (h : C[k]? = some q) : (U ++ (C ++ V))[U.length + k]? = some q := by
  rw [List.getElem?_append_right (by omega), Nat.add_sub_cancel_left, List.getElem?_append_left (List.getElem?_eq_some_iff.mp h).1]
  exact h
theorem lc_free (hD : va_D A (U ++ (C ++ V))) (hS : va_S A s.heap H locs) (hA : ∀ q, s.heap.size ≤ q → A q) : ∀ q, va_A C H.size q → A q := by
  intro q h
  rcases h with ⟨k, e, h⟩ | h
  · exact hD.2 _ (q, e) (lc_mid k _ h)
  · exact hA q (Nat.le_trans hS.1 h)
theorem lc_pre {As : List Value} (hE : EV D ak s) (hT : ST D ak ad A s s.heap) (hP : va_P D vwCl (U ++ (C ++ V)) H) (hD : va_D A (U ++ (C ++ V))) (hS : va_S A s.heap H locs) (hA : ∀ q, s.heap.size ≤ q → A q) : PreS s H (cPre D ak ad As C H.size) As := by
  refine ⟨cPre.blind, fun W hU hW => ⟨rfl, by rw [hU], by rw [hU]; exact fun k q hk => hP _ q (lc_mid k q hk), hE.warm hW, ⟨fun i j p q hi hj e => ?_, fun _ _ _ => trivial⟩, ?_⟩⟩
  · have := hD.1 _ _ p q (lc_mid i p hi) (lc_mid j q hj) e
    omega
  · rw [hU]
    exact ((hT.kept hS.2.1).narrow (lc_free hD hS hA)).moved hW.alike
theorem lc_join {H1 : Heap} {C1 : va_W} (hP : va_P D vwCl (U ++ (C ++ V)) H) (hD : va_D A (U ++ (C ++ V))) (hF : ∀ q, va_A C H.size q → A q) (hk : ∀ q : Nat, q < H.size → ¬ va_A C H.size q → H1[q]? = H[q]?) (hP1 : va_P D vwCl C1 H1) (hD1 : va_D (va_A C H.size) C1) : va_P D vwCl (U ++ (C1 ++ V)) H1 ∧ va_D A (U ++ (C1 ++ V)) := by
  have kind : ∀ (k : Nat) (q : Nat × va_E), (U ++ (C1 ++ V))[k]? = some q → (∃ j, C1[j]? = some q ∧ k = U.length + j) ∨ (∃ i, (U ++ (C ++ V))[i]? = some q ∧ ((k = i ∧ k < U.length) ∨ (U.length + C1.length ≤ k ∧ i = k - C1.length + C.length))) := by
    intro k q hq
    by_cases h1 : k < U.length
    · rw [List.getElem?_append_left h1] at hq
      exact Or.inr ⟨k, by rw [List.getElem?_append_left h1]; exact hq, Or.inl ⟨rfl, h1⟩⟩
    · rw [List.getElem?_append_right (by omega)] at hq
      by_cases h2 : k - U.length < C1.length
      · rw [List.getElem?_append_left h2] at hq
        exact Or.inl ⟨k - U.length, hq, by omega⟩
      · rw [List.getElem?_append_right (by omega)] at hq
        refine Or.inr ⟨k - C1.length + C.length, ?_, Or.inr ⟨by omega, rfl⟩⟩
        rw [List.getElem?_append_right (by omega), List.getElem?_append_right (by omega), show k - C1.length + C.length - U.length - C.length = k - U.length - C1.length by omega]
        exact hq
  have apart : ∀ (i : Nat) (q : Nat × va_E), (U ++ (C ++ V))[i]? = some q → (i < U.length ∨ U.length + C.length ≤ i) → ¬ va_A C H.size q.1 := by
    intro i q hq hi h
    rcases h with ⟨k2, e, h⟩ | h
    · have := hD.1 i _ q (q.1, e) hq (lc_mid k2 _ h) rfl
      have := (List.getElem?_eq_some_iff.mp h).1
      omega
    · have := (hP i q hq).lt
      omega
  refine ⟨fun k q hq => ?_, fun i j p q hi hj e => ?_, fun k q hq => ?_⟩
  · rcases kind k q hq with ⟨j, h1, _⟩ | ⟨i, h1, h2⟩
    · exact hP1 j q h1
    · exact (hP i q h1).kept (hk q.1 (hP i q h1).lt (apart i q h1 (by omega)))
  · rcases kind i p hi with ⟨x, h1, h1'⟩ | ⟨x, h1, h1'⟩ <;> rcases kind j q hj with ⟨y, h3, h3'⟩ | ⟨y, h3, h3'⟩
    · have := hD1.1 x y p q h1 h3 e
      omega
    · exact absurd (e ▸ hD1.2 x p h1) (apart y q h3 (by omega))
    · exact absurd (e.symm ▸ hD1.2 y q h3) (apart x p h1 (by omega))
    · have := hD.1 x y p q h1 h3 e
      omega
  · rcases kind k q hq with ⟨j, h1, _⟩ | ⟨i, h1, _⟩
    · exact hF _ (hD1.2 j q h1)
    · exact hD.2 i q h1
end LC
section LD
variable {p : Program} {l : Launch} {e : Env} {R : Room} {s : State} {m : MethodId} {args : Array Value} {below : List Frame} {meth : Method} {c : Code} {H : Heap} {locs : List Loc} {cells slots : Nat} {Q : State → Prop}
variable {pc : Nat} {ls : Array Slot} {rest st0 : List Value} {a : Array Value} {A : Nat → Prop} {mc ms : Nat} {D : va_G} {U C V : va_W}
/-- the law's call of a method whose contract speaks of its object's whole row -/
theorem lc_i {R1 : Int32 → va_W → Prop} (hP : va_P D vwCl (U ++ (C ++ V)) H) (hD : va_D A (U ++ (C ++ V))) (hS : va_S A s.heap H locs) (hA : ∀ q, s.heap.size ≤ q → A q)
    (hr : va_Run p l e R s m args below meth c H locs cells slots mc ms (F0 m pc ls st0) rest (cI D (S := va_W) R1 (fun L => L) C H.size a) (va_A C H.size))
    (kk : ∀ (r : Int32) (C1 : va_W) (H1 : Heap) (locs1 : List Loc), R1 r C1 → va_P D vwCl (U ++ (C1 ++ V)) H1 → va_D A (U ++ (C1 ++ V)) → va_S A s.heap H1 locs1 → W p l e R s m args below meth c H1 locs1 (cells + mc) (slots + ms) Q (F0 m (pc + 3) ls (.int r :: rest))) : W p l e R s m args below meth c H locs cells slots Q (F0 m pc ls st0) := by
  have hF := lc_free hD hS hA
  refine va_calli hr hS (fun q _ h => hF q h) hF (fun r u t H1 locs1 ht hvm hw hB hz hk hS1 => ?_)
  obtain ⟨hP1, hD1⟩ := hB
  rw [ht] at hP1
  obtain ⟨h1, h2⟩ := lc_join hP hD hF hk hP1 hD1
  exact kk r u H1 locs1 hw h1 h2 hS1
end LD
end
section
section LV
variable {D : va_G} {ak : Nat → ClassId} {ad : Nat → Nat} {s : State} {H : Heap} {A : Nat → Prop} {U C V : va_W} {locs : List Loc}
theorem lc_preV {As : List Value} {Cn : String} {b : Nat} (hE : EV D ak s) (hT : ST D ak ad A s s.heap) (hP : va_P D vwCl (U ++ (C ++ V)) H) (hD : va_D A (U ++ (C ++ V))) (hS : va_S A s.heap H locs) (hA : ∀ q, s.heap.size ≤ q → A q) (q0 ci : Nat) {fs : List Value} {q : vw_C} (hc : vwCl[ci]? = some q) (hq : q.1 = Cn) (he : C[q0]? = some (b, .inr (ci, fs))) : PreV s H Cn b (cPre D ak ad (.ref b :: As) C H.size) As := by
  subst hq
  have h := lc_pre (As := .ref b :: As) hE hT hP hD hS hA
  exact ⟨h.1, va_recv hE.1 hP hc (lc_mid q0 _ he), h.2⟩
theorem IX.head {h7 : Nat} {v : VW} {L : va_W} (h : IX ak ad h7 v L) : ∃ xa : Nat → Nat, L[0]? = some (h7, .inr (6, wob xa)) := by
  obtain ⟨xa, ta, ra, ma, wa, ga, sa, la, gq, mk, ka, M, tr, bm, sf, sn, so, lp, lu, lt, lk, lr, PL, GA, rfl, _⟩ := h
  exact ⟨xa, rfl⟩
theorem IM.head {h : Nat} {v : VW} {L : va_W} (hI : IM ak h v L) : ∃ fs : List Value, L[0]? = some (h, .inr (7, fs)) := by
  obtain ⟨am, F, fw, A, b, rfl, _⟩ := hI
  exact ⟨_, rfl⟩
end LV
end
section
abbrev kNSE : String := "java/util/NoSuchElementException"
abbrev kND : List String := ["java/lang/RuntimeException", "java/lang/Exception", Bundle.tN]
abbrev kNS : List String := ["java/lang/RuntimeException", "java/lang/Exception"]
def xnL : List Cond := Bundle.throwableAtoms ++ Bundle.throwableSAtoms ++ Bundle.passSAtoms kNSE "java/lang/RuntimeException" 13 prog_21_method_4_code ++ Bundle.chainSAtoms "java/lang/RuntimeException" ["java/lang/Exception"] ++
  [.methodLink RX7 168 (Bundle.initS kNSE), .instantiable kNSE 6, .castable kNSE kNSE, .selects kNSE Bundle.tFill0 Bundle.tFill0, .selects kNSE Bundle.tFill Bundle.tFill, .lays kNSE Bundle.tN "cause" "Ljava/lang/Throwable;", .lays kNSE Bundle.tN "stackTrace" Bundle.steD, .lays kNSE Bundle.tN "suppressedExceptions" Bundle.listD, .lays kNSE Bundle.tN "detailMessage" "Ljava/lang/String;", .isRef (.static Bundle.tN "UNASSIGNED_STACK" Bundle.steD), .isRef (.static Bundle.tN "SUPPRESSED_SENTINEL" Bundle.listD), .fieldLink Bundle.tN 198 Bundle.tN "backtrace" "Ljava/lang/Object;", .lays Bundle.tN Bundle.tN "backtrace" "Ljava/lang/Object;", .lays kNSE Bundle.tN "backtrace" "Ljava/lang/Object;"]
theorem xn_0 : decode prog_21_method_4_code 0 = .ok (.aload_n 0, 1) := by decide +kernel
theorem xn_1 : decode prog_21_method_4_code 1 = .ok (.aload_n 1, 1) := by decide +kernel
theorem xn_2 : decode prog_21_method_4_code 2 = .ok (.invokespecial 13, 3) := by decide +kernel
theorem xn_5 : decode prog_21_method_4_code 5 = .ok (.return_, 1) := by decide +kernel
section XN
variable {p : Program} {l : Launch} {e : Env} {R : Room} {s : State} {m₀ : MethodId} {args : Array Value} {below : List Frame} {meth : Method} {c : Code} {W : State} {locs : List Loc} {cells slots : Nat}
set_option maxHeartbeats 4000000 in
theorem xn_ctor (X : Stand p l e R s m₀ args below meth c W locs cells slots) (hexec : p.tables.exec = Jvm.exec) (htr : e.platform.stackTraces = false) 
    (hown : s.vm.findClass RX7 = some m₀.cls)
    (h : ∀ a ∈ xnL, a.before args s = true)
    (hlocs : ∀ x ∈ locs, ∀ cell, s.heap[x.base]? = some cell → cell.vm.isStatics = false)
    {a : Addr} {cX : ClassId} {kX : Class} (hfoundX : s.vm.findClass kNSE = some cX) (hkX : s.vm.classes[cX]? = some kX) (hcell : W.heap[a]? = some (freshCell cX kX)) (hnew : s.heap.size ≤ a)
    {msg : Value} (hmsg : msg.isRef = true)
    {g : JFrame} (hg : g.method = m₀) (hsize : g.locals.size = c.maxLocals) (hlocked : g.locked = none) (hentered : g.entered = []) {rest : List Value} (hstack : g.stack = msg :: .ref a :: .ref a :: rest)
    (hd6 : decode c.code g.pc = .ok (.invokespecial 168, 3)) (hd9 : decode c.code (g.pc + 3) = .ok (.athrow, 1)) (hout : ∀ x ∈ c.exceptionTable.toList, covers x (g.pc + 3) = false)
    (hRframes : kNS.length + 3 < R.frames) (hRlocals : 2 * g.monitorRoom + ((Value.ref a :: rest).map fun v => v.category).sum + (13 * (kNS.length + 1) + 42) ≤ R.locals) (hlocks : meth.locks = false := by first | assumption | exact BodyLoose.notSynchronized (by assumption) | exact Body.notSynchronized (by assumption)) :
    ∃ U : State, Steps p.tables e below (W.setTop g) U ∧ U.status = .running ∧ Ended U below (.threw a) ∧ s.WarmedH U.vm ∧ s.sameButNew ({ U with vm := s.vm } : State) locs cells slots ∧
      ∃ ce, U.heap[a]? = some ce ∧ s.vm.findClass kNSE = some ce.cls ∧ ce.vm = .none := by
  have howns : e.platform.frameOwnsMonitors = true := by rw [X.admits.platform]
  have hfin : e.platform.finalization = false := by rw [X.admits.platform]
  have hpl : e.platform.magicAccessors = ({} : Platform).magicAccessors := by rw [X.admits.platform]
  have a' : ∀ x, x ∈ xnL → x.holds args s none s [] = true := fun x hx => h x hx
  obtain ⟨T, Z0, L, -, Y⟩ := ThrowableC.of_atoms (args := args) howns hfin hpl (fun x hx => h x (by simp [xnL, hx]))
  obtain ⟨Z, M, LZ, LM, hnZ⟩ := Init0T.ofS_atoms (args := args) hpl L Y (fun x hx => h x (by simp [xnL, hx]))
  obtain ⟨P2, Ps2, hlen2, L2, hL2, hP2m, hlink21, hlink2⟩ := Bundle.chainS (args := args) hpl hnZ ["java/lang/Exception"] "java/lang/RuntimeException" (by decide +kernel) (by decide +kernel) (fun x hx => h x (by simp [xnL, hx]))
  obtain ⟨P1, L1, hP1m, hP1s⟩ := PassC.ofS_atoms (args := args) (s := s) hpl (X := kNSE) (Y := "java/lang/RuntimeException") (by decide +kernel) (by decide +kernel) xn_0 xn_1 xn_2 xn_5 (fun x hx => h x (by simp only [xnL, List.mem_append]; exact Or.inl (Or.inl (Or.inr hx))))
  obtain ⟨Ps, hPs⟩ : ∃ z, z = P2 :: Ps2 := ⟨_, rfl⟩
  have hlen : Ps.length = kNS.length := by rw [hPs]; simp [hlen2]
  have hL : ∀ P, P ∈ Ps → P.LinksS e.platform s := by
    intro P hP
    rw [hPs] at hP
    rcases List.mem_cons.mp hP with rfl | hP
    · exact L2
    · exact hL2 P hP
  have hfound : s.vm.findClass kNSE = some P1.m.cls := findClass_of_methodNamed hP1m
  cases Option.some.inj (hfoundX.symm.trans hfound)
  obtain ⟨c1, kX', hc1, hk, hord, -, -, hn6⟩ := Cond.instantiable_spec (a' (.instantiable kNSE 6) (by simp [xnL]))
  cases Option.some.inj (hc1.symm.trans hfound)
  cases Option.some.inj (hkX.symm.trans hk)
  have hsel0 : selectMethod e.platform s.vm P1.m.cls T.fill0 = .method T.fill0 := by
    obtain ⟨c2, r2, m2, q1, q2, q3, q4, -⟩ := Cond.selects_spec (a' (.selects kNSE Bundle.tFill0 Bundle.tFill0) (by simp [xnL]))
    cases Option.some.inj (q1.symm.trans hfound)
    cases Option.some.inj (q2.symm.trans (State.methodFound?_of_named Y.fill0 (by decide)))
    cases Option.some.inj (q3.symm.trans Y.fill0)
    rw [Launch.admits_selectMethod X.admits]; exact q4
  have hselF : selectMethod e.platform s.vm P1.m.cls T.fill = .method T.fill := by
    obtain ⟨c2, r2, m2, q1, q2, q3, q4, -⟩ := Cond.selects_spec (a' (.selects kNSE Bundle.tFill Bundle.tFill) (by simp [xnL]))
    cases Option.some.inj (q1.symm.trans hfound)
    cases Option.some.inj (q2.symm.trans (State.methodFound?_of_named Y.fill (by decide)))
    cases Option.some.inj (q3.symm.trans Y.fill)
    rw [Launch.admits_selectMethod X.admits]; exact q4
  obtain ⟨cellS0, hcS0, hiss⟩ := Y.statics
  obtain ⟨u0, hu0⟩ := Cond.staticRefV Y.unassigned L.unassignedStatic L.statics hcS0 hiss (a' (.isRef (.static Bundle.tN "UNASSIGNED_STACK" Bundle.steD)) (by simp [xnL]))
  obtain ⟨sen, hsen⟩ := Cond.staticRefV Y.sentinel L.sentinelStatic L.statics hcS0 hiss (a' (.isRef (.static Bundle.tN "SUPPRESSED_SENTINEL" Bundle.listD)) (by simp [xnL]))
  obtain ⟨ci198, i198, fB, hk198, hg198, ha198, hsB, -, hnB, htB, hffB⟩ := Cond.ownField (t := .object "java/lang/Object") Y.found L.cls (by decide +kernel) (a' (.fieldLink Bundle.tN 198 Bundle.tN "backtrace" "Ljava/lang/Object;") (by simp [xnL])) (a' (.lays Bundle.tN Bundle.tN "backtrace" "Ljava/lang/Object;") (by simp [xnL])) e.platform hpl
  obtain ⟨cellS, hcS', heS, -, hkeep⟩ := X.same.2.2.2.2.2 T.aS cellS0 hcS0
  have hcellS : W.heap[T.aS]? = some cellS := hcS'
  have hout' : ∀ i, (⟨T.aS, i⟩ : Loc) ∉ locs := fun i hmem => by
    have := hlocs _ hmem cellS0 hcS0
    rw [hiss] at this; cases this
  have hknownS : cellS.vm ≠ .unknown := by
    rw [heS]; intro hu
    rw [show cellS0.vm = .unknown from hu] at hiss
    cases hiss
  have hneS : T.aS ≠ a := Nat.ne_of_lt (Nat.lt_of_lt_of_le (Array.getElem?_eq_some_iff.mp hcS0).1 hnew)
  obtain ⟨iM, hffM⟩ := Y.msg
  obtain ⟨tyC, dC, hdC, hdnC⟩ := Cond.laysAt hfound hk Y.cause (a' (.lays kNSE Bundle.tN "cause" "Ljava/lang/Throwable;") (by simp [xnL]))
  obtain ⟨tyS, dS, hdS, hdnS⟩ := Cond.laysAt hfound hk Y.stack (a' (.lays kNSE Bundle.tN "stackTrace" Bundle.steD) (by simp [xnL]))
  obtain ⟨tyP, dP, hdP, hdnP⟩ := Cond.laysAt hfound hk Y.supp (a' (.lays kNSE Bundle.tN "suppressedExceptions" Bundle.listD) (by simp [xnL]))
  obtain ⟨tyM, dM, hdM, hdnM⟩ := Cond.laysAt hfound hk hffM (a' (.lays kNSE Bundle.tN "detailMessage" "Ljava/lang/String;") (by simp [xnL]))
  obtain ⟨tyB, dB, hdB, hdnB⟩ := Cond.laysAt hfound hk hffB (a' (.lays kNSE Bundle.tN "backtrace" "Ljava/lang/Object;") (by simp [xnL]))
  have bC := Cond.laysApart hdB hdC hdnB hdnC (by rw [hnB, Y.causeName]; decide)
  have bS := Cond.laysApart hdB hdS hdnB hdnS (by rw [hnB, Y.stackName]; decide)
  have bP := Cond.laysApart hdB hdP hdnB hdnP (by rw [hnB, Y.suppName]; decide)
  have hskip : SkipFacts T e.platform s (fun u => u) u0 ((preparedCellV T.toThrowableT (freshCell P1.m.cls kX) a u0 sen).withEntry W.cur) :=
    ⟨{ ci198 := ci198, i198 := i198, fBack := fB }, ⟨hk198, hg198, ha198, hsB⟩, by
      have := fresh_default (c := P1.m.cls) tyB
      rw [htB] at this
      simpa [preparedCellV, Cell.setSlot, Cell.withEntry, Array.getElem?_setIfInBounds, bC, bS, bP, bC.symm, bS.symm, bP.symm, defaultValue] using this, fun _ _ => rfl⟩
  obtain ⟨tm, methC, cdC, kC, vm₁, hnC, -, -, -, -, -, -, -, hW₁, st1⟩ := Steps.initColdS (tb := p.tables) (e := e) (below := below) (s := s) (U := W) X.here hexec X.warmed hpl hown (t := Bundle.initS kNSE) rfl rfl (by decide +kernel)
    (a' (.methodLink RX7 168 (Bundle.initS kNSE)) (by simp [xnL])) (h (.instanceMethod (Bundle.initS kNSE)) (by simp [xnL, Bundle.passSAtoms])) (bytes := prog_21_method_4_code) (maxL := 2) (h (.code (Bundle.initS kNSE) prog_21_method_4_code 2 none) (by simp [xnL, Bundle.passSAtoms]))
    (f := g) hg (a := a) (msg := msg) (rest := .ref a :: rest) hstack hd6
  cases Option.some.inj (hnC.symm.trans hP1m)
  have X₁ := X.noted hW₁
  obtain ⟨vm₂, X₂, st2⟩ := X₁.ctorMessageOffV hexec (g := { g with stack := .ref a :: rest }) hg hsize T L Z LZ M LM (P1 :: Ps)
    (fun P hP => by rcases List.mem_cons.mp hP with rfl | hP; exact L1; exact hL P hP) (by rw [hPs]; exact ⟨Option.some.inj (hP1s.symm.trans hP2m), hlink21, hlink2⟩) (u0 := u0) (sen := sen) (self := a) hmsg (cell := freshCell P1.m.cls kX) (cellS := cellS)
    hcell (fun _ => by simp) (by simp) rfl rfl hsel0 hselF hcellS hneS hknownS (by rw [hkeep _ (hout' _)]; exact hu0) (by rw [hkeep _ (hout' _)]; exact hsen)
    (Takes.of_laid hk hord tyC (by rw [Y.causeType]; rfl)) (Takes.of_laid hk hord tyS (by rw [Y.stackType]; exact fits_refV_array _ u0)) (Takes.of_laid hk hord tyP (by rw [Y.suppType]; exact fits_refV_object _ sen))
    (Takes.of_laid hk hord tyM (by rw [Y.msgType]; exact fits_refV_object _ ⟨msg, hmsg⟩)) Y.objLocals hskip htr [] hd6
    (by simp only [List.length_cons, hlen]; omega) (by simp only [List.length_cons, hlen]; exact hRlocals)
  obtain ⟨hwalk, hrun, hended, hWU, hsame⟩ := X₂.athrowLeaves hexec (g := { g with stack := .ref a :: rest, pc := g.pc + 3 }) hg hlocked hentered hout (a := a) (rest := rest) rfl hd9
  obtain ⟨c3, c4, hc3, hc4, hasg⟩ := Cond.castable_spec (a' (.castable kNSE kNSE) (by simp [xnL]))
  cases Option.some.inj (hc3.symm.trans hfound)
  cases Option.some.inj (hc4.symm.trans hfound)
  have hlt : a < ((W.setVm vm₁).setVm vm₂).heap.size := (Array.getElem?_eq_some_iff.mp hcell).1
  have hU := heapAt_setCell_self (s := (W.setVm vm₁).setVm vm₂) (plainBareV T.toThrowableT (freshCell P1.m.cls kX) a u0 sen msg) hlt
  refine ⟨_, st1 _ (fun acts => ?_), hrun, hended, hWU, hsame.weaken (fun y hy hlt' => ?_) (Nat.le_refl _) (Nat.le_refl _), _, hU, ?_⟩
  · rw [doInvoke_state]
    exact st2 _ hwalk
  · rcases List.mem_append.mp hy with h1 | h1
    · exact h1
    · exfalso
      have hb : y.base = a := by
        simp only [List.mem_cons, List.not_mem_nil, or_false] at h1
        rcases h1 with rfl | rfl | rfl | rfl | rfl <;> rfl
      rw [hb] at hlt'
      exact Nat.not_lt.mpr hnew hlt'
  · exact ⟨hfound, rfl⟩

end XN
section XNT
variable {p : Program} {l : Launch} {e : Env} {R : Room} {s : State} {m : MethodId} {args : Array Value} {below : List Frame} {meth : Method} {c : Code} {H : Heap} {locs : List Loc} {cells slots : Nat} {Q : State → Prop}
variable {pc : Nat} {ls : Array Slot} {rest st0 : List Value} {Qc : Array Value → State → Outcome → State → Prop} {XC : String → State → State → Prop} {free : Addr → Prop}
theorem xn_throw {cc : ByteArray} {pc : Nat} (hexec : p.tables.exec = Jvm.exec) (hb : c.code = cc) (hl : l.stackTraces = false) {text : String} {is mc ms sa : Nat} {A : Nat → Prop}
    (hown : s.vm.findClass RX7 = some m.cls)
    (hk : (Cond.classLink RX7 164 kNSE).before args s = true) (hini : (Cond.initialized kNSE).before args s = true) (hstr : vk_R RX7 is text sa s) (hat : ∀ w ∈ xnL.filter vx_no, w.before args s = true)
    (hgood : ∀ w ∈ Cond.classLink RX7 164 kNSE :: Cond.initialized kNSE :: xnL.filter vx_no, vx_ot w = true)
    (hU : vx_Zq Bundle.tN "UNASSIGNED_STACK" Bundle.steD A s s.heap) (hN : vx_Zq Bundle.tN "SUPPRESSED_SENTINEL" Bundle.listD A s s.heap) (hS : va_S A s.heap H locs) (hsize : ls.size = c.maxLocals)
    (d0 : decode cc pc = .ok (.new 164, 3)) (d3 : decode cc (pc + 3) = .ok (.dup, 1)) (d4 : decode cc (pc + 4) = .ok (.ldc is, 2)) (d6 : decode cc (pc + 6) = .ok (.invokespecial 168, 3)) (d9 : decode cc (pc + 9) = .ok (.athrow, 1))
    (hout : ∀ x ∈ c.exceptionTable.toList, covers x (pc + 9) = false)
    (hRframes : kNS.length + 3 < R.frames) (hRlocals : (rest.map fun v => v.category).sum + (13 * (kNS.length + 1) + 43) ≤ R.locals) (hRcells : cells + 1 ≤ R.cells) (hRslots : slots + 6 ≤ R.slots) (hlocks : meth.locks = false)
    (hx : ∀ t : State, s.vm.Alike t.vm → H.size ≤ t.heap.size → (∀ q : Nat, q < H.size → t.heap[q]? = H[q]?) → XC kNSE s t)
    (hf : ∀ z ∈ locs, free z.base) (hc : cells + 1 ≤ mc) (hs : slots + 6 ≤ ms) :
    W p l e R s m args below meth c H locs cells slots (vx_MQ below Qc XC args s mc ms free) (F0 m pc ls rest) := by
  intro T hT X
  have htr : e.platform.stackTraces = false := (show e.platform.stackTraces = l.stackTraces by rw [X.admits.platform]).trans hl
  have Y := vx_rebase X (R' := { frames := R.frames, locals := R.locals, cells := 1, slots := 6 }) (Nat.le_refl _) (Nat.le_refl _) hRcells hRslots
  obtain ⟨s', hA⟩ : ∃ z, z = (T.setVm s.vm).setFrames (.invoking m args :: below) := ⟨_, rfl⟩
  rw [← hA] at Y
  have hvm : s'.vm = s.vm := by rw [hA]; rfl
  have hhp : s'.heap = H := by rw [hA]; exact hT
  have hW0 : s.WarmedH s'.vm := by rw [hvm]; exact State.WarmedH.refl s
  have hat' : ∀ w ∈ xnL.filter vx_no, w.before args s' = true := fun w hw => vx_ot_at hW0 hvm.symm (hgood w (List.mem_cons_of_mem _ (List.mem_cons_of_mem _ hw))) (hat w hw)
  have hk' : (Cond.classLink RX7 164 kNSE).before args s' = true := vx_ot_at hW0 hvm.symm (hgood _ List.mem_cons_self) hk
  have hini' : (Cond.initialized kNSE).before args s' = true := vx_ot_at hW0 hvm.symm (hgood _ (List.mem_cons_of_mem _ List.mem_cons_self)) hini
  have hU' : vx_Zq Bundle.tN "UNASSIGNED_STACK" Bundle.steD A s' s'.heap := by rw [hhp]; exact vx_Zq.moved hW0.alike (hU.kept hS.2.1)
  have hN' : vx_Zq Bundle.tN "SUPPRESSED_SENTINEL" Bundle.listD A s' s'.heap := by rw [hhp]; exact vx_Zq.moved hW0.alike (hN.kept hS.2.1)
  have h : ∀ w ∈ xnL, w.before args s' = true := vx_own hat' (vx_isRefq hU'.1) (vx_isRefq hN'.1) hU'.2.word hN'.2.word
  have hown' : s'.vm.findClass RX7 = some m.cls := by rw [hvm]; exact hown
  have hins : (Cond.instantiable kNSE 6).before args s' = true := h _ (by simp [xnL])
  obtain ⟨vm₁, cX, kX, hfX, hkX, -, -, X₁, st1⟩ := Y.newCold hexec (own := RX7) (C := kNSE) (index := 164) (n := 6) hown' hk' hins hini'
    (g := F0 m pc ls rest) rfl (by rw [hb]; exact d0) (Nat.le_refl _) (Nat.le_refl _)
  generalize hT1 : (T.setVm vm₁).pushCell { cls := cX, slots := kX.instanceTypes.map defaultValue, vm := .none } = T1 at X₁ st1
  have hcat : (Value.ref T.heap.size).category = 1 := rfl
  have hcellA : T1.heap[T.heap.size]? = some (freshCell cX kX) := by rw [← hT1]; exact State.heap_pushCell_size _ _
  have d3' : decode c.code (pc + 3) = .ok (.dup, 1) := by rw [hb]; exact d3
  have d4' : decode c.code (pc + 4) = .ok (.ldc is, 2) := by rw [hb]; exact d4
  have hstr' : vk_R RX7 is text sa s' := vk_R.warm hW0 hstr
  obtain ⟨U, hsteps, hrun, hend, hW, hsame, ce, hce, hOc, hOv⟩ := xn_ctor X₁ hexec htr hown' h (fun x hx => nomatch hx) hfX hkX hcellA (by rw [hhp, hT]; exact Nat.le_refl _) (msg := .ref sa) rfl
    (g := { method := m, pc := pc + 6, locals := ls, stack := .ref sa :: .ref T.heap.size :: .ref T.heap.size :: rest, locked := none }) rfl hsize rfl rfl (rest := rest) rfl
    (by rw [hb]; exact d6) (by rw [hb]; exact d9) hout hRframes (by simp only [List.map_cons, List.sum_cons, hcat]; omega) hlocks
  obtain ⟨f1, f2⟩ := vx_frame hsame
  rw [hhp] at f1 f2
  have hWs : s.WarmedH U.vm := State.WarmedH.trans hW0 hW
  have hcl : s.vm.findClass kNSE = some ce.cls := by
    have h9 := hOc
    rw [hvm] at h9
    exact h9
  have hall : s.sameButNew ({ U with vm := s.vm } : State) locs mc ms := by
    subst hA
    obtain ⟨e1, e2⟩ := hsame
    rw [State.setFrames_setFrames] at e1
    have h2 : (T.setVm s.vm).sameButNew ({ U with vm := s.vm } : State) [] (0 + 1) (0 + 6) := ⟨e1, e2⟩
    have h3 := X.same.trans h2
    rw [List.append_nil] at h3
    exact h3.mono hc hs
  refine ⟨U, ?_, .threw T.heap.size, hrun, hend, Or.inr ⟨T.heap.size, rfl, kNSE, ce, locs, hx U hWs.alike f1 (fun q hq => f2 q hq (fun z hz => nomatch hz)), hce, hOv, hcl, hWs, hall, hf⟩⟩
  refine st1 _ ?_
  show Steps p.tables e below (T1.setTop { method := m, pc := pc + 3, locals := ls, stack := .ref T.heap.size :: rest, locked := none }) _
  jvm_step X₁.here [X₁.here.top, hexec, d3', Value.category]
  exact X₁.ldcString hexec (own := RX7) (text := text) (index := is) (a := sa) hown' hstr'.1 hstr'.2
    (g := { method := m, pc := pc + 4, locals := ls, stack := .ref T.heap.size :: .ref T.heap.size :: rest, locked := none }) rfl d4' _ hsteps

end XNT
end
section
def XE (A : Nat → Prop) (U : State) (H : Heap) : Prop := vx_Zq Bundle.tN "UNASSIGNED_STACK" Bundle.steD A U H ∧ vx_Zq Bundle.tN "SUPPRESSED_SENTINEL" Bundle.listD A U H ∧ (∃ a, vk_R RX7 166 "no such cell, or nothing is begun" a U) ∧ (∃ a, vk_R RX7 173 "not written, or not kept" a U) ∧ va_Nw (.castable kNSE kNSE) U ∧ ∀ y ∈ kND, va_Nw (.declares (Bundle.initS y)) U
theorem XE.kept {A : Nat → Prop} {U : State} {H H1 : Heap} (h : XE A U H) (hq : ∀ a : Nat, a < H.size → ¬ A a → H1[a]? = H[a]?) : XE A U H1 := ⟨h.1.kept hq, h.2.1.kept hq, h.2.2⟩
theorem XE.narrow {A B : Nat → Prop} {U : State} {H : Heap} (h : XE A U H) (hAB : ∀ q, B q → A q) : XE B U H := ⟨h.1.narrow hAB, h.2.1.narrow hAB, h.2.2⟩
theorem XE.warm {A : Nat → Prop} {s U : State} {H : Heap} (hW : s.WarmedH U.vm) (h : XE A s H) : XE A U H := ⟨h.1.moved hW.alike, h.2.1.moved hW.alike, h.2.2.1.imp (fun _ q => q.warm hW), h.2.2.2.1.imp (fun _ q => q.warm hW), va_Nw.warmC hW h.2.2.2.2.1, fun y hy => va_Nw.warmD hW (h.2.2.2.2.2 y hy)⟩
theorem XE.same {A : Nat → Prop} {s U : State} {H : Heap} (hv : s.vm = U.vm) (h : XE A s H) : XE A U H := ⟨h.1.moved (hv ▸ Vm.Alike.refl s.vm), h.2.1.moved (hv ▸ Vm.Alike.refl s.vm), h.2.2.1.imp (fun _ q => q.same hv.symm), h.2.2.2.1.imp (fun _ q => q.same hv.symm), va_Nw.same rfl hv h.2.2.2.2.1, fun y hy => va_Nw.same rfl hv (h.2.2.2.2.2 y hy)⟩
def cPreX (D : va_G) (ak : Nat → ClassId) (ad : Nat → Nat) (av : List Value) (ws : va_W) (sz : Nat) : Array Value → State → Prop := fun v U => cPre D ak ad av ws sz v U ∧ XE (va_A ws sz) U U.heap
theorem cPreX.blind {D : va_G} {ak : Nat → ClassId} {ad : Nat → Nat} {av : List Value} {ws : va_W} {sz : Nat} : FrameBlind (cPreX D ak ad av ws sz) := fun a U g mk q => ⟨cPre.blind a U g mk q.1, XE.same (s := U) (U := U.calling g mk a) rfl q.2⟩
theorem kc_preX {D : va_G} {ak : Nat → ClassId} {ad : Nat → Nat} {s : State} {H : Heap} {A : Nat → Prop} {ws : va_W} {locs : List Loc} {wc : va_W} {As : List Value} (hXE : XE A s s.heap) (hE : EV D ak s) (hT : ST D ak ad A s s.heap) (hP : va_P D vwCl ws H) (hD : va_D A ws) (hS : va_S A s.heap H locs) (hA : ∀ q, s.heap.size ≤ q → A q) (isC : List Nat) (hn : va_nd isC = true) (hC : isC.map (fun i => ws[i]?) = wc.map some) (hC2 : isC.filterMap (fun i => ws[i]?) = wc) : PreS s H (cPreX D ak ad As wc H.size) As := by
  have h := kc_pre (As := As) hE hT hP hD hS hA isC hn hC hC2
  refine ⟨cPreX.blind, fun U hU hW => ⟨h.2 U hU hW, ?_⟩⟩
  rw [hU]
  exact ((hXE.kept hS.2.1).narrow (va_free hD hS hA isC hC)).warm hW
theorem kc_preVX {D : va_G} {ak : Nat → ClassId} {ad : Nat → Nat} {s : State} {H : Heap} {A : Nat → Prop} {ws : va_W} {locs : List Loc} {wc : va_W} {As : List Value} {C : String} {b : Nat} (hXE : XE A s s.heap) (hE : EV D ak s) (hT : ST D ak ad A s s.heap) (hP : va_P D vwCl ws H) (hD : va_D A ws) (hS : va_S A s.heap H locs) (hA : ∀ q, s.heap.size ≤ q → A q) (isC : List Nat) (hn : va_nd isC = true) (hC : isC.map (fun i => ws[i]?) = wc.map some) (hC2 : isC.filterMap (fun i => ws[i]?) = wc) (q0 ci : Nat) {fs : List Value} {q : vw_C} (hc : vwCl[ci]? = some q) (hq : q.1 = C) (he : ws[q0]? = some (b, .inr (ci, fs))) : PreV s H C b (cPreX D ak ad (.ref b :: As) wc H.size) As := by
  subst hq
  have h := kc_preX (As := .ref b :: As) hXE hE hT hP hD hS hA isC hn hC hC2
  exact ⟨h.1, va_recv hE.1 hP hc he, h.2⟩
theorem x_ng : ∀ w ∈ (xnL.filter vx_no).filter (fun w => !goodWord w), w ∈ Cond.castable kNSE kNSE :: kND.map (fun y => Cond.declares (Bundle.initS y)) := by decide +kernel
theorem x_b {A : Nat → Prop} {s : State} {H : Heap} {args : Array Value} (h : XE A s H) : ∀ w ∈ Cond.castable kNSE kNSE :: kND.map (fun y => Cond.declares (Bundle.initS y)), w.before args s = true := by
  intro w hw
  rcases List.mem_cons.mp hw with e | hw
  · rw [e]
    exact va_Nw.use rfl h.2.2.2.2.1
  · obtain ⟨y, hy, rfl⟩ := List.mem_map.mp hw
    exact va_Nw.use rfl (h.2.2.2.2.2 y hy)
theorem x_ot : ∀ w ∈ Cond.classLink RX7 164 kNSE :: Cond.initialized kNSE :: xnL.filter vx_no, vx_ot w = true := by decide +kernel
section LCX
variable {D : va_G} {ak : Nat → ClassId} {ad : Nat → Nat} {s : State} {H : Heap} {A : Nat → Prop} {U C V : va_W} {locs : List Loc}
theorem lc_preX {As : List Value} (hXE : XE A s s.heap) (hE : EV D ak s) (hT : ST D ak ad A s s.heap) (hP : va_P D vwCl (U ++ (C ++ V)) H) (hD : va_D A (U ++ (C ++ V))) (hS : va_S A s.heap H locs) (hA : ∀ q, s.heap.size ≤ q → A q) : PreS s H (cPreX D ak ad As C H.size) As := by
  have h := lc_pre (As := As) hE hT hP hD hS hA
  refine ⟨cPreX.blind, fun W hU hW => ⟨h.2 W hU hW, ?_⟩⟩
  rw [hU]
  exact ((hXE.kept hS.2.1).narrow (lc_free hD hS hA)).warm hW
theorem lc_preVX {As : List Value} {Cn : String} {b : Nat} (hXE : XE A s s.heap) (hE : EV D ak s) (hT : ST D ak ad A s s.heap) (hP : va_P D vwCl (U ++ (C ++ V)) H) (hD : va_D A (U ++ (C ++ V))) (hS : va_S A s.heap H locs) (hA : ∀ q, s.heap.size ≤ q → A q) (q0 ci : Nat) {fs : List Value} {q : vw_C} (hc : vwCl[ci]? = some q) (hq : q.1 = Cn) (he : C[q0]? = some (b, .inr (ci, fs))) : PreV s H Cn b (cPreX D ak ad (.ref b :: As) C H.size) As := by
  subst hq
  have h := lc_preX (As := .ref b :: As) hXE hE hT hP hD hS hA
  exact ⟨h.1, va_recv hE.1 hP hc (lc_mid q0 _ he), h.2⟩
end LCX
section LC0
variable {p : Program} {l : Launch} {e : Env} {R : Room} {s : State} {m : MethodId} {args : Array Value} {below : List Frame} {meth : Method} {c : Code} {H : Heap} {locs : List Loc} {cells slots : Nat} {Q : State → Prop}
variable {pc : Nat} {ls : Array Slot} {rest st0 : List Value} {a : Array Value} {A : Nat → Prop} {mc ms : Nat} {D : va_G} {ws : va_W}
/-- a call of a method that has no cells: the world stays -/
theorem lc_i0 {S : Type} {post : Int32 → S → Prop} {w : S → va_W} (hP : va_P D vwCl ws H) (hD : va_D A ws) (hS : va_S A s.heap H locs) (hA : ∀ q, s.heap.size ≤ q → A q)
    (hr : va_Run p l e R s m args below meth c H locs cells slots mc ms (F0 m pc ls st0) rest (cI D post w [] H.size a) (va_A [] H.size))
    (kk : ∀ (r : Int32) (u : S) (H1 : Heap) (locs1 : List Loc), post r u → va_P D vwCl ws H1 → va_D A ws → va_S A s.heap H1 locs1 → W p l e R s m args below meth c H1 locs1 (cells + mc) (slots + ms) Q (F0 m (pc + 3) ls (.int r :: rest))) : W p l e R s m args below meth c H locs cells slots Q (F0 m pc ls st0) := by
  have hz0 : ∀ q, va_A [] H.size q → H.size ≤ q := by
    intro q h
    rcases h with ⟨k, e, h⟩ | h
    · simp at h
    · exact h
  have hF : ∀ q, va_A [] H.size q → A q := fun q h => hA q (Nat.le_trans hS.1 (hz0 q h))
  refine va_calli hr hS (fun q _ h => hF q h) hF (fun r u t H1 locs1 ht hvm hw hB hz hk hS1 => ?_)
  exact kk r u H1 locs1 hw (fun k q hq => (hP k q hq).kept (hk q.1 (hP k q hq).lt (fun z => Nat.not_le.mpr (hP k q hq).lt (hz0 _ z)))) hD hS1
end LC0
theorem IX.hand {ak : Nat → ClassId} {ad : Nat → Nat} {h7 : Nat} {v : VW} {L : va_W} (h : IX ak ad h7 v L) : ∃ (xa ma : Nat → Nat) (pg : Nat) (w0 st nx sp : Int32) (u : Nat) (fc fk : Nat → Int32) (k : Nat) (pa : Nat → Nat) (ps pe pi_ pn : Nat), L[0]? = some (h7, .inr (6, wob xa)) ∧ L[10]? = some (xa 3, .inr (1, xob ma pg w0 st nx sp (nI u))) ∧ L[14]? = some (ma 3, .inl (ak 0, 6, .inl fc)) ∧ L[15]? = some (ma 4, .inl (ak 0, 200, .inl fk)) ∧ L[k]? = some (pg, .inr (2, pob pa (nI ps) (nI pe) (nI pi_) (nI pn))) ∧ pe ≤ 6 ∧ u ≤ 1000000 ∧ (st = 0 ↔ v.2.2.1.2.2.2.1 = 0) ∧ pe = nC v.2.2.1.1 ∧ u = v.2.2.1.2.2.2.2.2.2.2.2.length ∧ (¬ v.2.2.1.2.2.2.1 = 0 → AGn (nC v.2.2.1.1) v.2.2.1.2.2.2.2.2.2.2.1 fc) ∧ KE9 200 v.2.2.1.2.2.2.2.2.2.2.2 fk := by
  obtain ⟨xa, ta, ra, ma, wa, ga, sa, la, gq, mk, ka, M, tr, bm, sf, sn, so, lp, lu, lt, lk, lr, PL, GA, rfl, _, _, ⟨hg, _, _, hM, _⟩, _⟩ := h
  obtain ⟨pa, cl, ps, pe, pi_, pn, be, co, to_, gc, le, gr, ac, sq, tg, fr, mi, en, cd, hPK, hQ, hq⟩ := hg
  have h0 := hq _ (List.mem_cons_self)
  obtain ⟨i, hi⟩ := List.getElem?_of_mem h0
  have hO : MO9 v.2.2.1 := hM.2.1
  have hC := hM.2.2.2
  have h4 : v.2.2.1.2.2.2.1 ≤ 4 := hO.2.2.1
  have hl : v.2.2.1.2.2.2.2.2.2.2.2.length ≤ v.2.2.1.2.2.2.2.2.1 := hO.2.2.2.2.2.1
  have hl2 : v.2.2.1.2.2.2.2.2.1 ≤ 1000000 := hO.2.2.2.2.2.2.1
  have he : nI pe = nI (nC v.2.2.1.1) := hQ.2.2.2.2.1
  have h6 : nC v.2.2.1.1 ≤ 6 := hQ.2.1
  have hpe : pe ≤ 6 := hPK.2.1
  refine ⟨xa, ma, (M 0).1, (M 0).2.1 0, (M 0).2.1 1, (M 0).2.1 2, (M 0).2.1 3, v.2.2.1.2.2.2.2.2.2.2.2.length, (M 0).2.2 3, (M 0).2.2 4, 86 + i, pa, ps, pe, pi_, pn, rfl, ?_, rfl, rfl, ?_, hpe, by omega, ?_, (nI_eq (by omega) (by omega)).mp he, rfl, hC.2.2.2.2.2.1, hC.2.2.2.2.2.2⟩
  · rw [← hC.2.2.2.1]
    rfl
  · rw [List.getElem?_append_right (by rw [XL_len]; omega), XL_len, show 86 + i - 86 = i by omega]
    exact hi
  · rw [hC.1]
    exact nI_eq (b := 0) (by omega) (by decide)
/-- what a throw leaves: the whole row as it was -/
abbrev xTL (D : va_G) (L : va_W) (sz : Nat) (P : Prop) : String → State → State → Prop := vx_X (S := Unit) (fun _ => True) (fun E _ t => E = kNSE ∧ P ∧ va_P D vwCl L t.heap ∧ va_D (va_A L sz) L) (va_A L sz)
def xwX7_cell : List Cond := .code yX7_cell cX7_cell 2 (some .int) :: ([.classLink RX7 164 kNSE, .initialized kNSE, .fieldLink RX7 37 "WornLines" "hand" "LWornLines$Machine;", .fieldLink RX7 155 "WornLines$Machine" "state" "I", .fieldLink RX7 89 "WornLines$Machine" "programme" "LWornLines$Programme;", .fieldLink RX7 128 "WornLines$Programme" "cells" "I", .fieldLink RX7 171 "WornLines$Machine" "cells" "[I", .methodLink RX7 95 yX7_within, .static yX7_within, .initialized RX7, .code yX7_within cX7_within 2 (some .boolean)] ++ wsX70 ++ wsX10 ++ wsX20 ++ (xnL.filter vx_no).filter goodWord)
def xwX7_wrote : List Cond := .code yX7_wrote cX7_wrote 2 (some .int) :: ([.classLink RX7 164 kNSE, .initialized kNSE, .fieldLink RX7 37 "WornLines" "hand" "LWornLines$Machine;", .fieldLink RX7 161 "WornLines$Machine" "written" "I", .methodLink RX7 147 Lib.Math.min.name, .static Lib.Math.min.name, .initialized "java/lang/Math", .code Lib.Math.min.name Lib.Math.min.code 2 (some .int), .fieldLink RX7 175 "WornLines$Machine" "kept" "[I", .methodLink RX7 95 yX7_within, .static yX7_within, .initialized RX7, .code yX7_within cX7_within 2 (some .boolean)] ++ wsX70 ++ wsX10 ++ wsX20 ++ (xnL.filter vx_no).filter goodWord)
theorem xg_cell : GoodIn xwX7_cell (va_wsS RX7 95 yX7_within wsX7_within) := goodIn_r _ [8, 9, 10, 11] rfl (by decide +kernel)
theorem xg_wrote : GoodIn xwX7_wrote (va_wsS RX7 95 yX7_within wsX7_within) := goodIn_r _ [10, 11, 12, 13] rfl (by decide +kernel)
theorem dX7_cell_0 : decode cX7_cell 0 = .ok (.aload_n 0, 1) := by decide +kernel
theorem dX7_cell_1 : decode cX7_cell 1 = .ok (.getfield 37, 3) := by decide +kernel
theorem dX7_cell_4 : decode cX7_cell 4 = .ok (.getfield 155, 3) := by decide +kernel
theorem dX7_cell_7 : decode cX7_cell 7 = .ok (.ifCond .eq 20, 3) := by decide +kernel
theorem dX7_cell_27 : decode cX7_cell 27 = .ok (.new 164, 3) := by decide +kernel
theorem dX7_cell_30 : decode cX7_cell 30 = .ok (.dup, 1) := by decide +kernel
theorem dX7_cell_31 : decode cX7_cell 31 = .ok (.ldc 166, 2) := by decide +kernel
theorem dX7_cell_33 : decode cX7_cell 33 = .ok (.invokespecial 168, 3) := by decide +kernel
theorem dX7_cell_36 : decode cX7_cell 36 = .ok (.athrow, 1) := by decide +kernel
theorem dX7_cell_10 : decode cX7_cell 10 = .ok (.iload_n 1, 1) := by decide +kernel
theorem dX7_cell_11 : decode cX7_cell 11 = .ok (.aload_n 0, 1) := by decide +kernel
theorem dX7_cell_12 : decode cX7_cell 12 = .ok (.getfield 37, 3) := by decide +kernel
theorem dX7_cell_15 : decode cX7_cell 15 = .ok (.getfield 89, 3) := by decide +kernel
theorem dX7_cell_18 : decode cX7_cell 18 = .ok (.getfield 128, 3) := by decide +kernel
theorem dX7_cell_21 : decode cX7_cell 21 = .ok (.invokestatic 95, 3) := by decide +kernel
theorem dX7_cell_24 : decode cX7_cell 24 = .ok (.ifCond .ne 13, 3) := by decide +kernel
theorem dX7_cell_37 : decode cX7_cell 37 = .ok (.aload_n 0, 1) := by decide +kernel
theorem dX7_cell_38 : decode cX7_cell 38 = .ok (.getfield 37, 3) := by decide +kernel
theorem dX7_cell_41 : decode cX7_cell 41 = .ok (.getfield 171, 3) := by decide +kernel
theorem dX7_cell_44 : decode cX7_cell 44 = .ok (.iload_n 1, 1) := by decide +kernel
theorem dX7_cell_45 : decode cX7_cell 45 = .ok (.iaload, 1) := by decide +kernel
theorem dX7_cell_46 : decode cX7_cell 46 = .ok (.ireturn, 1) := by decide +kernel
theorem dX7_wrote_0 : decode cX7_wrote 0 = .ok (.iload_n 1, 1) := by decide +kernel
theorem dX7_wrote_1 : decode cX7_wrote 1 = .ok (.aload_n 0, 1) := by decide +kernel
theorem dX7_wrote_2 : decode cX7_wrote 2 = .ok (.getfield 37, 3) := by decide +kernel
theorem dX7_wrote_5 : decode cX7_wrote 5 = .ok (.getfield 161, 3) := by decide +kernel
theorem dX7_wrote_8 : decode cX7_wrote 8 = .ok (.sipush 200, 3) := by decide +kernel
theorem dX7_wrote_11 : decode cX7_wrote 11 = .ok (.invokestatic 147, 3) := by decide +kernel
theorem dX7_wrote_14 : decode cX7_wrote 14 = .ok (.invokestatic 95, 3) := by decide +kernel
theorem dX7_wrote_17 : decode cX7_wrote 17 = .ok (.ifCond .ne 13, 3) := by decide +kernel
theorem dX7_wrote_30 : decode cX7_wrote 30 = .ok (.aload_n 0, 1) := by decide +kernel
theorem dX7_wrote_31 : decode cX7_wrote 31 = .ok (.getfield 37, 3) := by decide +kernel
theorem dX7_wrote_34 : decode cX7_wrote 34 = .ok (.getfield 175, 3) := by decide +kernel
theorem dX7_wrote_37 : decode cX7_wrote 37 = .ok (.iload_n 1, 1) := by decide +kernel
theorem dX7_wrote_38 : decode cX7_wrote 38 = .ok (.iaload, 1) := by decide +kernel
theorem dX7_wrote_39 : decode cX7_wrote 39 = .ok (.ireturn, 1) := by decide +kernel
theorem dX7_wrote_20 : decode cX7_wrote 20 = .ok (.new 164, 3) := by decide +kernel
theorem dX7_wrote_23 : decode cX7_wrote 23 = .ok (.dup, 1) := by decide +kernel
theorem dX7_wrote_24 : decode cX7_wrote 24 = .ok (.ldc 173, 2) := by decide +kernel
theorem dX7_wrote_26 : decode cX7_wrote 26 = .ok (.invokespecial 168, 3) := by decide +kernel
theorem dX7_wrote_29 : decode cX7_wrote 29 = .ok (.athrow, 1) := by decide +kernel
set_option maxHeartbeats 4000000 in
set_option maxRecDepth 100000 in
theorem x_cell (l : Launch) (hl0 : l.stackTraces = false) (D : va_G) (ak : Nat → ClassId) (ad : Nat → Nat) (sz h7 : Nat) (v : VW) (L : va_W) (a0 : Int32) (hI : IX ak ad h7 v L) : vx_Met l yX7_cell xwX7_cell ({ frames := 6, cells := 1, slots := 6, locals := 90 }) (cPreX D ak ad [.ref h7, .int a0] L sz) (cI D (S := va_W) (fun r L1 => L1 = L ∧ f_cell v.2.2.1 a0 = some r) (fun L1 => L1) L sz) (xTL D L sz (f_cell v.2.2.1 a0 = none)) 1 6 (va_A L sz) := by
  obtain ⟨xa, ma, pg, w0, st, nx, sp, u0, fc, fk, k0, pa, ps, pe, pi_, pn, hL0, hL1, hL2, hL3, hL4, hpe, hu0, hst, hpe2, hu2, hfc, hfk⟩ := hI.hand
  refine vx_ofW (cc := cX7_cell) (maxL := 2) (ret := (some .int)) (by decide) rfl ?_
  intro p e s m args below meth c s₁ B hml htab hv
  obtain ⟨⟨rfl, hsz, hP, hE, hD0, hT⟩, hXE⟩ := hv
  have hx := B.exec
  have hb := B.bytes
  have hr := B.returns
  have hts := atoms_spec (ws := xwX7_cell) B.pre
  have hown : s.vm.findClass RX7 = some m.cls := findClass_of_methodNamed B.named
  have hlocks := B.notSynchronized
  subst hsz
  have hD := hD0.self (sz := s.heap.size)
  generalize hAe : va_A L s.heap.size = A at hD hT hXE ⊢
  have hA : ∀ q : Nat, s.heap.size ≤ q → A q := fun q h => by rw [← hAe]; exact Or.inr h
  have hS : va_S A s.heap s.heap [] := va_S.rf
  have hl := lv_entry ([.ref h7, .int (a0)]) (n := 2) (Nat.le_of_ble_eq_true rfl)
  rw [lg_entry_eq]
  generalize (lg_sl ([.ref h7, .int (a0)]) ++ List.replicate (2 - (lg_sl ([.ref h7, .int (a0)])).length) Slot.unset).toArray = ls at hl ⊢
  have hl : lv_has ls 2 [(0, .ref h7), (1, .int (a0))] := hl
  refine lv_aload_n hx hb dX7_cell_0 rfl (lv_at hl 0 rfl) ?_
  refine vt_get (D := D) (ci := 6) (v := .ref (xa 3)) (C := RX7) (T := TX7) (N := 10) hx hb hts (fun w h => List.mem_cons_of_mem _ (List.mem_append_left _ (List.mem_append_left _ (List.mem_append_left _ (List.mem_append_right _ h))))) hown hE.1 hP 0 hL0 rfl 3 (by decide) tX7_3 (hts (.fieldLink RX7 37 "WornLines" "hand" "LWornLines$Machine;") (by decide +kernel)) (fun _ h9 => h9) rfl dX7_cell_1 ?_
  refine vt_get (D := D) (ci := 1) (v := .int st) (C := RX1) (T := TX1) (N := 12) hx hb hts (fun w h => List.mem_cons_of_mem _ (List.mem_append_left _ (List.mem_append_left _ (List.mem_append_right _ h)))) hown hE.1 hP 10 hL1 rfl 8 (by decide) tX1_8 (hts (.fieldLink RX7 155 "WornLines$Machine" "state" "I") (by decide +kernel)) (fun _ h9 => h9) rfl dX7_cell_4 ?_
  refine lv_if_eq (tgt := 27) hx hb dX7_cell_7 (by decide) (fun c_7 => ?_) (fun c_7 => ?_)
  · have hno : f_cell v.2.2.1 a0 = none := f_cell_n0 (hst.mp c_7)
    obtain ⟨sa, hstr⟩ := hXE.2.2.1
    exact xn_throw (text := "no such cell, or nothing is begun") (is := 166) hx hb hl0 hown (hts (.classLink RX7 164 kNSE) (by decide +kernel)) (hts (.initialized kNSE) (by decide +kernel)) hstr (vx_hat (fun w h => hts w (List.mem_cons_of_mem _ (List.mem_append_right _ h))) x_ng (fun w h => x_b hXE w h)) x_ot hXE.1 hXE.2.1 hS (by rw [hml]; exact hl.1) dX7_cell_27 dX7_cell_30 dX7_cell_31 dX7_cell_33 dX7_cell_36 (fun x h => (htab x h).elim) (Nat.le_of_ble_eq_true rfl) (Nat.le_of_ble_eq_true rfl) (Nat.le_of_ble_eq_true rfl) (Nat.le_of_ble_eq_true rfl) hlocks (fun t _ h1 h2 => ⟨(), trivial, ⟨rfl, hno, fun k q hk => (hP k q hk).kept (h2 q.1 (hP k q hk).lt), by rw [hAe]; exact hD⟩, Nat.le_trans hS.1 h1, fun q hq hq2 => (h2 q (Nat.lt_of_lt_of_le hq hS.1)).trans (hS.2.1 q hq (by rw [← hAe]; exact hq2))⟩) hS.2.2 (Nat.le_refl _) (Nat.le_refl _)
  refine lv_iload_n hx hb dX7_cell_10 rfl (lv_at hl 1 rfl) ?_
  refine lv_aload_n hx hb dX7_cell_11 rfl (lv_at hl 0 rfl) ?_
  refine vt_get (D := D) (ci := 6) (v := .ref (xa 3)) (C := RX7) (T := TX7) (N := 10) hx hb hts (fun w h => List.mem_cons_of_mem _ (List.mem_append_left _ (List.mem_append_left _ (List.mem_append_left _ (List.mem_append_right _ h))))) hown hE.1 hP 0 hL0 rfl 3 (by decide) tX7_3 (hts (.fieldLink RX7 37 "WornLines" "hand" "LWornLines$Machine;") (by decide +kernel)) (fun _ h9 => h9) rfl dX7_cell_12 ?_
  refine vt_get (D := D) (ci := 1) (v := .ref pg) (C := RX1) (T := TX1) (N := 12) hx hb hts (fun w h => List.mem_cons_of_mem _ (List.mem_append_left _ (List.mem_append_left _ (List.mem_append_right _ h)))) hown hE.1 hP 10 hL1 rfl 0 (by decide) tX1_0 (hts (.fieldLink RX7 89 "WornLines$Machine" "programme" "LWornLines$Programme;") (by decide +kernel)) (fun _ h9 => h9) rfl dX7_cell_15 ?_
  refine vt_get (D := D) (ci := 2) (v := .int (nI pe)) (C := RX2) (T := TX2) (N := 17) hx hb hts (fun w h => List.mem_cons_of_mem _ (List.mem_append_left _ (List.mem_append_right _ h))) hown hE.1 hP k0 hL4 rfl 3 (by decide) tX2_3 (hts (.fieldLink RX7 128 "WornLines$Programme" "cells" "I") (by decide +kernel)) (fun _ h9 => h9) rfl dX7_cell_18 ?_
  refine lc_i0 hP hD hS hA (va_runS (As := [.int (a0), .int (nI pe)]) (rest := []) ⟨hx, hb, hml, hown, hts⟩ (c_X7_within l D ak ad _ a0 (nI pe) (fun r => (r = 0 ∧ ixO a0 pe = none) ∨ (r = 1 ∧ ¬ a0 < 0 ∧ ¬ nI pe ≤ a0)) ⟨fun z => Or.inl ⟨rfl, ixO_lt z⟩, fun z => ⟨fun y => Or.inl ⟨rfl, ixO_ge y⟩, fun y => Or.inr ⟨rfl, z, y⟩⟩⟩) (va_cwS 2 hts xg_cell rfl rfl rfl hz_X7_within ⟨(Nat.le_of_ble_eq_true rfl), (Nat.le_of_ble_eq_true rfl)⟩) (kc_pre (As := [.int (a0), .int (nI pe)]) (wc := []) hE hT hP hD hS hA [] (by decide) rfl rfl) rfl rfl hl.1 rfl (lv_room (Nat.le_of_ble_eq_true rfl)) dX7_cell_21 ⟨(Nat.le_of_ble_eq_true rfl), (Nat.le_of_ble_eq_true rfl)⟩) (fun r _ H locs hw hP hD hS => ?_)
  refine lv_if_ne (tgt := 37) hx hb dX7_cell_24 (by decide) (fun c_24 => ?_) (fun c_24 => ?_)
  · have h9 := hw.resolve_left (fun h => c_24 h.1)
    have hin : vp_in a0 6 := inO hpe (by decide) h9.2.1 h9.2.2
    have hst0 : ¬ v.2.2.1.2.2.2.1 = 0 := fun h => c_7 (hst.mpr h)
    have hso : f_cell v.2.2.1 a0 = some (fc a0.toNatClampNeg) := by
      obtain ⟨j, hj, ej, e⟩ := ixO_in (n := pe) (by omega) h9.2.1 h9.2.2
      rw [hpe2] at e hj
      rw [f_cell_s hst0 e, ← hfc hst0 j hj, ej, nI_clamp (n := j) (by omega)]
    refine lv_aload_n hx hb dX7_cell_37 rfl (lv_at hl 0 rfl) ?_
    refine vt_get (D := D) (ci := 6) (v := .ref (xa 3)) (C := RX7) (T := TX7) (N := 10) hx hb hts (fun w h => List.mem_cons_of_mem _ (List.mem_append_left _ (List.mem_append_left _ (List.mem_append_left _ (List.mem_append_right _ h))))) hown hE.1 hP 0 hL0 rfl 3 (by decide) tX7_3 (hts (.fieldLink RX7 37 "WornLines" "hand" "LWornLines$Machine;") (by decide +kernel)) (fun _ h9 => h9) rfl dX7_cell_38 ?_
    refine vt_get (D := D) (ci := 1) (v := .ref (ma 3)) (C := RX1) (T := TX1) (N := 12) hx hb hts (fun w h => List.mem_cons_of_mem _ (List.mem_append_left _ (List.mem_append_left _ (List.mem_append_right _ h)))) hown hE.1 hP 10 hL1 rfl 4 (by decide) tX1_4 (hts (.fieldLink RX7 171 "WornLines$Machine" "cells" "[I") (by decide +kernel)) (fun _ h9 => h9) rfl dX7_cell_41 ?_
    refine lv_iload_n hx hb dX7_cell_44 rfl (lv_at hl 1 rfl) ?_
    refine va_iald hx hb hE.1 hP 14 0 hL2 rfl hin dX7_cell_45 ?_
    refine vx_ret (W.widen (k := 1) (n := 6) (Nat.le_of_ble_eq_true rfl) (Nat.le_of_ble_eq_true rfl) ?_)
    exact W.iret hx hb hr (fun t ht hW => ⟨⟨_, L, rfl, ⟨rfl, hso⟩, by rw [ht]; exact hP, by rw [hAe]; exact hD⟩, by rw [hAe]; exact hS.F ht⟩) hS.2.2 dX7_cell_46
  · have hno : f_cell v.2.2.1 a0 = none := hw.elim (fun h => f_cell_n1 (hpe2 ▸ h.2)) (fun h => absurd (h.1.symm.trans c_24) (by decide))
    obtain ⟨sa, hstr⟩ := hXE.2.2.1
    exact xn_throw (text := "no such cell, or nothing is begun") (is := 166) hx hb hl0 hown (hts (.classLink RX7 164 kNSE) (by decide +kernel)) (hts (.initialized kNSE) (by decide +kernel)) hstr (vx_hat (fun w h => hts w (List.mem_cons_of_mem _ (List.mem_append_right _ h))) x_ng (fun w h => x_b hXE w h)) x_ot hXE.1 hXE.2.1 hS (by rw [hml]; exact hl.1) dX7_cell_27 dX7_cell_30 dX7_cell_31 dX7_cell_33 dX7_cell_36 (fun x h => (htab x h).elim) (Nat.le_of_ble_eq_true rfl) (Nat.le_of_ble_eq_true rfl) (Nat.le_of_ble_eq_true rfl) (Nat.le_of_ble_eq_true rfl) hlocks (fun t _ h1 h2 => ⟨(), trivial, ⟨rfl, hno, fun k q hk => (hP k q hk).kept (h2 q.1 (hP k q hk).lt), by rw [hAe]; exact hD⟩, Nat.le_trans hS.1 h1, fun q hq hq2 => (h2 q (Nat.lt_of_lt_of_le hq hS.1)).trans (hS.2.1 q hq (by rw [← hAe]; exact hq2))⟩) hS.2.2 (Nat.le_refl _) (Nat.le_refl _)
set_option maxHeartbeats 4000000 in
set_option maxRecDepth 100000 in
theorem x_wrote (l : Launch) (hl0 : l.stackTraces = false) (D : va_G) (ak : Nat → ClassId) (ad : Nat → Nat) (sz h7 : Nat) (v : VW) (L : va_W) (a0 : Int32) (hI : IX ak ad h7 v L) : vx_Met l yX7_wrote xwX7_wrote ({ frames := 6, cells := 1, slots := 6, locals := 90 }) (cPreX D ak ad [.ref h7, .int a0] L sz) (cI D (S := va_W) (fun r L1 => L1 = L ∧ f_wrote v.2.2.1 a0 = some r) (fun L1 => L1) L sz) (xTL D L sz (f_wrote v.2.2.1 a0 = none)) 1 6 (va_A L sz) := by
  obtain ⟨xa, ma, pg, w0, st, nx, sp, u0, fc, fk, k0, pa, ps, pe, pi_, pn, hL0, hL1, hL2, hL3, hL4, hpe, hu0, hst, hpe2, hu2, hfc, hfk⟩ := hI.hand
  refine vx_ofW (cc := cX7_wrote) (maxL := 2) (ret := (some .int)) (by decide) rfl ?_
  intro p e s m args below meth c s₁ B hml htab hv
  obtain ⟨⟨rfl, hsz, hP, hE, hD0, hT⟩, hXE⟩ := hv
  have hx := B.exec
  have hb := B.bytes
  have hr := B.returns
  have hts := atoms_spec (ws := xwX7_wrote) B.pre
  have hown : s.vm.findClass RX7 = some m.cls := findClass_of_methodNamed B.named
  have hlocks := B.notSynchronized
  subst hsz
  have hD := hD0.self (sz := s.heap.size)
  generalize hAe : va_A L s.heap.size = A at hD hT hXE ⊢
  have hA : ∀ q : Nat, s.heap.size ≤ q → A q := fun q h => by rw [← hAe]; exact Or.inr h
  have hS : va_S A s.heap s.heap [] := va_S.rf
  have hl := lv_entry ([.ref h7, .int (a0)]) (n := 2) (Nat.le_of_ble_eq_true rfl)
  rw [lg_entry_eq]
  generalize (lg_sl ([.ref h7, .int (a0)]) ++ List.replicate (2 - (lg_sl ([.ref h7, .int (a0)])).length) Slot.unset).toArray = ls at hl ⊢
  have hl : lv_has ls 2 [(0, .ref h7), (1, .int (a0))] := hl
  refine lv_iload_n hx hb dX7_wrote_0 rfl (lv_at hl 1 rfl) ?_
  refine lv_aload_n hx hb dX7_wrote_1 rfl (lv_at hl 0 rfl) ?_
  refine vt_get (D := D) (ci := 6) (v := .ref (xa 3)) (C := RX7) (T := TX7) (N := 10) hx hb hts (fun w h => List.mem_cons_of_mem _ (List.mem_append_left _ (List.mem_append_left _ (List.mem_append_left _ (List.mem_append_right _ h))))) hown hE.1 hP 0 hL0 rfl 3 (by decide) tX7_3 (hts (.fieldLink RX7 37 "WornLines" "hand" "LWornLines$Machine;") (by decide +kernel)) (fun _ h9 => h9) rfl dX7_wrote_2 ?_
  refine va_get (D := D) (ci := 1) (v := .int (nI u0)) (C := RX1) (T := TX1) (N := 12) hx hb hts (fun w h => List.mem_cons_of_mem _ (List.mem_append_left _ (List.mem_append_left _ (List.mem_append_right _ h)))) hown hE.1 hP 10 hL1 rfl 11 (by decide) (hts (.fieldLink RX7 161 "WornLines$Machine" "written" "I") (by decide +kernel)) (fun _ h9 => h9) rfl dX7_wrote_5 ?_
  refine lv_sipush (v := 200) hx hb dX7_wrote_8 (by decide) ?_
  refine va_mmin hx hb (by rw [hml]; exact hl.1.symm) hown (hts (.methodLink RX7 147 Lib.Math.min.name) (by decide +kernel)) (hts (.static Lib.Math.min.name) (by decide +kernel)) (hts (.initialized "java/lang/Math") (by decide +kernel)) (hts (.code Lib.Math.min.name Lib.Math.min.code 2 (some .int)) (by decide +kernel)) (Nat.le_of_ble_eq_true rfl) (Nat.le_of_ble_eq_true rfl) (Nat.le_of_ble_eq_true rfl) (Nat.le_of_ble_eq_true rfl) dX7_wrote_11 ?_
  refine lv_topi (fun x_1 ex_1 => ?_)
  have hv1 : x_1 = nI (min 200 u0) := by
    rw [ex_1]
    exact if_min (a := 200) (b := u0) (by decide) (by omega)
  subst hv1
  have hv2 : min 200 u0 ≤ 200 := Nat.min_le_left _ _
  have hv3 : min 200 u0 = min v.2.2.1.2.2.2.2.2.2.2.2.length 200 := by rw [hu2]; exact Nat.min_comm _ _
  refine lc_i0 hP hD hS hA (va_runS (As := [.int (a0), .int (nI (min 200 u0))]) (rest := []) ⟨hx, hb, hml, hown, hts⟩ (c_X7_within l D ak ad _ a0 (nI (min 200 u0)) (fun r => (r = 0 ∧ ixO a0 (min 200 u0) = none) ∨ (r = 1 ∧ ¬ a0 < 0 ∧ ¬ nI (min 200 u0) ≤ a0)) ⟨fun z => Or.inl ⟨rfl, ixO_lt z⟩, fun z => ⟨fun y => Or.inl ⟨rfl, ixO_ge y⟩, fun y => Or.inr ⟨rfl, z, y⟩⟩⟩) (va_cwS 2 hts xg_wrote rfl rfl rfl hz_X7_within ⟨(Nat.le_of_ble_eq_true rfl), (Nat.le_of_ble_eq_true rfl)⟩) (kc_pre (As := [.int (a0), .int (nI (min 200 u0))]) (wc := []) hE hT hP hD hS hA [] (by decide) rfl rfl) rfl rfl hl.1 rfl (lv_room (Nat.le_of_ble_eq_true rfl)) dX7_wrote_14 ⟨(Nat.le_of_ble_eq_true rfl), (Nat.le_of_ble_eq_true rfl)⟩) (fun r _ H locs hw hP hD hS => ?_)
  refine lv_if_ne (tgt := 30) hx hb dX7_wrote_17 (by decide) (fun c_17 => ?_) (fun c_17 => ?_)
  · have h9 := hw.resolve_left (fun h => c_17 h.1)
    have hin : vp_in a0 200 := inO hv2 (by decide) h9.2.1 h9.2.2
    have hso : f_wrote v.2.2.1 a0 = some (fk a0.toNatClampNeg) := by
      obtain ⟨j, hj, ej, e⟩ := ixO_in (n := min 200 u0) (by omega) h9.2.1 h9.2.2
      rw [hv3] at e hj
      rw [f_wrote_s e hj hfk, ej, nI_clamp (n := j) (by omega)]
    refine lv_aload_n hx hb dX7_wrote_30 rfl (lv_at hl 0 rfl) ?_
    refine vt_get (D := D) (ci := 6) (v := .ref (xa 3)) (C := RX7) (T := TX7) (N := 10) hx hb hts (fun w h => List.mem_cons_of_mem _ (List.mem_append_left _ (List.mem_append_left _ (List.mem_append_left _ (List.mem_append_right _ h))))) hown hE.1 hP 0 hL0 rfl 3 (by decide) tX7_3 (hts (.fieldLink RX7 37 "WornLines" "hand" "LWornLines$Machine;") (by decide +kernel)) (fun _ h9 => h9) rfl dX7_wrote_31 ?_
    refine vt_get (D := D) (ci := 1) (v := .ref (ma 4)) (C := RX1) (T := TX1) (N := 12) hx hb hts (fun w h => List.mem_cons_of_mem _ (List.mem_append_left _ (List.mem_append_left _ (List.mem_append_right _ h)))) hown hE.1 hP 10 hL1 rfl 5 (by decide) tX1_5 (hts (.fieldLink RX7 175 "WornLines$Machine" "kept" "[I") (by decide +kernel)) (fun _ h9 => h9) rfl dX7_wrote_34 ?_
    refine lv_iload_n hx hb dX7_wrote_37 rfl (lv_at hl 1 rfl) ?_
    refine va_iald hx hb hE.1 hP 15 0 hL3 rfl hin dX7_wrote_38 ?_
    refine vx_ret (W.widen (k := 1) (n := 6) (Nat.le_of_ble_eq_true rfl) (Nat.le_of_ble_eq_true rfl) ?_)
    exact W.iret hx hb hr (fun t ht hW => ⟨⟨_, L, rfl, ⟨rfl, hso⟩, by rw [ht]; exact hP, by rw [hAe]; exact hD⟩, by rw [hAe]; exact hS.F ht⟩) hS.2.2 dX7_wrote_39
  · have hno : f_wrote v.2.2.1 a0 = none := hw.elim (fun h => f_wrote_n (hv3 ▸ h.2)) (fun h => absurd (h.1.symm.trans c_17) (by decide))
    obtain ⟨sa, hstr⟩ := hXE.2.2.2.1
    exact xn_throw (text := "not written, or not kept") (is := 173) hx hb hl0 hown (hts (.classLink RX7 164 kNSE) (by decide +kernel)) (hts (.initialized kNSE) (by decide +kernel)) hstr (vx_hat (fun w h => hts w (List.mem_cons_of_mem _ (List.mem_append_right _ h))) x_ng (fun w h => x_b hXE w h)) x_ot hXE.1 hXE.2.1 hS (by rw [hml]; exact hl.1) dX7_wrote_20 dX7_wrote_23 dX7_wrote_24 dX7_wrote_26 dX7_wrote_29 (fun x h => (htab x h).elim) (Nat.le_of_ble_eq_true rfl) (Nat.le_of_ble_eq_true rfl) (Nat.le_of_ble_eq_true rfl) (Nat.le_of_ble_eq_true rfl) hlocks (fun t _ h1 h2 => ⟨(), trivial, ⟨rfl, hno, fun k q hk => (hP k q hk).kept (h2 q.1 (hP k q hk).lt), by rw [hAe]; exact hD⟩, Nat.le_trans hS.1 h1, fun q hq hq2 => (h2 q (Nat.lt_of_lt_of_le hq hS.1)).trans (hS.2.1 q hq (by rw [← hAe]; exact hq2))⟩) hS.2.2 (Nat.le_refl _) (Nat.le_refl _)
end
