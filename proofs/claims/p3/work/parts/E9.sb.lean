theorem gm_ce {st ce ip ln le mo ta ac ls lf lt cd : Nat → Int32} (h : GM st ce ip ln le mo ta ac ls lf lt cd) : ∃ k : Nat, ce 0 = nI k ∧ k ≤ 6 := by
  obtain ⟨_, ⟨k, h1, h2⟩, _⟩ := h 0 (by decide) (by decide)
  exact ⟨k, h2, h1⟩
theorem im_prog {st ce ip ln ln2 le mo ta ac ls lf lt cd il mk : Nat → Int32} {l : Nat} {sta sta2 hn hs hw : Int32} (hG : GM st ce ip ln2 le mo ta ac ls lf lt cd) (hd : (sta2 = 0 ∧ ∀ p, ¬ p = 0 → ¬ p = 1 → p < 6 → ln2 p = ln p) ∨ (sta2 = sta ∧ ∀ p, ¬ p = 1 → ln2 p = ln p)) (hl : ln 0 = nI l) (hl6 : l ≤ 16) (hH : HS l sta hn hs hw) (hM : MK il mk ln) : (∃ l : Nat, ln2 0 = nI l ∧ l ≤ 16 ∧ HS l sta2 hn hs hw) ∧ MK il mk ln2 := by
  have hq : ∀ p, ¬ p = 0 → ¬ p = 1 → p < 6 → ln2 p = ln p := by
    rcases hd with ⟨_, h⟩ | ⟨_, h⟩
    · exact h
    · exact fun p _ h1 _ => h p h1
  refine ⟨?_, fun m hm hi => ?_⟩
  · rcases hd with ⟨e, _⟩ | ⟨e, h⟩
    · obtain ⟨l2, hr⟩ := hG.rp (p := 0) (by decide) (by decide)
      refine ⟨l2, hr.2.1, hr.2.2.1, Or.inl e, hH.2.1, fun z => ?_⟩
      rw [e] at z
      exact absurd z (by decide)
    · rw [e]
      exact ⟨l, (h 0 (by decide)).trans hl, hl6, hH⟩
  · obtain ⟨l2, a1, a2, a3⟩ := hM m hm hi
    exact ⟨l2, (hq (2 + m) (by omega) (by omega) (by omega)).trans a1, a2, a3⟩
theorem mk_out {v : VW} {il : Nat → Int32} {x0 x1 : Int32} {P : VW → Prop} (hV : VB4 v il) (h : x0 < 0 ∨ 3 < x0 ∨ (¬ x1 = 0 ∧ il x0.toNatClampNeg = 0)) (hp : P v) : (∀ k, k < 4 → x0 = nI k → (0 : Int32) = f_mark v k x1 ∧ P (s_mark v k x1)) ∧ ((x0 < 0 ∨ 4 ≤ x0) → (0 : Int32) = 0 ∧ P v) := by
  refine ⟨fun k hk e => ?_, fun _ => ⟨rfl, hp⟩⟩
  subst e
  rcases h with h | h | ⟨h, h2⟩
  · exact absurd h (nI_pos (by omega))
  · exact absurd ((nI_ltI (a := 3) (b := k) (by decide) (by omega)).mp h) (by omega)
  · rw [nI_clamp (by omega)] at h2
    exact ⟨(f_mark0 hV hk h h2).1, (f_mark0 hV hk h h2).2 ▸ hp⟩
theorem mk_in {v : VW} {il : Nat → Int32} {x0 x1 : Int32} {m : Nat} {P : VW → Prop} (hV : VB4 v il) (hm : m < 4) (he : x0 = nI m) (hc : x1 = 0 ∨ ¬ il m = 0) (hp : ∀ {w : VW}, w.1 = v.1 → VB4 w (upd il m (vp_nar .boolean 1)) → P w) : (∀ k, k < 4 → x0 = nI k → (1 : Int32) = f_mark v k x1 ∧ P (s_mark v k x1)) ∧ ((x0 < 0 ∨ 4 ≤ x0) → (1 : Int32) = 0 ∧ P v) := by
  refine ⟨fun k hk e => ?_, fun h => ?_⟩
  · have ek : m = k := (nI_eq (by omega) (by omega)).mp (he.symm.trans e)
    subst ek
    by_cases hx : x1 = 0
    · exact ⟨(f_mark1 hx).1, (f_mark1 hx).2 ▸ hp (w := (v.1, fun i => if i = m then true else v.2 i)) rfl (vb_mark hV)⟩
    · have hb : ¬ il m = 0 := hc.resolve_left hx
      exact ⟨(f_mark2 hV hm hx hb).1, (f_mark2 hV hm hx hb).2 ▸ hp rfl (vb_back hV hm hb)⟩
  · subst he
    rcases h with h | h
    · exact absurd h (nI_pos (by omega))
    · exact absurd ((nI_leI (a := 4) (b := m) (by decide) (by omega)).mp h) (by omega)
set_option maxHeartbeats 4000000 in
set_option maxRecDepth 100000 in
theorem m_stuff (l : Launch) (D : va_G) (ak : Nat → ClassId) (ad : Nat → Nat) (sz h : Nat) (v : VW) (L : va_W) (x0 : Int32) (x1 : Int32) (hI : IM ak h v L) : Met l yX8_stuff wsX8_stuff ({ frames := 1, cells := 0, slots := 0, locals := 22 }) (cPre D ak ad [.ref h, .int (x0), .int (x1)] L sz) (cI D (S := va_W) (fun _ L1 => IM ak h v L1) (fun L1 => L1) L sz) 0 0 (va_A L sz) := by
  obtain ⟨am, F, fw, A, b, rfl, hn, hG, hC, ⟨l_, hl, hl6, hH⟩, hM, hV⟩ := hI
  exact gm_stuff l D ak ad sz h am v.1.length F fw A b x0 x1 _ (sp_X8_stuff hG (fun r => ⟨am, ofL 0 [0, (F 1), (F 2), (F 3), (F 4), (F 5), (F 6), (F 7), (F 8), (F 9), (F 10), (F 11), (F 12), (F 13), (F 14), (F 15), (F 16), (F 17), (F 18), (F 19)], fw, A, b, rfl, hn, hG, hC, ⟨l_, hl, hl6, hH⟩, hM, hV⟩))

set_option maxHeartbeats 4000000 in
set_option maxRecDepth 100000 in
theorem m_line (l : Launch) (D : va_G) (ak : Nat → ClassId) (ad : Nat → Nat) (sz h : Nat) (v : VW) (L : va_W) (x0 : Int32) (x1 : Int32) (hI : IM ak h v L) : Met l yX8_line wsX8_line ({ frames := 1, cells := 0, slots := 0, locals := 22 }) (cPre D ak ad [.ref h, .int (x0), .int (x1)] L sz) (cI D (S := va_W) (fun _ L1 => IM ak h v L1) (fun L1 => L1) L sz) 0 0 (va_A L sz) := by
  obtain ⟨am, F, fw, A, b, rfl, hn, hG, hC, ⟨l_, hl, hl6, hH⟩, hM, hV⟩ := hI
  exact gm_line l D ak ad sz h am v.1.length F fw A b x0 x1 _ (sp_X8_line hG (fun r => ⟨am, ofL 0 [0, (F 1), (F 2), (F 3), (F 4), (F 5), (F 6), (F 7), (F 8), (F 9), (F 10), (F 11), (F 12), (F 13), (F 14), (F 15), (F 16), (F 17), (F 18), (F 19)], fw, A, b, rfl, hn, hG, hC, ⟨l_, hl, hl6, hH⟩, hM, hV⟩))

set_option maxHeartbeats 4000000 in
set_option maxRecDepth 100000 in
theorem m_cost (l : Launch) (D : va_G) (ak : Nat → ClassId) (ad : Nat → Nat) (sz h : Nat) (v : VW) (L : va_W)  (hI : IM ak h v L) : Met l yX8_cost wsX8_cost ({ frames := 0, cells := 0, slots := 0, locals := 0 }) (cPre D ak ad [.ref h] L sz) (cI D (S := va_W) (fun _ L1 => IM ak h v L1) (fun L1 => L1) L sz) 0 0 (va_A L sz) := by
  obtain ⟨am, F, fw, A, b, rfl, hn, hG, hC, ⟨l_, hl, hl6, hH⟩, hM, hV⟩ := hI
  exact gm_cost l D ak ad sz h am v.1.length F fw A b  _ (sp_X8_cost hG (fun r => ⟨am, ofL 0 [0, (F 1), (F 2), (F 3), (F 4), (F 5), (F 6), (F 7), (F 8), (F 9), (F 10), (F 11), (F 12), (F 13), (F 14), (F 15), (F 16), (F 17), (F 18), (F 19)], fw, A, b, rfl, hn, hG, hC, ⟨l_, hl, hl6, hH⟩, hM, hV⟩))

set_option maxHeartbeats 4000000 in
set_option maxRecDepth 100000 in
theorem m_inputs (l : Launch) (D : va_G) (ak : Nat → ClassId) (ad : Nat → Nat) (sz h : Nat) (v : VW) (L : va_W)  (hI : IM ak h v L) : Met l yX8_inputs wsX8_inputs ({ frames := 2, cells := 0, slots := 0, locals := 43 }) (cPre D ak ad [.ref h] L sz) (cI D (S := va_W) (fun _ L1 => IM ak h v L1) (fun L1 => L1) L sz) 0 0 (va_A L sz) := by
  obtain ⟨am, F, fw, A, b, rfl, hn, hG, hC, ⟨l_, hl, hl6, hH⟩, hM, hV⟩ := hI
  exact gm_inputs l D ak ad sz h am v.1.length F fw A b  _ (sp_X8_inputs hG (fun r => ⟨am, ofL 0 [0, (F 1), (F 2), (F 3), (F 4), (F 5), (F 6), (F 7), (F 8), (F 9), (F 10), (F 11), (F 12), (F 13), (F 14), (F 15), (F 16), (F 17), (F 18), (F 19)], fw, A, b, rfl, hn, hG, hC, ⟨l_, hl, hl6, hH⟩, hM, hV⟩))

set_option maxHeartbeats 4000000 in
set_option maxRecDepth 100000 in
theorem m_input (l : Launch) (D : va_G) (ak : Nat → ClassId) (ad : Nat → Nat) (sz h : Nat) (v : VW) (L : va_W) (x0 : Int32) (x1 : Int32) (hI : IM ak h v L) : Met l yX8_input wsX8_input ({ frames := 2, cells := 0, slots := 0, locals := 46 }) (cPre D ak ad [.ref h, .int (x0), .int (x1)] L sz) (cI D (S := va_W) (fun _ L1 => IM ak h v L1) (fun L1 => L1) L sz) 0 0 (va_A L sz) := by
  obtain ⟨am, F, fw, A, b, rfl, hn, hG, hC, ⟨l_, hl, hl6, hH⟩, hM, hV⟩ := hI
  exact gm_input l D ak ad sz h am v.1.length F fw A b x0 x1 _ (sp_X8_input hG (fun r => ⟨am, ofL 0 [0, (F 1), (F 2), (F 3), (F 4), (F 5), (F 6), (F 7), (F 8), (F 9), (F 10), (F 11), (F 12), (F 13), (F 14), (F 15), (F 16), (F 17), (F 18), (F 19)], fw, A, b, rfl, hn, hG, hC, ⟨l_, hl, hl6, hH⟩, hM, hV⟩))

set_option maxHeartbeats 4000000 in
set_option maxRecDepth 100000 in
theorem m_state (l : Launch) (D : va_G) (ak : Nat → ClassId) (ad : Nat → Nat) (sz h : Nat) (v : VW) (L : va_W) (x0 : Int32) (hI : IM ak h v L) : Met l yX8_state wsX8_state ({ frames := 1, cells := 0, slots := 0, locals := 22 }) (cPre D ak ad [.ref h, .int (x0)] L sz) (cI D (S := va_W) (fun _ L1 => IM ak h v L1) (fun L1 => L1) L sz) 0 0 (va_A L sz) := by
  obtain ⟨am, F, fw, A, b, rfl, hn, hG, hC, ⟨l_, hl, hl6, hH⟩, hM, hV⟩ := hI
  exact gm_state l D ak ad sz h am v.1.length F fw A b x0 _ (sp_X8_state (fun r => ⟨am, ofL 0 [0, (F 1), (F 2), (F 3), (F 4), (F 5), (F 6), (F 7), (F 8), (F 9), (F 10), (F 11), (F 12), (F 13), (F 14), (F 15), (F 16), (F 17), (F 18), (F 19)], fw, A, b, rfl, hn, hG, hC, ⟨l_, hl, hl6, hH⟩, hM, hV⟩))

set_option maxHeartbeats 4000000 in
set_option maxRecDepth 100000 in
theorem m_count (l : Launch) (D : va_G) (ak : Nat → ClassId) (ad : Nat → Nat) (sz h : Nat) (v : VW) (L : va_W) (x0 : Int32) (hI : IM ak h v L) : Met l yX8_count wsX8_count ({ frames := 1, cells := 0, slots := 0, locals := 22 }) (cPre D ak ad [.ref h, .int (x0)] L sz) (cI D (S := va_W) (fun _ L1 => IM ak h v L1) (fun L1 => L1) L sz) 0 0 (va_A L sz) := by
  obtain ⟨am, F, fw, A, b, rfl, hn, hG, hC, ⟨l_, hl, hl6, hH⟩, hM, hV⟩ := hI
  exact gm_count l D ak ad sz h am v.1.length F fw A b x0 _ (sp_X8_count (fun r => ⟨am, ofL 0 [0, (F 1), (F 2), (F 3), (F 4), (F 5), (F 6), (F 7), (F 8), (F 9), (F 10), (F 11), (F 12), (F 13), (F 14), (F 15), (F 16), (F 17), (F 18), (F 19)], fw, A, b, rfl, hn, hG, hC, ⟨l_, hl, hl6, hH⟩, hM, hV⟩))

set_option maxHeartbeats 4000000 in
set_option maxRecDepth 100000 in
theorem m_fresh (l : Launch) (D : va_G) (ak : Nat → ClassId) (ad : Nat → Nat) (sz h : Nat) (v : VW) (L : va_W)  (hI : IM ak h v L) : Met l yX8_fresh wsX8_fresh ({ frames := 0, cells := 0, slots := 0, locals := 0 }) (cPre D ak ad [.ref h] L sz) (cI D (S := va_W) (fun r L1 => r = 1 ∧ IM ak h v L1) (fun L1 => L1) L sz) 0 0 (va_A L sz) := by
  obtain ⟨am, F, fw, A, b, rfl, hn, hG, hC, ⟨l_, hl, hl6, hH⟩, hM, hV⟩ := hI
  exact gm_fresh l D ak ad sz h am v.1.length F fw A b  _ (sp_X8_fresh (fun y1 => ⟨rfl, ⟨am, ofL 0 [0, (F 1), (F 2), (F 3), (F 4), (F 5), (F 6), (F 7), (F 8), (F 9), (F 10), (F 11), (F 12), (F 13), (F 14), (F 15), (F 16), (F 17), (F 18), (F 19)], fw, ofL (fun _ => 0) [(A 0), (A 1), (A 2), (A 3), (A 4), (fun _ => 0), (fun _ => 0), (A 7), (A 8), (A 9), (A 10), (A 11), (A 12), (A 13), (A 14), (A 15), (A 16), (A 17), (A 18), (A 19), (A 20), (A 21), (A 22), (A 23), (A 24), (A 25), (A 26), (A 27), (A 28), (A 29), (A 30), (A 31), (A 32), (A 33), (A 34), (A 35), (A 36), (A 37), y1, (A 39), (A 40), (A 41), (A 42), (A 43), (A 44), (A 45), (A 46)], b, rfl, hn, hG, hC, ⟨l_, hl, hl6, hH⟩, hM, hV⟩⟩))

set_option maxHeartbeats 4000000 in
set_option maxRecDepth 100000 in
theorem m_lay (l : Launch) (D : va_G) (ak : Nat → ClassId) (ad : Nat → Nat) (sz h : Nat) (v : VW) (L : va_W) (x0 : Int32) (x1 : Int32) (x2 : Int32) (hI : IM ak h v L) : Met l yX8_lay wsX8_lay ({ frames := 1, cells := 0, slots := 0, locals := 22 }) (cPre D ak ad [.ref h, .int (x0), .int (x1), .int (x2)] L sz) (cI D (S := va_W) (fun _ L1 => IM ak h v L1) (fun L1 => L1) L sz) 0 0 (va_A L sz) := by
  obtain ⟨am, F, fw, A, b, rfl, hn, hG, hC, ⟨l_, hl, hl6, hH⟩, hM, hV⟩ := hI
  exact gm_lay l D ak ad sz h am v.1.length F fw A b x0 x1 x2 _ (sp_X8_lay hG (fun r y1 y2 y3 _ hG2 => ⟨am, ofL 0 [0, (F 1), (F 2), (F 3), (F 4), (F 5), (F 6), (F 7), (F 8), (F 9), (F 10), (F 11), (F 12), (F 13), (F 14), (F 15), (F 16), (F 17), (F 18), (F 19)], fw, ofL (fun _ => 0) [(A 0), (A 1), (A 2), (A 3), (A 4), (fun _ => 0), (fun _ => 0), (A 7), (A 8), (A 9), (A 10), (A 11), (A 12), (A 13), (A 14), y1, y2, (A 17), (A 18), (A 19), (A 20), (A 21), (A 22), (A 23), (A 24), (A 25), (A 26), (A 27), (A 28), (A 29), (A 30), (A 31), (A 32), (A 33), (A 34), (A 35), (A 36), (A 37), y3, (A 39), (A 40), (A 41), (A 42), (A 43), (A 44), (A 45), (A 46)], b, rfl, hn, hG2, hC, ⟨l_, hl, hl6, hH⟩, hM, hV⟩))

set_option maxHeartbeats 4000000 in
set_option maxRecDepth 100000 in
theorem m_steps (l : Launch) (D : va_G) (ak : Nat → ClassId) (ad : Nat → Nat) (sz h : Nat) (v : VW) (L : va_W) (x0 : Int32) (hI : IM ak h v L) : Met l yX8_steps wsX8_steps ({ frames := 7, cells := 0, slots := 0, locals := 162 }) (cPre D ak ad [.ref h, .int (x0)] L sz) (cI D (S := va_W) (fun _ L1 => IM ak h v L1) (fun L1 => L1) L sz) 0 0 (va_A L sz) := by
  obtain ⟨am, F, fw, A, b, rfl, hn, hG, hC, ⟨l_, hl, hl6, hH⟩, hM, hV⟩ := hI
  exact gm_steps l D ak ad sz h am v.1.length F fw A b x0 _ (sp_X8_steps hG (fun r y1 y2 y3 y4 y5 y6 y7 y8 y9 y10 y11 y12 y13 y14 y15 y16 y17 y18 y19 y20 y21 y22 => ⟨am, ofL 0 [0, (F 1), (F 2), (F 3), (F 4), (F 5), (F 6), (F 7), y1, y2, y3, y4, y5, y6, y7, (F 15), (F 16), (F 17), (F 18), (F 19)], fw, ofL (fun _ => 0) [(A 0), (A 1), (A 2), (A 3), (A 4), (fun _ => 0), (fun _ => 0), (A 7), (A 8), (A 9), (A 10), (A 11), (A 12), (A 13), (A 14), (A 15), (A 16), (A 17), (A 18), (A 19), (A 20), (A 21), y8, y9, y10, y11, y12, y13, y14, y15, y16, y17, y18, y19, y20, y21, y22, (A 37), (A 38), (A 39), (A 40), (A 41), (A 42), (A 43), (A 44), (A 45), (A 46)], b, rfl, hn, hG, hC, ⟨l_, hl, hl6, hH⟩, hM, hV⟩))

set_option maxHeartbeats 4000000 in
set_option maxRecDepth 100000 in
theorem m_falls (l : Launch) (D : va_G) (ak : Nat → ClassId) (ad : Nat → Nat) (sz h : Nat) (v : VW) (L : va_W) (x0 : Int32) (hI : IM ak h v L) : Met l yX8_falls wsX8_falls ({ frames := 7, cells := 0, slots := 0, locals := 162 }) (cPre D ak ad [.ref h, .int (x0)] L sz) (cI D (S := va_W) (fun _ L1 => IM ak h v L1) (fun L1 => L1) L sz) 0 0 (va_A L sz) := by
  obtain ⟨am, F, fw, A, b, rfl, hn, hG, hC, ⟨l_, hl, hl6, hH⟩, hM, hV⟩ := hI
  exact gm_falls l D ak ad sz h am v.1.length F fw A b x0 _ (sp_X8_falls hG (fun r y1 y2 y3 y4 y5 y6 y7 y8 y9 y10 y11 y12 y13 y14 y15 y16 y17 y18 y19 y20 y21 y22 => ⟨am, ofL 0 [0, (F 1), (F 2), (F 3), (F 4), (F 5), (F 6), (F 7), y1, y2, y3, y4, y5, y6, y7, (F 15), (F 16), (F 17), (F 18), (F 19)], fw, ofL (fun _ => 0) [(A 0), (A 1), (A 2), (A 3), (A 4), (fun _ => 0), (fun _ => 0), (A 7), (A 8), (A 9), (A 10), (A 11), (A 12), (A 13), (A 14), (A 15), (A 16), (A 17), (A 18), (A 19), (A 20), (A 21), y8, y9, y10, y11, y12, y13, y14, y15, y16, y17, y18, y19, y20, y21, y22, (A 37), (A 38), (A 39), (A 40), (A 41), (A 42), (A 43), (A 44), (A 45), (A 46)], b, rfl, hn, hG, hC, ⟨l_, hl, hl6, hH⟩, hM, hV⟩))

set_option maxHeartbeats 4000000 in
set_option maxRecDepth 100000 in
theorem m_first (l : Launch) (D : va_G) (ak : Nat → ClassId) (ad : Nat → Nat) (sz h : Nat) (v : VW) (L : va_W) (x0 : Int32) (hI : IM ak h v L) : Met l yX8_first wsX8_first ({ frames := 7, cells := 0, slots := 0, locals := 162 }) (cPre D ak ad [.ref h, .int (x0)] L sz) (cI D (S := va_W) (fun _ L1 => IM ak h v L1) (fun L1 => L1) L sz) 0 0 (va_A L sz) := by
  obtain ⟨am, F, fw, A, b, rfl, hn, hG, hC, ⟨l_, hl, hl6, hH⟩, hM, hV⟩ := hI
  exact gm_first l D ak ad sz h am v.1.length F fw A b x0 _ (sp_X8_first hG (fun r y1 y2 y3 y4 y5 y6 y7 y8 y9 y10 y11 y12 y13 y14 y15 y16 y17 y18 y19 y20 y21 y22 => ⟨am, ofL 0 [0, (F 1), (F 2), (F 3), (F 4), (F 5), (F 6), (F 7), y1, y2, y3, y4, y5, y6, y7, (F 15), (F 16), (F 17), (F 18), (F 19)], fw, ofL (fun _ => 0) [(A 0), (A 1), (A 2), (A 3), (A 4), (fun _ => 0), (fun _ => 0), (A 7), (A 8), (A 9), (A 10), (A 11), (A 12), (A 13), (A 14), (A 15), (A 16), (A 17), (A 18), (A 19), (A 20), (A 21), y8, y9, y10, y11, y12, y13, y14, y15, y16, y17, y18, y19, y20, y21, y22, (A 37), (A 38), (A 39), (A 40), (A 41), (A 42), (A 43), (A 44), (A 45), (A 46)], b, rfl, hn, hG, hC, ⟨l_, hl, hl6, hH⟩, hM, hV⟩))

set_option maxHeartbeats 4000000 in
set_option maxRecDepth 100000 in
theorem m_rounds (l : Launch) (D : va_G) (ak : Nat → ClassId) (ad : Nat → Nat) (sz h : Nat) (v : VW) (L : va_W) (x0 : Int32) (hI : IM ak h v L) : Met l yX8_rounds wsX8_rounds ({ frames := 6, cells := 0, slots := 0, locals := 139 }) (cPre D ak ad [.ref h, .int (x0)] L sz) (cI D (S := va_W) (fun _ L1 => IM ak h v L1) (fun L1 => L1) L sz) 0 0 (va_A L sz) := by
  obtain ⟨am, F, fw, A, b, rfl, hn, hG, hC, ⟨l_, hl, hl6, hH⟩, hM, hV⟩ := hI
  exact gm_rounds l D ak ad sz h am v.1.length F fw A b x0 _ (sp_X8_rounds hG (fun r y1 y2 y3 y4 y5 y6 y7 y8 y9 y10 y11 y12 y13 y14 y15 y16 y17 y18 y19 y20 y21 y22 => ⟨am, ofL 0 [0, (F 1), (F 2), (F 3), (F 4), (F 5), (F 6), (F 7), y1, y2, y3, y4, y5, y6, y7, (F 15), (F 16), (F 17), (F 18), (F 19)], fw, ofL (fun _ => 0) [(A 0), (A 1), (A 2), (A 3), (A 4), (fun _ => 0), (fun _ => 0), (A 7), (A 8), (A 9), (A 10), (A 11), (A 12), (A 13), (A 14), (A 15), (A 16), (A 17), (A 18), (A 19), (A 20), (A 21), y8, y9, y10, y11, y12, y13, y14, y15, y16, y17, y18, y19, y20, y21, y22, (A 37), (A 38), (A 39), (A 40), (A 41), (A 42), (A 43), (A 44), (A 45), (A 46)], b, rfl, hn, hG, hC, ⟨l_, hl, hl6, hH⟩, hM, hV⟩))

set_option maxHeartbeats 4000000 in
set_option maxRecDepth 100000 in
theorem m_better (l : Launch) (D : va_G) (ak : Nat → ClassId) (ad : Nat → Nat) (sz h : Nat) (v : VW) (L : va_W) (x0 : Int32) (hI : IM ak h v L) : Met l yX8_better wsX8_better ({ frames := 6, cells := 0, slots := 0, locals := 139 }) (cPre D ak ad [.ref h, .int (x0)] L sz) (cI D (S := va_W) (fun _ L1 => IM ak h v L1) (fun L1 => L1) L sz) 0 0 (va_A L sz) := by
  obtain ⟨am, F, fw, A, b, rfl, hn, hG, hC, ⟨l_, hl, hl6, hH⟩, hM, hV⟩ := hI
  exact gm_better l D ak ad sz h am v.1.length F fw A b x0 _ (sp_X8_better hG hl hl6 hH (fun r y1 y2 y3 y4 y5 y6 y7 y8 y9 y10 y11 y12 y13 y14 y15 y16 y17 y18 y19 y20 y21 y22 => ⟨am, ofL 0 [0, (F 1), (F 2), (F 3), (F 4), (F 5), (F 6), (F 7), y1, y2, y3, y4, y5, y6, y7, (F 15), (F 16), (F 17), (F 18), (F 19)], fw, ofL (fun _ => 0) [(A 0), (A 1), (A 2), (A 3), (A 4), (fun _ => 0), (fun _ => 0), (A 7), (A 8), (A 9), (A 10), (A 11), (A 12), (A 13), (A 14), (A 15), (A 16), (A 17), (A 18), (A 19), (A 20), (A 21), y8, y9, y10, y11, y12, y13, y14, y15, y16, y17, y18, y19, y20, y21, y22, (A 37), (A 38), (A 39), (A 40), (A 41), (A 42), (A 43), (A 44), (A 45), (A 46)], b, rfl, hn, hG, hC, ⟨l_, hl, hl6, hH⟩, hM, hV⟩))

set_option maxHeartbeats 4000000 in
set_option maxRecDepth 100000 in
theorem m_most (l : Launch) (D : va_G) (ak : Nat → ClassId) (ad : Nat → Nat) (sz h : Nat) (v : VW) (L : va_W) (x0 : Int32) (x1 : Int32) (hI : IM ak h v L) : Met l yX8_most wsX8_most ({ frames := 8, cells := 0, slots := 0, locals := 184 }) (cPre D ak ad [.ref h, .int (x0), .int (x1)] L sz) (cI D (S := va_W) (fun _ L1 => IM ak h v L1) (fun L1 => L1) L sz) 0 0 (va_A L sz) := by
  obtain ⟨am, F, fw, A, b, rfl, hn, hG, hC, ⟨l_, hl, hl6, hH⟩, hM, hV⟩ := hI
  exact gm_most l D ak ad sz h am v.1.length F fw A b x0 x1 _ (sp_X8_most hG (fun r y1 y2 y3 y4 y5 y6 y7 y8 y9 y10 y11 y12 y13 y14 y15 y16 y17 y18 y19 y20 y21 y22 y23 y24 y25 => ⟨am, ofL 0 [0, (F 1), (F 2), (F 3), (F 4), (F 5), (F 6), (F 7), y1, y2, y3, y4, y5, y6, y7, (F 15), (F 16), (F 17), (F 18), (F 19)], fw, ofL (fun _ => 0) [(A 0), (A 1), (A 2), (A 3), (A 4), (fun _ => 0), (fun _ => 0), (A 7), (A 8), (A 9), (A 10), (A 11), (A 12), (A 13), (A 14), (A 15), (A 16), (A 17), (A 18), (A 19), (A 20), (A 21), y8, y9, y10, y11, y12, y13, y14, y15, y16, y17, y18, y19, y20, y21, y22, (A 37), (A 38), (A 39), y23, y24, y25, (A 43), (A 44), (A 45), (A 46)], b, rfl, hn, hG, hC, ⟨l_, hl, hl6, hH⟩, hM, hV⟩))

set_option maxHeartbeats 4000000 in
set_option maxRecDepth 100000 in
theorem m_never (l : Launch) (D : va_G) (ak : Nat → ClassId) (ad : Nat → Nat) (sz h : Nat) (v : VW) (L : va_W)  (hI : IM ak h v L) : Met l yX8_never wsX8_never ({ frames := 8, cells := 0, slots := 0, locals := 184 }) (cPre D ak ad [.ref h] L sz) (cI D (S := va_W) (fun _ L1 => IM ak h v L1) (fun L1 => L1) L sz) 0 0 (va_A L sz) := by
  obtain ⟨am, F, fw, A, b, rfl, hn, hG, hC, ⟨l_, hl, hl6, hH⟩, hM, hV⟩ := hI
  exact gm_never l D ak ad sz h am v.1.length F fw A b  _ (sp_X8_never hG (fun r y1 y2 y3 y4 y5 y6 y7 y8 y9 y10 y11 y12 y13 y14 y15 y16 y17 y18 y19 y20 y21 y22 y23 y24 y25 => ⟨am, ofL 0 [0, (F 1), (F 2), (F 3), (F 4), (F 5), (F 6), (F 7), y1, y2, y3, y4, y5, y6, y7, (F 15), (F 16), (F 17), (F 18), (F 19)], fw, ofL (fun _ => 0) [(A 0), (A 1), (A 2), (A 3), (A 4), (fun _ => 0), (fun _ => 0), (A 7), (A 8), (A 9), (A 10), (A 11), (A 12), (A 13), (A 14), (A 15), (A 16), (A 17), (A 18), (A 19), (A 20), (A 21), y8, y9, y10, y11, y12, y13, y14, y15, y16, y17, y18, y19, y20, y21, y22, (A 37), (A 38), (A 39), y23, y24, y25, (A 43), (A 44), (A 45), (A 46)], b, rfl, hn, hG, hC, ⟨l_, hl, hl6, hH⟩, hM, hV⟩))

set_option maxHeartbeats 4000000 in
set_option maxRecDepth 100000 in
theorem m_apart (l : Launch) (D : va_G) (ak : Nat → ClassId) (ad : Nat → Nat) (sz h : Nat) (v : VW) (L : va_W)  (hI : IM ak h v L) : Met l yX8_apart wsX8_apart ({ frames := 8, cells := 0, slots := 0, locals := 191 }) (cPre D ak ad [.ref h] L sz) (cI D (S := va_W) (fun _ L1 => IM ak h v L1) (fun L1 => L1) L sz) 0 0 (va_A L sz) := by
  obtain ⟨am, F, fw, A, b, rfl, hn, hG, hC, ⟨l_, hl, hl6, hH⟩, hM, hV⟩ := hI
  exact gm_apart l D ak ad sz h am v.1.length F fw A b  _ (sp_X8_apart hG (fun r y1 y2 y3 y4 y5 y6 y7 y8 y9 y10 y11 y12 y13 y14 y15 y16 y17 y18 y19 y20 y21 y22 y23 => ⟨am, ofL 0 [0, (F 1), (F 2), (F 3), (F 4), (F 5), (F 6), (F 7), y1, y2, y3, y4, y5, y6, y7, (F 15), (F 16), (F 17), (F 18), (F 19)], fw, ofL (fun _ => 0) [(A 0), (A 1), (A 2), (A 3), (A 4), (fun _ => 0), (fun _ => 0), (A 7), (A 8), (A 9), (A 10), (A 11), (A 12), (A 13), (A 14), (A 15), (A 16), (A 17), (A 18), (A 19), (A 20), (A 21), y8, y9, y10, y11, y12, y13, y14, y15, y16, y17, y18, y19, y20, y21, y22, (A 37), (A 38), (A 39), (A 40), (A 41), (A 42), y23, (A 44), (A 45), (A 46)], b, rfl, hn, hG, hC, ⟨l_, hl, hl6, hH⟩, hM, hV⟩))

set_option maxHeartbeats 4000000 in
set_option maxRecDepth 100000 in
theorem m_same (l : Launch) (D : va_G) (ak : Nat → ClassId) (ad : Nat → Nat) (sz h : Nat) (v : VW) (L : va_W) (x0 : Int32) (hI : IM ak h v L) : Met l yX8_same wsX8_same ({ frames := 8, cells := 0, slots := 0, locals := 191 }) (cPre D ak ad [.ref h, .int (x0)] L sz) (cI D (S := va_W) (fun _ L1 => IM ak h v L1) (fun L1 => L1) L sz) 0 0 (va_A L sz) := by
  obtain ⟨am, F, fw, A, b, rfl, hn, hG, hC, ⟨l_, hl, hl6, hH⟩, hM, hV⟩ := hI
  exact gm_same l D ak ad sz h am v.1.length F fw A b x0 _ (sp_X8_same hG (fun r y1 y2 y3 y4 y5 y6 y7 y8 y9 y10 y11 y12 y13 y14 y15 y16 y17 y18 y19 y20 y21 y22 y23 => ⟨am, ofL 0 [0, (F 1), (F 2), (F 3), (F 4), (F 5), (F 6), (F 7), y1, y2, y3, y4, y5, y6, y7, (F 15), (F 16), (F 17), (F 18), (F 19)], fw, ofL (fun _ => 0) [(A 0), (A 1), (A 2), (A 3), (A 4), (fun _ => 0), (fun _ => 0), (A 7), (A 8), (A 9), (A 10), (A 11), (A 12), (A 13), (A 14), (A 15), (A 16), (A 17), (A 18), (A 19), (A 20), (A 21), y8, y9, y10, y11, y12, y13, y14, y15, y16, y17, y18, y19, y20, y21, y22, (A 37), (A 38), (A 39), (A 40), (A 41), (A 42), y23, (A 44), (A 45), (A 46)], b, rfl, hn, hG, hC, ⟨l_, hl, hl6, hH⟩, hM, hV⟩))

set_option maxHeartbeats 4000000 in
set_option maxRecDepth 100000 in
theorem m_lasting (l : Launch) (D : va_G) (ak : Nat → ClassId) (ad : Nat → Nat) (sz h : Nat) (v : VW) (L : va_W) (x0 : Int32) (hI : IM ak h v L) : Met l yX8_lasting wsX8_lasting ({ frames := 9, cells := 0, slots := 0, locals := 211 }) (cPre D ak ad [.ref h, .int (x0)] L sz) (cI D (S := va_W) (fun _ L1 => IM ak h v L1) (fun L1 => L1) L sz) 0 0 (va_A L sz) := by
  obtain ⟨am, F, fw, A, b, rfl, hn, hG, hC, ⟨l_, hl, hl6, hH⟩, hM, hV⟩ := hI
  exact gm_lasting l D ak ad sz h am v.1.length F fw A b x0 _ (sp_X8_lasting hG hC (fun r y1 y2 y3 y4 y5 y6 y7 y8 y9 y10 y11 y12 y13 y14 y15 y16 y17 y18 y19 y20 y21 y22 y23 y24 y25 y26 => ⟨am, ofL 0 [0, (F 1), (F 2), (F 3), (F 4), (F 5), (F 6), (F 7), y1, y2, y3, y4, y5, y6, y7, (F 15), (F 16), (F 17), (F 18), (F 19)], fw, ofL (fun _ => 0) [(A 0), (A 1), (A 2), (A 3), (A 4), (fun _ => 0), (fun _ => 0), (A 7), (A 8), (A 9), (A 10), (A 11), (A 12), (A 13), (A 14), (A 15), (A 16), (A 17), (A 18), (A 19), (A 20), (A 21), y8, y9, y10, y11, y12, y13, y14, y15, y16, y17, y18, y19, y20, y21, y22, (A 37), (A 38), (A 39), y23, y24, y25, (A 43), y26, (A 45), (A 46)], b, rfl, hn, hG, hC, ⟨l_, hl, hl6, hH⟩, hM, hV⟩))

set_option maxHeartbeats 4000000 in
set_option maxRecDepth 100000 in
theorem m_lasts (l : Launch) (D : va_G) (ak : Nat → ClassId) (ad : Nat → Nat) (sz h : Nat) (v : VW) (L : va_W) (x0 : Int32) (x1 : Int32) (x2 : Int32) (hI : IM ak h v L) : Met l yX8_lasts wsX8_lasts ({ frames := 9, cells := 0, slots := 0, locals := 211 }) (cPre D ak ad [.ref h, .int (x0), .int (x1), .int (x2)] L sz) (cI D (S := va_W) (fun _ L1 => IM ak h v L1) (fun L1 => L1) L sz) 0 0 (va_A L sz) := by
  obtain ⟨am, F, fw, A, b, rfl, hn, hG, hC, ⟨l_, hl, hl6, hH⟩, hM, hV⟩ := hI
  exact gm_lasts l D ak ad sz h am v.1.length F fw A b x0 x1 x2 _ (sp_X8_lasts hG hC (fun r y1 y2 y3 y4 y5 y6 y7 y8 y9 y10 y11 y12 y13 y14 y15 y16 y17 y18 y19 y20 y21 y22 y23 y24 y25 y26 => ⟨am, ofL 0 [0, (F 1), (F 2), (F 3), (F 4), (F 5), (F 6), (F 7), y1, y2, y3, y4, y5, y6, y7, (F 15), (F 16), (F 17), (F 18), (F 19)], fw, ofL (fun _ => 0) [(A 0), (A 1), (A 2), (A 3), (A 4), (fun _ => 0), (fun _ => 0), (A 7), (A 8), (A 9), (A 10), (A 11), (A 12), (A 13), (A 14), (A 15), (A 16), (A 17), (A 18), (A 19), (A 20), (A 21), y8, y9, y10, y11, y12, y13, y14, y15, y16, y17, y18, y19, y20, y21, y22, (A 37), (A 38), (A 39), y23, y24, y25, (A 43), y26, (A 45), (A 46)], b, rfl, hn, hG, hC, ⟨l_, hl, hl6, hH⟩, hM, hV⟩))

set_option maxHeartbeats 4000000 in
set_option maxRecDepth 100000 in
theorem m_run (l : Launch) (D : va_G) (ak : Nat → ClassId) (ad : Nat → Nat) (sz h : Nat) (v : VW) (L : va_W) (x0 : Int32) (hI : IM ak h v L) : Met l yX8_run wsX8_run ({ frames := 5, cells := 0, slots := 0, locals := 117 }) (cPre D ak ad [.ref h, .int (x0)] L sz) (cI D (S := va_W) (fun _ L1 => IM ak h v L1) (fun L1 => L1) L sz) 0 0 (va_A L sz) := by
  obtain ⟨am, F, fw, A, b, rfl, hn, hG, hC, ⟨l_, hl, hl6, hH⟩, hM, hV⟩ := hI
  exact gm_run l D ak ad sz h am v.1.length F fw A b x0 _ (sp_X8_run hG hl hl6 hH (fun r y1 y2 y3 y4 y5 y6 y7 y8 y9 y10 y11 y12 y13 y14 y15 y16 y17 y18 y19 y20 y21 y22 y23 y24 y25 y26 hH2 => ⟨am, ofL 0 [0, (F 1), (F 2), (F 3), (F 4), (F 5), (F 6), (F 7), y1, y2, y3, y4, y5, y6, (F 14), y7, y8, y9, y10, (F 19)], fw, ofL (fun _ => 0) [(A 0), (A 1), (A 2), (A 3), (A 4), (fun _ => 0), (fun _ => 0), (A 7), (A 8), (A 9), (A 10), (A 11), (A 12), (A 13), (A 14), (A 15), (A 16), (A 17), (A 18), (A 19), (A 20), (A 21), y11, y12, y13, y14, y15, y16, y17, y18, y19, y20, y21, y22, y23, (A 35), (A 36), y24, y25, y26, (A 40), (A 41), (A 42), (A 43), (A 44), (A 45), (A 46)], b, rfl, hn, hG, hC, ⟨l_, hl, hl6, hH2⟩, hM, hV⟩))

set_option maxHeartbeats 4000000 in
set_option maxRecDepth 100000 in
theorem m_begin (l : Launch) (D : va_G) (ak : Nat → ClassId) (ad : Nat → Nat) (sz h : Nat) (v : VW) (L : va_W) (x0 : Int32) (hI : IM ak h v L) : Met l yX8_begin wsX8_begin ({ frames := 2, cells := 0, slots := 0, locals := 46 }) (cPre D ak ad [.ref h, .int (x0)] L sz) (cI D (S := va_W) (fun _ L1 => IM ak h v L1) (fun L1 => L1) L sz) 0 0 (va_A L sz) := by
  obtain ⟨am, F, fw, A, b, rfl, hn, hG, hC, ⟨l_, hl, hl6, hH⟩, hM, hV⟩ := hI
  exact gm_begin l D ak ad sz h am v.1.length F fw A b x0 _ (sp_X8_begin hG ⟨am, ofL 0 [0, (F 1), (F 2), (F 3), (F 4), (F 5), (F 6), (F 7), (F 8), (F 9), (F 10), (F 11), (F 12), (F 13), (F 14), (F 15), (F 16), (F 17), (F 18), (F 19)], fw, ofL (fun _ => 0) [(A 0), (A 1), (A 2), (A 3), (A 4), (fun _ => 0), (fun _ => 0), (A 7), (A 8), (A 9), (A 10), (A 11), (A 12), (A 13), (A 14), (A 15), (A 16), (A 17), (A 18), (A 19), (A 20), (A 21), (A 22), (A 23), (A 24), (A 25), (A 26), (A 27), (A 28), (A 29), (A 30), (A 31), (A 32), (A 33), (A 34), (A 35), (A 36), (A 37), (A 38), (A 39), (A 40), (A 41), (A 42), (A 43), (A 44), (A 45), (A 46)], b, rfl, hn, hG, hC, ⟨l_, hl, hl6, hH⟩, hM, hV⟩ (fun y5 hz => ⟨am, ofL 0 [0, (F 1), (F 2), (F 3), (F 4), (F 5), (F 6), (F 7), (F 8), (F 9), (F 10), (F 11), (F 12), (F 13), (F 14), 1, 0, 0, 0, (F 19)], fw, ofL (fun _ => 0) [(A 0), (A 1), (A 2), (A 3), (A 4), (fun _ => 0), (fun _ => 0), (A 7), (A 8), (A 9), (A 10), (A 11), (A 12), (A 13), (A 14), (A 15), (A 16), (A 17), (A 18), (A 19), (A 20), (A 21), (A 22), (A 23), (A 24), (A 25), (A 26), (A 27), (A 28), (A 29), (A 30), (A 31), (A 32), (A 33), (A 34), (A 35), (A 36), y5, (A 38), (A 39), (A 40), (A 41), (A 42), (A 43), (A 44), (A 45), (A 46)], b, rfl, hn, hG, hC, ⟨l_, hl, hl6, ⟨Or.inr (Or.inl rfl), ⟨0, 0, rfl, rfl, Nat.le_refl _, by decide⟩, fun _ => ⟨0, Nat.pos_of_ne_zero (fun e => hz (by rw [hl, e]; rfl)), rfl⟩⟩⟩, hM, hV⟩))

set_option maxHeartbeats 4000000 in
set_option maxRecDepth 100000 in
theorem m_wrote (l : Launch) (D : va_G) (ak : Nat → ClassId) (ad : Nat → Nat) (sz h : Nat) (v : VW) (L : va_W) (x0 : Int32) (hI : IM ak h v L) : Met l yX8_wrote wsX8_wrote ({ frames := 1, cells := 0, slots := 0, locals := 15 }) (cPre D ak ad [.ref h, .int (x0)] L sz) (cI D (S := va_W) (fun _ L1 => IM ak h v L1) (fun L1 => L1) L sz) 0 0 (va_A L sz) := by
  obtain ⟨am, F, fw, A, b, rfl, hn, hG, hC, ⟨l_, hl, hl6, hH⟩, hM, hV⟩ := hI
  exact gm_wrote l D ak ad sz h am v.1.length F fw A b x0 _ (hH.2.1.elim (fun s_ hs_ => hs_.elim (fun u_ hu_ => sp_X8_wrote hu_.2.1 (by have := hu_.2.2.1; have := hu_.2.2.2; omega) ⟨am, ofL 0 [1, (F 1), (F 2), (F 3), (F 4), (F 5), (F 6), (F 7), (F 8), (F 9), (F 10), (F 11), (F 12), (F 13), (F 14), (F 15), (F 16), (F 17), (F 18), (F 19)], fw, A, b, rfl, hn, hG, hC, ⟨l_, hl, hl6, hH⟩, hM, hV⟩ (fun r _ _ _ => ⟨am, ofL 0 [0, (F 1), (F 2), (F 3), (F 4), (F 5), (F 6), (F 7), (F 8), (F 9), (F 10), (F 11), (F 12), (F 13), (F 14), (F 15), (F 16), (F 17), (F 18), (F 19)], fw, A, b, rfl, hn, hG, hC, ⟨l_, hl, hl6, hH⟩, hM, hV⟩))))

set_option maxHeartbeats 4000000 in
set_option maxRecDepth 100000 in
theorem m_cell (l : Launch) (D : va_G) (ak : Nat → ClassId) (ad : Nat → Nat) (sz h : Nat) (v : VW) (L : va_W) (x0 : Int32) (hI : IM ak h v L) : Met l yX8_cell wsX8_cell ({ frames := 1, cells := 0, slots := 0, locals := 21 }) (cPre D ak ad [.ref h, .int (x0)] L sz) (cI D (S := va_W) (fun _ L1 => IM ak h v L1) (fun L1 => L1) L sz) 0 0 (va_A L sz) := by
  obtain ⟨am, F, fw, A, b, rfl, hn, hG, hC, ⟨l_, hl, hl6, hH⟩, hM, hV⟩ := hI
  exact gm_cell l D ak ad sz h am v.1.length F fw A b x0 _ ((gm_ce hG).elim (fun k_ hk_ => sp_X8_cell hk_.1 hk_.2 ⟨am, ofL 0 [1, (F 1), (F 2), (F 3), (F 4), (F 5), (F 6), (F 7), (F 8), (F 9), (F 10), (F 11), (F 12), (F 13), (F 14), (F 15), (F 16), (F 17), (F 18), (F 19)], fw, A, b, rfl, hn, hG, hC, ⟨l_, hl, hl6, hH⟩, hM, hV⟩ (fun r _ _ _ => ⟨am, ofL 0 [0, (F 1), (F 2), (F 3), (F 4), (F 5), (F 6), (F 7), (F 8), (F 9), (F 10), (F 11), (F 12), (F 13), (F 14), (F 15), (F 16), (F 17), (F 18), (F 19)], fw, A, b, rfl, hn, hG, hC, ⟨l_, hl, hl6, hH⟩, hM, hV⟩)))

set_option maxHeartbeats 4000000 in
set_option maxRecDepth 100000 in
theorem m_feed (l : Launch) (D : va_G) (ak : Nat → ClassId) (ad : Nat → Nat) (sz h : Nat) (v : VW) (L : va_W) (xa : Int64) (xb : Int64) (xc : Int64) (hI : IM ak h v L) : Met l yX8_feed wsX8_feed ({ frames := 0, cells := 0, slots := 0, locals := 0 }) (cPre D ak ad [.ref h, .long (xa), .long (xb), .long (xc)] L sz) (cI D (S := va_W) (fun r L1 => r = f_feed v xa xb xc ∧ IM ak h (s_feed v xa xb xc) L1) (fun L1 => L1) L sz) 0 0 (va_A L sz) := by
  obtain ⟨am, F, fw, A, b, rfl, hn, hG, hC, ⟨l_, hl, hl6, hH⟩, hM, hV⟩ := hI
  exact gm_feed l D ak ad sz h am v.1.length F fw A b xa xb xc _ (sq_X8_feed hn (fun y2 hT1 => ⟨_, rfl, rfl, (fun (k_ : List Nat) (hk_ : TL k_ y2) => (show IM ak h (k_, v.2) (ML ak h am k_.length (ofL 0 [0, (F 1), (F 2), (F 3), (F 4), (F 5), (F 6), (F 7), (F 8), (F 9), (F 10), (F 11), (F 12), (F 13), (F 14), (F 15), (F 16), (F 17), (F 18), (F 19)]) fw (ofL (fun _ => 0) [y2, (A 1), (A 2), (A 3), (A 4), (fun _ => 0), (fun _ => 0), (A 7), (A 8), (A 9), (A 10), (A 11), (A 12), (A 13), (A 14), (A 15), (A 16), (A 17), (A 18), (A 19), (A 20), (A 21), (A 22), (A 23), (A 24), (A 25), (A 26), (A 27), (A 28), (A 29), (A 30), (A 31), (A 32), (A 33), (A 34), (A 35), (A 36), (A 37), (A 38), (A 39), (A 40), (A 41), (A 42), (A 43), (A 44), (A 45), (A 46)]) b ++ []) from ⟨am, ofL 0 [0, (F 1), (F 2), (F 3), (F 4), (F 5), (F 6), (F 7), (F 8), (F 9), (F 10), (F 11), (F 12), (F 13), (F 14), (F 15), (F 16), (F 17), (F 18), (F 19)], fw, ofL (fun _ => 0) [y2, (A 1), (A 2), (A 3), (A 4), (fun _ => 0), (fun _ => 0), (A 7), (A 8), (A 9), (A 10), (A 11), (A 12), (A 13), (A 14), (A 15), (A 16), (A 17), (A 18), (A 19), (A 20), (A 21), (A 22), (A 23), (A 24), (A 25), (A 26), (A 27), (A 28), (A 29), (A 30), (A 31), (A 32), (A 33), (A 34), (A 35), (A 36), (A 37), (A 38), (A 39), (A 40), (A 41), (A 42), (A 43), (A 44), (A 45), (A 46)], b, rfl, hk_, hG, hC, ⟨l_, hl, hl6, hH⟩, hM, fun k_ hk_ => hV k_ hk_⟩)) _ hT1⟩))

set_option maxHeartbeats 4000000 in
set_option maxRecDepth 100000 in
theorem m_mark (l : Launch) (D : va_G) (ak : Nat → ClassId) (ad : Nat → Nat) (sz h : Nat) (v : VW) (L : va_W) (x0 : Int32) (x1 : Int32) (hI : IM ak h v L) : Met l yX8_mark wsX8_mark ({ frames := 2, cells := 0, slots := 0, locals := 47 }) (cPre D ak ad [.ref h, .int (x0), .int (x1)] L sz) (cI D (S := va_W) (fun r L1 => (∀ k, k < 4 → x0 = nI k → r = f_mark v k x1 ∧ IM ak h (s_mark v k x1) L1) ∧ ((x0 < 0 ∨ 4 ≤ x0) → r = 0 ∧ IM ak h v L1)) (fun L1 => L1) L sz) 0 0 (va_A L sz) := by
  obtain ⟨am, F, fw, A, b, rfl, hn, hG, hC, ⟨l_, hl, hl6, hH⟩, hM, hV⟩ := hI
  exact gm_mark l D ak ad sz h am v.1.length F fw A b x0 x1 _ (sp_X8_mark hG hl hl6 hH hM (fun a_ => mk_out (P := fun w => IM ak h w _) hV a_ ⟨am, ofL 0 [0, (F 1), (F 2), (F 3), (F 4), (F 5), (F 6), (F 7), (F 8), (F 9), (F 10), (F 11), (F 12), (F 13), (F 14), (F 15), (F 16), (F 17), (F 18), (F 19)], fw, ofL (fun _ => 0) [(A 0), (A 1), (A 2), (A 3), (A 4), (fun _ => 0), (fun _ => 0), (A 7), (A 8), (A 9), (A 10), (A 11), (A 12), (A 13), (A 14), (A 15), (A 16), (A 17), (A 18), (A 19), (A 20), (A 21), (A 22), (A 23), (A 24), (A 25), (A 26), (A 27), (A 28), (A 29), (A 30), (A 31), (A 32), (A 33), (A 34), (A 35), (A 36), (A 37), (A 38), (A 39), (A 40), (A 41), (A 42), (A 43), (A 44), (A 45), (A 46)], b, rfl, hn, hG, hC, ⟨l_, hl, hl6, hH⟩, hM, hV⟩) (fun m l2 z1 z2 z3 z4 z5 z6 z7 z8 z9 z10 z11 z12 z13 z14 z15 z16 z17 z18 z19 z20 z21 z22 z23 z24 z25 z27 a_ b_ c_ hG2 hl2 hl62 hH2 hM2 hC2 => mk_in (P := fun w => IM ak h w _) hV a_ b_ c_ (fun {w} ew hW => by
    obtain ⟨w1, w2⟩ := w
    cases ew
    exact ⟨am, ofL 0 [0, (F 1), (F 2), (F 3), (F 4), (F 5), (F 6), (F 7), (F 8), (F 9), (F 10), (F 11), (F 12), (F 13), (F 14), z1, z2, z3, z4, z5], fw, ofL (fun _ => 0) [(A 0), z6, z7, z8, z9, (fun _ => 0), (fun _ => 0), z10, z11, z12, z13, z14, z15, z16, z17, z18, z19, z20, z21, z22, (A 20), (A 21), (A 22), (A 23), (A 24), (A 25), (A 26), (A 27), (A 28), (A 29), (A 30), (A 31), (A 32), (A 33), (A 34), (A 35), (A 36), z23, z24, z25, (A 40), (A 41), (A 42), (A 43), (A 44), (upd (A 45) m (vp_nar .boolean 1)), z27], b, rfl, hn, hG2, hC2 hC, ⟨l2, hl2, hl62, hH2⟩, hM2, hW⟩)))

set_option maxHeartbeats 4000000 in
set_option maxRecDepth 100000 in
theorem m_programme (l : Launch) (D : va_G) (ak : Nat → ClassId) (ad : Nat → Nat) (sz h : Nat) (v : VW) (L : va_W)  (hI : IM ak h v L) : Met l yX8_programme wsX8_programme ({ frames := 6, cells := 0, slots := 0, locals := 132 }) (cPre D ak ad [.ref h] L sz) (cI D (S := va_W) (fun r L1 => r = f_programme v ∧ IM ak h (s_programme v) L1) (fun L1 => L1) L sz) 0 0 (va_A L sz) := by
  obtain ⟨am, F, fw, A, b, rfl, hn, hG, hC, ⟨l_, hl, hl6, hH⟩, hM, hV⟩ := hI
  exact gm_programme l D ak ad sz h am v.1.length F fw A b  _ (wq_X8_programme (Φ1 := (fun (r : Int32) (y0 : Int32) (y1 : Int32) (y2 : Int32) (y3 : Int32) (y4 : Int32) (y5 : Int32) (y6 : Int64) (y7 : Int32) (y8 : Int32) (y9 : Int32) (y10 : Int32) (y11 : Nat → Int32) (y12 : Nat → Int32) (y13 : Nat → Int32) (y14 : Nat → Int32) (y15 : Nat → Int64) (y16 : Nat → Int64) (y17 : Nat → Int32) (y18 : Nat → Int32) (y19 : Nat → Int32) (y20 : Nat → Int32) (y21 : Nat → Int32) (y22 : Nat → Int32) (y23 : Nat → Int32) (y24 : Nat → Int32) (y25 : Nat → Int32) (y26 : Nat → Int32) (y27 : Nat → Int32) (y28 : Nat → Int32) (y29 : Nat → Int32) (y30 : Nat → Int32) (y31 : Nat → Int32) (y32 : Nat → Int32) => ∃ k : Nat, y1 = nI k ∧ IM ak h (s_programme v) (ML ak h am k (ofL 0 [y0, y2, y3, y4, y5, y7, y8, y9, (F 8), (F 9), (F 10), (F 11), (F 12), (F 13), (F 14), y10, (F 16), (F 17), (F 18), (F 19)]) (y6) (ofL (fun _ => 0) [(A 0), y11, y12, y13, y14, (fun _ => 0), (fun _ => 0), y17, y18, y19, y20, y21, y22, y23, y24, y25, y26, y27, y28, y29, y30, y31, (A 22), (A 23), (A 24), (A 25), (A 26), (A 27), (A 28), (A 29), (A 30), (A 31), (A 32), (A 33), (A 34), (A 35), (A 36), (A 37), y32, (A 39), (A 40), (A 41), (A 42), (A 43), (A 44), (A 45), (A 46)]) (ofL (fun _ => 0) [y15, y16]) ++ []))) (Φ2 := fun r _ _ _ _ _ _ _ _ _ _ _ _ _ _ _ _ _ _ _ _ _ _ _ _ _ _ _ _ _ _ _ _ _ => r = f_programme v) (fun _ _ _ _ _ _ _ _ _ _ _ _ _ _ _ _ _ _ _ _ _ _ _ _ _ _ _ _ _ _ _ _ _ _ u w => u.elim (fun k hk => ⟨k, hk.1, w, hk.2⟩)) (sp_X8_programme hn.1 hG (fun r z3 z4 z5 z6 z7 z8 z9 z10 z11 z12 z13 z14 z15 z16 z17 z18 z19 z20 z21 z22 z23 z24 z25 z26 z27 z28 z29 z30 z31 z32 hG2 hd hC2 => ⟨0, rfl, ⟨am, ofL 0 [0, (nI v.1.length), z3, z4, z5, z7, z8, z9, (F 8), (F 9), (F 10), (F 11), (F 12), (F 13), (F 14), z10, (F 16), (F 17), (F 18), (F 19)], z6, ofL (fun _ => 0) [(A 0), z11, z12, z13, z14, (fun _ => 0), (fun _ => 0), z17, z18, z19, z20, z21, z22, z23, z24, z25, z26, z27, z28, z29, z30, z31, (A 22), (A 23), (A 24), (A 25), (A 26), (A 27), (A 28), (A 29), (A 30), (A 31), (A 32), (A 33), (A 34), (A 35), (A 36), (A 37), z32, (A 39), (A 40), (A 41), (A 42), (A 43), (A 44), (A 45), (A 46)], ofL (fun _ => 0) [z15, z16], rfl, TL.nil, hG2, hC2 hC, (im_prog hG2 hd hl hl6 hH hM).1, (im_prog hG2 hd hl hl6 hH hM).2, hV⟩⟩)) (sq8_programme hn (fun e he => by intros; exact f_pb he) (fun g hg => by intros; exact f_pg hg)))
