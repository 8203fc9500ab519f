theorem dL_law_1019 : decode cL_law 1019 = .ok (.iinc 4 7, 3) := by decide +kernel
theorem dL_law_1022 : decode cL_law 1022 = .ok (.goto (-999), 3) := by decide +kernel
theorem dL_law_23 : decode cL_law 23 = .ok (.iload 4, 2) := by decide +kernel
theorem dL_law_25 : decode cL_law 25 = .ok (.aload_n 0, 1) := by decide +kernel
theorem dL_law_26 : decode cL_law 26 = .ok (.arraylength, 1) := by decide +kernel
theorem dL_law_27 : decode cL_law 27 = .ok (.bipush 7, 2) := by decide +kernel
theorem dL_law_29 : decode cL_law 29 = .ok (.isub, 1) := by decide +kernel
theorem dL_law_30 : decode cL_law 30 = .ok (.if_icmp .gt 995, 3) := by decide +kernel
theorem dL_law_1025 : decode cL_law 1025 = .ok (.iconst 1, 1) := by decide +kernel
theorem dL_law_1026 : decode cL_law 1026 = .ok (.ireturn, 1) := by decide +kernel
theorem dL_law_33 : decode cL_law 33 = .ok (.aload_n 0, 1) := by decide +kernel
theorem dL_law_34 : decode cL_law 34 = .ok (.iload 4, 2) := by decide +kernel
theorem dL_law_36 : decode cL_law 36 = .ok (.iaload, 1) := by decide +kernel
theorem dL_law_37 : decode cL_law 37 = .ok (.bipush 31, 2) := by decide +kernel
theorem dL_law_39 : decode cL_law 39 = .ok (.iand, 1) := by decide +kernel
theorem dL_law_40 : decode cL_law 40 = .ok (.tableswitch 979 0 26 #[124, 271, 284, 321, 358, 407, 420, 433, 470, 495, 520, 545, 573, 601, 614, 639, 664, 701, 714, 739, 752, 777, 802, 851, 876, 901, 954], 124) := by decide +kernel
theorem lk_cmp {k L : Nat} (hk : k ≤ 3591) (hL : L ≤ 3584) : (nI L - 7 < nI k) ↔ L < k + 7 := by
  rw [Int32.lt_iff_toInt_lt, show (7 : Int32) = nI 7 from rfl, pk_sub_toInt (by omega) (by decide), nI_toInt (by omega)]
  omega
set_option maxRecDepth 20000 in
theorem lk_next {p : Program} {e : Env} {s : State} {m : MethodId} {below : List Frame} {meth : Method} {c : Code} (l : Launch) {b L : Nat} {xs : Nat → Int32} (C0 : lw_At p s m meth c b L xs) {A : Nat → Prop} (hAe : A = fun q => s.heap.size ≤ q) {D : va_G} {ak : Nat → ClassId} {ad : Nat → Nat} (hl0 : l.stackTraces = false) (hE : EV D ak s) (hT : ST D ak ad A s s.heap) (hXE : XE A s s.heap) {o0 m0 x0 : Nat} {k cells slots : Nat} (kk : LGo p l e s m b below meth c D ak ad A o0 m0 x0 (nI (k + 7)) 23 cells slots) : LGo p l e s m b below meth c D ak ad A o0 m0 x0 (nI k) 1019 cells slots := by
  obtain ⟨hx, hb, hr, hml, hown, hts, hX, hbl, hlocks, hgv⟩ := id C0
  have hown : s.vm.findClass RL = some m.cls := hown
  have hA : ∀ q : Nat, s.heap.size ≤ q → A q := fun q h => by rw [hAe]; exact h
  have hbA : ¬ A b := by rw [hAe]; exact Nat.not_le.mpr hbl
  intro v LX LM fo H locs ls hI hJ hP hD hS hl
  refine lv_iinc (v := nI (k + 7)) (lv' := [(4, .int (nI (k + 7))), (3, .ref o0), (2, .ref m0), (1, .ref x0), (0, .ref b)]) hx hb dL_law_1019 hl (k := 0) rfl (nI_add k 7) (by decide) rfl (fun ls hl => ?_)
  refine lv_goto (tgt := 23) hx hb dL_law_1022 (by decide) ?_
  exact kk v LX LM fo H locs ls hI hJ hP hD hS hl
set_option maxHeartbeats 4000000 in
set_option maxRecDepth 100000 in
theorem lk_step {p : Program} {e : Env} {s : State} {m : MethodId} {below : List Frame} {meth : Method} {c : Code} (l : Launch) {b L : Nat} {xs : Nat → Int32} (C0 : lw_At p s m meth c b L xs) {A : Nat → Prop} (hAe : A = fun q => s.heap.size ≤ q) {D : va_G} {ak : Nat → ClassId} {ad : Nat → Nat} (hl0 : l.stackTraces = false) (hE : EV D ak s) (hT : ST D ak ad A s s.heap) (hXE : XE A s s.heap) {o0 m0 x0 : Nat} {k cells slots : Nat} (hk : k ≤ 3591) (hL : L ≤ 3584) (hc : cells + 15 ≤ room_1.cells) (hs : slots + 1133 ≤ room_1.slots) (kk : k + 7 ≤ L → LGo p l e s m b below meth c D ak ad A o0 m0 x0 (nI (k + 7)) 23 (cells + 15) (slots + 1133)) : LGo p l e s m b below meth c D ak ad A o0 m0 x0 (nI k) 23 cells slots := by
  obtain ⟨hx, hb, hr, hml, hown, hts, hX, hbl, hlocks, hgv⟩ := id C0
  have hown : s.vm.findClass RL = some m.cls := hown
  have hA : ∀ q : Nat, s.heap.size ≤ q → A q := fun q h => by rw [hAe]; exact h
  have hbA : ¬ A b := by rw [hAe]; exact Nat.not_le.mpr hbl
  intro v LX LM fo H locs ls hI hJ hP hD hS hl
  refine lv_iload hx hb dL_law_23 (lv_at hl 0 rfl) ?_
  refine lv_aload_n hx hb dL_law_25 rfl (lv_at hl 4 rfl) ?_
  refine va_slen hx hb hX hbl hbA hS dL_law_26 ?_
  refine lv_bipush (v := 7) hx hb dL_law_27 (by decide) ?_
  refine lv_isub hx hb dL_law_29 ?_
  refine lv_icmp_gt (tgt := 1025) hx hb dL_law_30 (by decide) (fun c_30 => ?_) (fun c_30 => ?_)
  · refine lv_iconst (v := 1) hx hb dL_law_1025 (by decide) ?_
    refine va_forget (fun q hq => by have h9 := hS.2.2 q hq; rw [hAe] at h9; exact h9) ?_
    refine W.widen (k := 601024) (n := 7293034) (by have : room_1.cells = 601024 := rfl; omega) (by have : room_1.slots = 7293034 := rfl; omega) ?_
    exact lw_ret hx hb hr hlocks dL_law_1026
  · have h7 : k + 7 ≤ L := Nat.not_lt.mp (fun h => c_30 ((lk_cmp hk hL).mpr h))
    have hn := lk_next l C0 hAe hl0 hE hT hXE (kk h7)
    refine lv_aload_n hx hb dL_law_33 rfl (lv_at hl 4 rfl) ?_
    refine lv_iload hx hb dL_law_34 (lv_at hl 0 rfl) ?_
    refine va_sld hx hb hX hbl hbA hS (pk_in k L (by omega) rfl (by omega)) dL_law_36 ?_
    refine lv_bipush (v := 31) hx hb dL_law_37 (by decide) ?_
    refine lv_iand hx hb dL_law_39 ?_
    refine lv_topi (fun sc esc => ?_)
    by_cases k_0 : sc = (0 : Int32)
    · refine lv_tableIn (tgt := 164) hx hb dL_law_40 (by rw [k_0]; decide) (by rw [k_0]; decide) (off := 124) (by rw [k_0]; rfl) (by decide) ?_
      exact lk_0 l C0 hAe hl0 hE hT hXE rfl h7 hL hc hs hn v LX LM fo H locs ls hI hJ hP hD hS hl
    by_cases k_1 : sc = (1 : Int32)
    · refine lv_tableIn (tgt := 311) hx hb dL_law_40 (by rw [k_1]; decide) (by rw [k_1]; decide) (off := 271) (by rw [k_1]; rfl) (by decide) ?_
      exact lk_1 l C0 hAe hl0 hE hT hXE rfl h7 hL hc hs hn v LX LM fo H locs ls hI hJ hP hD hS hl
    by_cases k_2 : sc = (2 : Int32)
    · refine lv_tableIn (tgt := 324) hx hb dL_law_40 (by rw [k_2]; decide) (by rw [k_2]; decide) (off := 284) (by rw [k_2]; rfl) (by decide) ?_
      exact lk_2 l C0 hAe hl0 hE hT hXE rfl h7 hL hc hs hn v LX LM fo H locs ls hI hJ hP hD hS hl
    by_cases k_3 : sc = (3 : Int32)
    · refine lv_tableIn (tgt := 361) hx hb dL_law_40 (by rw [k_3]; decide) (by rw [k_3]; decide) (off := 321) (by rw [k_3]; rfl) (by decide) ?_
      exact lk_3 l C0 hAe hl0 hE hT hXE rfl h7 hL hc hs hn v LX LM fo H locs ls hI hJ hP hD hS hl
    by_cases k_4 : sc = (4 : Int32)
    · refine lv_tableIn (tgt := 398) hx hb dL_law_40 (by rw [k_4]; decide) (by rw [k_4]; decide) (off := 358) (by rw [k_4]; rfl) (by decide) ?_
      exact lk_4 l C0 hAe hl0 hE hT hXE rfl h7 hL hc hs hn v LX LM fo H locs ls hI hJ hP hD hS hl
    by_cases k_5 : sc = (5 : Int32)
    · refine lv_tableIn (tgt := 447) hx hb dL_law_40 (by rw [k_5]; decide) (by rw [k_5]; decide) (off := 407) (by rw [k_5]; rfl) (by decide) ?_
      exact lk_5 l C0 hAe hl0 hE hT hXE rfl h7 hL hc hs hn v LX LM fo H locs ls hI hJ hP hD hS hl
    by_cases k_6 : sc = (6 : Int32)
    · refine lv_tableIn (tgt := 460) hx hb dL_law_40 (by rw [k_6]; decide) (by rw [k_6]; decide) (off := 420) (by rw [k_6]; rfl) (by decide) ?_
      exact lk_6 l C0 hAe hl0 hE hT hXE rfl h7 hL hc hs hn v LX LM fo H locs ls hI hJ hP hD hS hl
    by_cases k_7 : sc = (7 : Int32)
    · refine lv_tableIn (tgt := 473) hx hb dL_law_40 (by rw [k_7]; decide) (by rw [k_7]; decide) (off := 433) (by rw [k_7]; rfl) (by decide) ?_
      exact lk_7 l C0 hAe hl0 hE hT hXE rfl h7 hL hc hs hn v LX LM fo H locs ls hI hJ hP hD hS hl
    by_cases k_8 : sc = (8 : Int32)
    · refine lv_tableIn (tgt := 510) hx hb dL_law_40 (by rw [k_8]; decide) (by rw [k_8]; decide) (off := 470) (by rw [k_8]; rfl) (by decide) ?_
      exact lk_8 l C0 hAe hl0 hE hT hXE rfl h7 hL hc hs hn v LX LM fo H locs ls hI hJ hP hD hS hl
    by_cases k_9 : sc = (9 : Int32)
    · refine lv_tableIn (tgt := 535) hx hb dL_law_40 (by rw [k_9]; decide) (by rw [k_9]; decide) (off := 495) (by rw [k_9]; rfl) (by decide) ?_
      exact lk_9 l C0 hAe hl0 hE hT hXE rfl h7 hL hc hs hn v LX LM fo H locs ls hI hJ hP hD hS hl
    by_cases k_10 : sc = (10 : Int32)
    · refine lv_tableIn (tgt := 560) hx hb dL_law_40 (by rw [k_10]; decide) (by rw [k_10]; decide) (off := 520) (by rw [k_10]; rfl) (by decide) ?_
      exact lk_10 l C0 hAe hl0 hE hT hXE rfl h7 hL hc hs hn v LX LM fo H locs ls hI hJ hP hD hS hl
    by_cases k_11 : sc = (11 : Int32)
    · refine lv_tableIn (tgt := 585) hx hb dL_law_40 (by rw [k_11]; decide) (by rw [k_11]; decide) (off := 545) (by rw [k_11]; rfl) (by decide) ?_
      exact lk_11 l C0 hAe hl0 hE hT hXE rfl h7 hL hc hs hn v LX LM fo H locs ls hI hJ hP hD hS hl
    by_cases k_12 : sc = (12 : Int32)
    · refine lv_tableIn (tgt := 613) hx hb dL_law_40 (by rw [k_12]; decide) (by rw [k_12]; decide) (off := 573) (by rw [k_12]; rfl) (by decide) ?_
      exact lk_12 l C0 hAe hl0 hE hT hXE rfl h7 hL hc hs hn v LX LM fo H locs ls hI hJ hP hD hS hl
    by_cases k_13 : sc = (13 : Int32)
    · refine lv_tableIn (tgt := 641) hx hb dL_law_40 (by rw [k_13]; decide) (by rw [k_13]; decide) (off := 601) (by rw [k_13]; rfl) (by decide) ?_
      exact lk_13 l C0 hAe hl0 hE hT hXE rfl h7 hL hc hs hn v LX LM fo H locs ls hI hJ hP hD hS hl
    by_cases k_14 : sc = (14 : Int32)
    · refine lv_tableIn (tgt := 654) hx hb dL_law_40 (by rw [k_14]; decide) (by rw [k_14]; decide) (off := 614) (by rw [k_14]; rfl) (by decide) ?_
      exact lk_14 l C0 hAe hl0 hE hT hXE rfl h7 hL hc hs hn v LX LM fo H locs ls hI hJ hP hD hS hl
    by_cases k_15 : sc = (15 : Int32)
    · refine lv_tableIn (tgt := 679) hx hb dL_law_40 (by rw [k_15]; decide) (by rw [k_15]; decide) (off := 639) (by rw [k_15]; rfl) (by decide) ?_
      exact lk_15 l C0 hAe hl0 hE hT hXE rfl h7 hL hc hs hn v LX LM fo H locs ls hI hJ hP hD hS hl
    by_cases k_16 : sc = (16 : Int32)
    · refine lv_tableIn (tgt := 704) hx hb dL_law_40 (by rw [k_16]; decide) (by rw [k_16]; decide) (off := 664) (by rw [k_16]; rfl) (by decide) ?_
      exact lk_16 l C0 hAe hl0 hE hT hXE rfl h7 hL hc hs hn v LX LM fo H locs ls hI hJ hP hD hS hl
    by_cases k_17 : sc = (17 : Int32)
    · refine lv_tableIn (tgt := 741) hx hb dL_law_40 (by rw [k_17]; decide) (by rw [k_17]; decide) (off := 701) (by rw [k_17]; rfl) (by decide) ?_
      exact lk_17 l C0 hAe hl0 hE hT hXE rfl h7 hL hc hs hn v LX LM fo H locs ls hI hJ hP hD hS hl
    by_cases k_18 : sc = (18 : Int32)
    · refine lv_tableIn (tgt := 754) hx hb dL_law_40 (by rw [k_18]; decide) (by rw [k_18]; decide) (off := 714) (by rw [k_18]; rfl) (by decide) ?_
      exact lk_18 l C0 hAe hl0 hE hT hXE rfl h7 hL hc hs hn v LX LM fo H locs ls hI hJ hP hD hS hl
    by_cases k_19 : sc = (19 : Int32)
    · refine lv_tableIn (tgt := 779) hx hb dL_law_40 (by rw [k_19]; decide) (by rw [k_19]; decide) (off := 739) (by rw [k_19]; rfl) (by decide) ?_
      exact lk_19 l C0 hAe hl0 hE hT hXE rfl h7 hL hc hs hn v LX LM fo H locs ls hI hJ hP hD hS hl
    by_cases k_20 : sc = (20 : Int32)
    · refine lv_tableIn (tgt := 792) hx hb dL_law_40 (by rw [k_20]; decide) (by rw [k_20]; decide) (off := 752) (by rw [k_20]; rfl) (by decide) ?_
      exact lk_20 l C0 hAe hl0 hE hT hXE rfl h7 hL hc hs hn v LX LM fo H locs ls hI hJ hP hD hS hl
    by_cases k_21 : sc = (21 : Int32)
    · refine lv_tableIn (tgt := 817) hx hb dL_law_40 (by rw [k_21]; decide) (by rw [k_21]; decide) (off := 777) (by rw [k_21]; rfl) (by decide) ?_
      exact lk_21 l C0 hAe hl0 hE hT hXE rfl h7 hL hc hs hn v LX LM fo H locs ls hI hJ hP hD hS hl
    by_cases k_22 : sc = (22 : Int32)
    · refine lv_tableIn (tgt := 842) hx hb dL_law_40 (by rw [k_22]; decide) (by rw [k_22]; decide) (off := 802) (by rw [k_22]; rfl) (by decide) ?_
      exact lk_22 l C0 hAe hl0 hE hT hXE rfl h7 hL hc hs hn v LX LM fo H locs ls hI hJ hP hD hS hl
    by_cases k_23 : sc = (23 : Int32)
    · refine lv_tableIn (tgt := 891) hx hb dL_law_40 (by rw [k_23]; decide) (by rw [k_23]; decide) (off := 851) (by rw [k_23]; rfl) (by decide) ?_
      exact lk_23 l C0 hAe hl0 hE hT hXE rfl h7 hL hc hs hn v LX LM fo H locs ls hI hJ hP hD hS hl
    by_cases k_24 : sc = (24 : Int32)
    · refine lv_tableIn (tgt := 916) hx hb dL_law_40 (by rw [k_24]; decide) (by rw [k_24]; decide) (off := 876) (by rw [k_24]; rfl) (by decide) ?_
      exact lk_24 l C0 hAe hl0 hE hT hXE rfl h7 hL hc hs hn v LX LM fo H locs ls hI hJ hP hD hS hl
    by_cases k_25 : sc = (25 : Int32)
    · refine lv_tableIn (tgt := 941) hx hb dL_law_40 (by rw [k_25]; decide) (by rw [k_25]; decide) (off := 901) (by rw [k_25]; rfl) (by decide) ?_
      exact lk_25 l C0 hAe hl0 hE hT hXE rfl h7 hL hc hs hn v LX LM fo H locs ls hI hJ hP hD hS hl
    by_cases k_26 : sc = (26 : Int32)
    · refine lv_tableIn (tgt := 994) hx hb dL_law_40 (by rw [k_26]; decide) (by rw [k_26]; decide) (off := 954) (by rw [k_26]; rfl) (by decide) ?_
      exact lk_26 l C0 hAe hl0 hE hT hXE rfl h7 hL hc hs hn v LX LM fo H locs ls hI hJ hP hD hS hl
    have hout : (sc : Int32).toInt < 0 ∨ 26 < (sc : Int32).toInt := tsw_out _ 0 26 (by intro j h1 h2; have hj : j = 0 ∨ j = 1 ∨ j = 2 ∨ j = 3 ∨ j = 4 ∨ j = 5 ∨ j = 6 ∨ j = 7 ∨ j = 8 ∨ j = 9 ∨ j = 10 ∨ j = 11 ∨ j = 12 ∨ j = 13 ∨ j = 14 ∨ j = 15 ∨ j = 16 ∨ j = 17 ∨ j = 18 ∨ j = 19 ∨ j = 20 ∨ j = 21 ∨ j = 22 ∨ j = 23 ∨ j = 24 ∨ j = 25 ∨ j = 26 := (by omega); rcases hj with rfl | rfl | rfl | rfl | rfl | rfl | rfl | rfl | rfl | rfl | rfl | rfl | rfl | rfl | rfl | rfl | rfl | rfl | rfl | rfl | rfl | rfl | rfl | rfl | rfl | rfl | rfl <;> first | exact lv_neT k_0 rfl | exact lv_neT k_1 rfl | exact lv_neT k_2 rfl | exact lv_neT k_3 rfl | exact lv_neT k_4 rfl | exact lv_neT k_5 rfl | exact lv_neT k_6 rfl | exact lv_neT k_7 rfl | exact lv_neT k_8 rfl | exact lv_neT k_9 rfl | exact lv_neT k_10 rfl | exact lv_neT k_11 rfl | exact lv_neT k_12 rfl | exact lv_neT k_13 rfl | exact lv_neT k_14 rfl | exact lv_neT k_15 rfl | exact lv_neT k_16 rfl | exact lv_neT k_17 rfl | exact lv_neT k_18 rfl | exact lv_neT k_19 rfl | exact lv_neT k_20 rfl | exact lv_neT k_21 rfl | exact lv_neT k_22 rfl | exact lv_neT k_23 rfl | exact lv_neT k_24 rfl | exact lv_neT k_25 rfl | exact lv_neT k_26 rfl)
    refine lv_tableOut (tgt := 1019) hx hb dL_law_40 hout (by decide) ?_
    refine W.widen (k := cells + 15) (n := slots + 1133) (by omega) (by omega) ?_
    exact hn v LX LM fo H locs ls hI hJ hP hD hS hl
set_option maxRecDepth 100000 in
theorem lk_loop {p : Program} {e : Env} {s : State} {m : MethodId} {below : List Frame} {meth : Method} {c : Code} (l : Launch) {b L : Nat} {xs : Nat → Int32} (C0 : lw_At p s m meth c b L xs) {A : Nat → Prop} (hAe : A = fun q => s.heap.size ≤ q) {D : va_G} {ak : Nat → ClassId} {ad : Nat → Nat} (hl0 : l.stackTraces = false) (hE : EV D ak s) (hT : ST D ak ad A s s.heap) (hXE : XE A s s.heap) {o0 m0 x0 : Nat} (hL : L ≤ 3584) : ∀ (r k cells slots : Nat), L < k + 7 * r + 7 → k ≤ L → cells + 15 * (r + 1) ≤ room_1.cells → slots + 1133 * (r + 1) ≤ room_1.slots → LGo p l e s m b below meth c D ak ad A o0 m0 x0 (nI k) 23 cells slots := by
  intro r
  induction r with
  | zero =>
    intro k cells slots h1 h2 h3 h4
    exact lk_step l C0 hAe hl0 hE hT hXE (by omega) hL (by omega) (by omega) (fun h => absurd h (by omega))
  | succ r ih =>
    intro k cells slots h1 h2 h3 h4
    exact lk_step l C0 hAe hl0 hE hT hXE (by omega) hL (by omega) (by omega) (fun h => ih (k + 7) (cells + 15) (slots + 1133) (by omega) h (by omega) (by omega))
