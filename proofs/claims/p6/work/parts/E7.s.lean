set_option maxHeartbeats 4000000 in
set_option maxRecDepth 100000 in
theorem gm_begin (l : Launch) (D : va_G) (ak : Nat → ClassId) (ad : Nat → Nat) (sz h : Nat) (am : Nat → Nat) (n : Nat) (F : Nat → Int32) (fw : Int64) (A : Nat → Nat → Int32) (b : Nat → Nat → Int64) (x0 : Int32) (R : Int32 → va_W → Prop) (hf : wp_X8_begin (A 2) (A 3) (A 4) (A 9) (A 10) (A 11) (A 12) x0 (F 0) (F 15) (F 16) (F 17) (F 18) (A 37) (fun (r : Int32) (y0 : Int32) (y1 : Int32) (y2 : Int32) (y3 : Int32) (y4 : Int32) (y5 : Nat → Int32) => R r (ML ak h am n (ofL 0 [y0, (F 1), (F 2), (F 3), (F 4), (F 5), (F 6), (F 7), (F 8), (F 9), (F 10), (F 11), (F 12), (F 13), (F 14), y1, y2, y3, y4, (F 19)]) (fw) (ofL (fun _ => 0) [(A 0), (A 1), (A 2), (A 3), (A 4), (fun _ => 0), (fun _ => 0), (A 7), (A 8), (A 9), (A 10), (A 11), (A 12), (A 13), (A 14), (A 15), (A 16), (A 17), (A 18), (A 19), (A 20), (A 21), (A 22), (A 23), (A 24), (A 25), (A 26), (A 27), (A 28), (A 29), (A 30), (A 31), (A 32), (A 33), (A 34), (A 35), (A 36), y5, (A 38), (A 39), (A 40), (A 41), (A 42), (A 43), (A 44), (A 45), (A 46)]) (b) ++ []))) : Met l yX8_begin wsX8_begin ({ frames := 2, cells := 0, slots := 0, locals := 46 }) (cPre D ak ad [.ref h, .int (x0)] (ML ak h am n F fw A b ++ []) sz) (cI D (S := va_W) R (fun L1 => L1) (ML ak h am n F fw A b ++ []) sz) 0 0 (va_A (ML ak h am n F fw A b ++ []) sz) := by
  refine fr_i0 (c_X8_begin l D ak ad sz h am (F 0) (nI n) (F 1) (F 2) (F 3) (F 4) fw (F 5) (F 6) (F 7) (F 8) (F 9) (F 10) (F 11) (F 12) (F 13) (F 14) (F 15) (F 16) (F 17) (F 18) (F 19) (A 2) (A 3) (A 4) (A 9) (A 10) (A 11) (A 12) (A 37) x0 _ hf) [0, 3, 4, 5, 10, 11, 12, 13, 38] (by decide) (by rw [ML_len]; decide) rfl (fun u => rfl) (fun r u h9 => ?_)
  obtain ⟨y0, y1, y2, y3, y4, y5⟩ := u
  have e : setAll (ML ak h am n F fw A b) [0, 3, 4, 5, 10, 11, 12, 13, 38] (wW_X8_begin ak ad h am y0 (nI n) (F 1) (F 2) (F 3) (F 4) fw (F 5) (F 6) (F 7) (F 8) (F 9) (F 10) (F 11) (F 12) (F 13) (F 14) y1 y2 y3 y4 (F 19) (A 2) (A 3) (A 4) (A 9) (A 10) (A 11) (A 12) y5) = ML ak h am n (ofL 0 [y0, (F 1), (F 2), (F 3), (F 4), (F 5), (F 6), (F 7), (F 8), (F 9), (F 10), (F 11), (F 12), (F 13), (F 14), y1, y2, y3, y4, (F 19)]) (fw) (ofL (fun _ => 0) [(A 0), (A 1), (A 2), (A 3), (A 4), (fun _ => 0), (fun _ => 0), (A 7), (A 8), (A 9), (A 10), (A 11), (A 12), (A 13), (A 14), (A 15), (A 16), (A 17), (A 18), (A 19), (A 20), (A 21), (A 22), (A 23), (A 24), (A 25), (A 26), (A 27), (A 28), (A 29), (A 30), (A 31), (A 32), (A 33), (A 34), (A 35), (A 36), y5, (A 38), (A 39), (A 40), (A 41), (A 42), (A 43), (A 44), (A 45), (A 46)]) (b) := by
    exact rfl
  show R r (setAll (ML ak h am n F fw A b) [0, 3, 4, 5, 10, 11, 12, 13, 38] (wW_X8_begin ak ad h am y0 (nI n) (F 1) (F 2) (F 3) (F 4) fw (F 5) (F 6) (F 7) (F 8) (F 9) (F 10) (F 11) (F 12) (F 13) (F 14) y1 y2 y3 y4 (F 19) (A 2) (A 3) (A 4) (A 9) (A 10) (A 11) (A 12) y5) ++ [])
  rw [e]
  exact h9

set_option maxHeartbeats 4000000 in
set_option maxRecDepth 100000 in
theorem gm_wrote (l : Launch) (D : va_G) (ak : Nat → ClassId) (ad : Nat → Nat) (sz h : Nat) (am : Nat → Nat) (n : Nat) (F : Nat → Int32) (fw : Int64) (A : Nat → Nat → Int32) (b : Nat → Nat → Int64) (x0 : Int32) (R : Int32 → va_W → Prop) (hf : wp_X8_wrote (F 15) (F 18) (A 39) x0 (F 0) (fun (r : Int32) (y0 : Int32) => R r (ML ak h am n (ofL 0 [y0, (F 1), (F 2), (F 3), (F 4), (F 5), (F 6), (F 7), (F 8), (F 9), (F 10), (F 11), (F 12), (F 13), (F 14), (F 15), (F 16), (F 17), (F 18), (F 19)]) (fw) (A) (b) ++ []))) : Met l yX8_wrote wsX8_wrote ({ frames := 1, cells := 0, slots := 0, locals := 15 }) (cPre D ak ad [.ref h, .int (x0)] (ML ak h am n F fw A b ++ []) sz) (cI D (S := va_W) R (fun L1 => L1) (ML ak h am n F fw A b ++ []) sz) 0 0 (va_A (ML ak h am n F fw A b ++ []) sz) := by
  refine fr_i0 (c_X8_wrote l D ak ad sz h am (F 0) (nI n) (F 1) (F 2) (F 3) (F 4) fw (F 5) (F 6) (F 7) (F 8) (F 9) (F 10) (F 11) (F 12) (F 13) (F 14) (F 15) (F 16) (F 17) (F 18) (F 19) (A 39) x0 _ hf) [0, 40] (by decide) (by rw [ML_len]; decide) rfl (fun u => rfl) (fun r u h9 => ?_)
  obtain ⟨y0, ey⟩ : ∃ z : Int32, z = u := ⟨_, rfl⟩
  subst ey
  have e : setAll (ML ak h am n F fw A b) [0, 40] (wW_X8_wrote ak ad h am y0 (nI n) (F 1) (F 2) (F 3) (F 4) fw (F 5) (F 6) (F 7) (F 8) (F 9) (F 10) (F 11) (F 12) (F 13) (F 14) (F 15) (F 16) (F 17) (F 18) (F 19) (A 39)) = ML ak h am n (ofL 0 [y0, (F 1), (F 2), (F 3), (F 4), (F 5), (F 6), (F 7), (F 8), (F 9), (F 10), (F 11), (F 12), (F 13), (F 14), (F 15), (F 16), (F 17), (F 18), (F 19)]) (fw) (A) (b) := by
    exact rfl
  show R r (setAll (ML ak h am n F fw A b) [0, 40] (wW_X8_wrote ak ad h am y0 (nI n) (F 1) (F 2) (F 3) (F 4) fw (F 5) (F 6) (F 7) (F 8) (F 9) (F 10) (F 11) (F 12) (F 13) (F 14) (F 15) (F 16) (F 17) (F 18) (F 19) (A 39)) ++ [])
  rw [e]
  exact h9

set_option maxHeartbeats 4000000 in
set_option maxRecDepth 100000 in
theorem gm_cell (l : Launch) (D : va_G) (ak : Nat → ClassId) (ad : Nat → Nat) (sz h : Nat) (am : Nat → Nat) (n : Nat) (F : Nat → Int32) (fw : Int64) (A : Nat → Nat → Int32) (b : Nat → Nat → Int64) (x0 : Int32) (R : Int32 → va_W → Prop) (hf : wp_X8_cell (F 15) (A 2) (A 37) x0 (F 0) (fun (r : Int32) (y0 : Int32) => R r (ML ak h am n (ofL 0 [y0, (F 1), (F 2), (F 3), (F 4), (F 5), (F 6), (F 7), (F 8), (F 9), (F 10), (F 11), (F 12), (F 13), (F 14), (F 15), (F 16), (F 17), (F 18), (F 19)]) (fw) (A) (b) ++ []))) : Met l yX8_cell wsX8_cell ({ frames := 1, cells := 0, slots := 0, locals := 21 }) (cPre D ak ad [.ref h, .int (x0)] (ML ak h am n F fw A b ++ []) sz) (cI D (S := va_W) R (fun L1 => L1) (ML ak h am n F fw A b ++ []) sz) 0 0 (va_A (ML ak h am n F fw A b ++ []) sz) := by
  refine fr_i0 (c_X8_cell l D ak ad sz h am (F 0) (nI n) (F 1) (F 2) (F 3) (F 4) fw (F 5) (F 6) (F 7) (F 8) (F 9) (F 10) (F 11) (F 12) (F 13) (F 14) (F 15) (F 16) (F 17) (F 18) (F 19) (A 2) (A 37) x0 _ hf) [0, 3, 38] (by decide) (by rw [ML_len]; decide) rfl (fun u => rfl) (fun r u h9 => ?_)
  obtain ⟨y0, ey⟩ : ∃ z : Int32, z = u := ⟨_, rfl⟩
  subst ey
  have e : setAll (ML ak h am n F fw A b) [0, 3, 38] (wW_X8_cell ak ad h am y0 (nI n) (F 1) (F 2) (F 3) (F 4) fw (F 5) (F 6) (F 7) (F 8) (F 9) (F 10) (F 11) (F 12) (F 13) (F 14) (F 15) (F 16) (F 17) (F 18) (F 19) (A 2) (A 37)) = ML ak h am n (ofL 0 [y0, (F 1), (F 2), (F 3), (F 4), (F 5), (F 6), (F 7), (F 8), (F 9), (F 10), (F 11), (F 12), (F 13), (F 14), (F 15), (F 16), (F 17), (F 18), (F 19)]) (fw) (A) (b) := by
    exact rfl
  show R r (setAll (ML ak h am n F fw A b) [0, 3, 38] (wW_X8_cell ak ad h am y0 (nI n) (F 1) (F 2) (F 3) (F 4) fw (F 5) (F 6) (F 7) (F 8) (F 9) (F 10) (F 11) (F 12) (F 13) (F 14) (F 15) (F 16) (F 17) (F 18) (F 19) (A 2) (A 37)) ++ [])
  rw [e]
  exact h9

set_option maxHeartbeats 4000000 in
set_option maxRecDepth 100000 in
theorem gm_feed (l : Launch) (D : va_G) (ak : Nat → ClassId) (ad : Nat → Nat) (sz h : Nat) (am : Nat → Nat) (n : Nat) (F : Nat → Int32) (fw : Int64) (A : Nat → Nat → Int32) (b : Nat → Nat → Int64) (xa : Int64) (xb : Int64) (xc : Int64) (R : Int32 → va_W → Prop) (hf : wp_X8_feed xa xb xc (F 0) (nI n) (A 0) (fun (r : Int32) (y0 : Int32) (y1 : Int32) (y2 : Nat → Int32) => ∃ k : Nat, y1 = nI k ∧ R r (ML ak h am k (ofL 0 [y0, (F 1), (F 2), (F 3), (F 4), (F 5), (F 6), (F 7), (F 8), (F 9), (F 10), (F 11), (F 12), (F 13), (F 14), (F 15), (F 16), (F 17), (F 18), (F 19)]) (fw) (ofL (fun _ => 0) [y2, (A 1), (A 2), (A 3), (A 4), (fun _ => 0), (fun _ => 0), (A 7), (A 8), (A 9), (A 10), (A 11), (A 12), (A 13), (A 14), (A 15), (A 16), (A 17), (A 18), (A 19), (A 20), (A 21), (A 22), (A 23), (A 24), (A 25), (A 26), (A 27), (A 28), (A 29), (A 30), (A 31), (A 32), (A 33), (A 34), (A 35), (A 36), (A 37), (A 38), (A 39), (A 40), (A 41), (A 42), (A 43), (A 44), (A 45), (A 46)]) (b) ++ []))) : Met l yX8_feed wsX8_feed ({ frames := 0, cells := 0, slots := 0, locals := 0 }) (cPre D ak ad [.ref h, .long (xa), .long (xb), .long (xc)] (ML ak h am n F fw A b ++ []) sz) (cI D (S := va_W) R (fun L1 => L1) (ML ak h am n F fw A b ++ []) sz) 0 0 (va_A (ML ak h am n F fw A b ++ []) sz) := by
  refine fr_i0 (c_X8_feed l D ak ad sz h am (F 0) (nI n) (F 1) (F 2) (F 3) (F 4) fw (F 5) (F 6) (F 7) (F 8) (F 9) (F 10) (F 11) (F 12) (F 13) (F 14) (F 15) (F 16) (F 17) (F 18) (F 19) (A 0) xa xb xc _ hf) [0, 1] (by decide) (by rw [ML_len]; decide) rfl (fun u => rfl) (fun r u h9 => ?_)
  obtain ⟨y0, y1, y2⟩ := u
  obtain ⟨k, hk, h9⟩ := h9
  have e : setAll (ML ak h am n F fw A b) [0, 1] (wW_X8_feed ak ad h am y0 y1 (F 1) (F 2) (F 3) (F 4) fw (F 5) (F 6) (F 7) (F 8) (F 9) (F 10) (F 11) (F 12) (F 13) (F 14) (F 15) (F 16) (F 17) (F 18) (F 19) y2) = ML ak h am k (ofL 0 [y0, (F 1), (F 2), (F 3), (F 4), (F 5), (F 6), (F 7), (F 8), (F 9), (F 10), (F 11), (F 12), (F 13), (F 14), (F 15), (F 16), (F 17), (F 18), (F 19)]) (fw) (ofL (fun _ => 0) [y2, (A 1), (A 2), (A 3), (A 4), (fun _ => 0), (fun _ => 0), (A 7), (A 8), (A 9), (A 10), (A 11), (A 12), (A 13), (A 14), (A 15), (A 16), (A 17), (A 18), (A 19), (A 20), (A 21), (A 22), (A 23), (A 24), (A 25), (A 26), (A 27), (A 28), (A 29), (A 30), (A 31), (A 32), (A 33), (A 34), (A 35), (A 36), (A 37), (A 38), (A 39), (A 40), (A 41), (A 42), (A 43), (A 44), (A 45), (A 46)]) (b) := by
    have hk : y1 = nI k := hk
    rw [hk]
    exact rfl
  show R r (setAll (ML ak h am n F fw A b) [0, 1] (wW_X8_feed ak ad h am y0 y1 (F 1) (F 2) (F 3) (F 4) fw (F 5) (F 6) (F 7) (F 8) (F 9) (F 10) (F 11) (F 12) (F 13) (F 14) (F 15) (F 16) (F 17) (F 18) (F 19) y2) ++ [])
  rw [e]
  exact h9
