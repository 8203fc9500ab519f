set_option maxHeartbeats 4000000 in
set_option maxRecDepth 100000 in
theorem gm_stuff (l : Launch) (D : va_G) (ak : Nat → ClassId) (ad : Nat → Nat) (sz h : Nat) (am : Nat → Nat) (n : Nat) (F : Nat → Int32) (fw : Int64) (A : Nat → Nat → Int32) (b : Nat → Nat → Int64) (x0 : Int32) (x1 : Int32) (R : Int32 → va_W → Prop) (hf : wp_X8_stuff (A 1) (A 7) (A 8) x0 x1 (F 0) (fun (r : Int32) (y0 : Int32) => R r (ML ak h am n (ofL 0 [y0, (F 1), (F 2), (F 3), (F 4), (F 5), (F 6), (F 7), (F 8), (F 9), (F 10), (F 11), (F 12), (F 13), (F 14), (F 15), (F 16), (F 17), (F 18), (F 19)]) (fw) (A) (b) ++ []))) : Met l yX8_stuff wsX8_stuff ({ frames := 1, cells := 0, slots := 0, locals := 22 }) (cPre D ak ad [.ref h, .int (x0), .int (x1)] (ML ak h am n F fw A b ++ []) sz) (cI D (S := va_W) R (fun L1 => L1) (ML ak h am n F fw A b ++ []) sz) 0 0 (va_A (ML ak h am n F fw A b ++ []) sz) := by
  refine fr_i0 (c_X8_stuff l D ak ad sz h am (F 0) (nI n) (F 1) (F 2) (F 3) (F 4) fw (F 5) (F 6) (F 7) (F 8) (F 9) (F 10) (F 11) (F 12) (F 13) (F 14) (F 15) (F 16) (F 17) (F 18) (F 19) (A 1) (A 7) (A 8) x0 x1 _ hf) [0, 2, 8, 9] (by decide) (by rw [ML_len]; decide) rfl (fun u => rfl) (fun r u h9 => ?_)
  obtain ⟨y0, ey⟩ : ∃ z : Int32, z = u := ⟨_, rfl⟩
  subst ey
  have e : setAll (ML ak h am n F fw A b) [0, 2, 8, 9] (wW_X8_stuff ak ad h am y0 (nI n) (F 1) (F 2) (F 3) (F 4) fw (F 5) (F 6) (F 7) (F 8) (F 9) (F 10) (F 11) (F 12) (F 13) (F 14) (F 15) (F 16) (F 17) (F 18) (F 19) (A 1) (A 7) (A 8)) = ML ak h am n (ofL 0 [y0, (F 1), (F 2), (F 3), (F 4), (F 5), (F 6), (F 7), (F 8), (F 9), (F 10), (F 11), (F 12), (F 13), (F 14), (F 15), (F 16), (F 17), (F 18), (F 19)]) (fw) (A) (b) := by
    exact rfl
  show R r (setAll (ML ak h am n F fw A b) [0, 2, 8, 9] (wW_X8_stuff ak ad h am y0 (nI n) (F 1) (F 2) (F 3) (F 4) fw (F 5) (F 6) (F 7) (F 8) (F 9) (F 10) (F 11) (F 12) (F 13) (F 14) (F 15) (F 16) (F 17) (F 18) (F 19) (A 1) (A 7) (A 8)) ++ [])
  rw [e]
  exact h9

set_option maxHeartbeats 4000000 in
set_option maxRecDepth 100000 in
theorem gm_line (l : Launch) (D : va_G) (ak : Nat → ClassId) (ad : Nat → Nat) (sz h : Nat) (am : Nat → Nat) (n : Nat) (F : Nat → Int32) (fw : Int64) (A : Nat → Nat → Int32) (b : Nat → Nat → Int64) (x0 : Int32) (x1 : Int32) (R : Int32 → va_W → Prop) (hf : wp_X8_line (A 4) (A 7) (A 13) (A 15) (A 16) (A 38) x0 x1 (F 0) (fun (r : Int32) (y0 : Int32) => R r (ML ak h am n (ofL 0 [y0, (F 1), (F 2), (F 3), (F 4), (F 5), (F 6), (F 7), (F 8), (F 9), (F 10), (F 11), (F 12), (F 13), (F 14), (F 15), (F 16), (F 17), (F 18), (F 19)]) (fw) (A) (b) ++ []))) : Met l yX8_line wsX8_line ({ frames := 1, cells := 0, slots := 0, locals := 22 }) (cPre D ak ad [.ref h, .int (x0), .int (x1)] (ML ak h am n F fw A b ++ []) sz) (cI D (S := va_W) R (fun L1 => L1) (ML ak h am n F fw A b ++ []) sz) 0 0 (va_A (ML ak h am n F fw A b ++ []) sz) := by
  refine fr_i0 (c_X8_line l D ak ad sz h am (F 0) (nI n) (F 1) (F 2) (F 3) (F 4) fw (F 5) (F 6) (F 7) (F 8) (F 9) (F 10) (F 11) (F 12) (F 13) (F 14) (F 15) (F 16) (F 17) (F 18) (F 19) (A 4) (A 7) (A 13) (A 15) (A 16) (A 38) x0 x1 _ hf) [0, 5, 8, 14, 16, 17, 39] (by decide) (by rw [ML_len]; decide) rfl (fun u => rfl) (fun r u h9 => ?_)
  obtain ⟨y0, ey⟩ : ∃ z : Int32, z = u := ⟨_, rfl⟩
  subst ey
  have e : setAll (ML ak h am n F fw A b) [0, 5, 8, 14, 16, 17, 39] (wW_X8_line ak ad h am y0 (nI n) (F 1) (F 2) (F 3) (F 4) fw (F 5) (F 6) (F 7) (F 8) (F 9) (F 10) (F 11) (F 12) (F 13) (F 14) (F 15) (F 16) (F 17) (F 18) (F 19) (A 4) (A 7) (A 13) (A 15) (A 16) (A 38)) = ML ak h am n (ofL 0 [y0, (F 1), (F 2), (F 3), (F 4), (F 5), (F 6), (F 7), (F 8), (F 9), (F 10), (F 11), (F 12), (F 13), (F 14), (F 15), (F 16), (F 17), (F 18), (F 19)]) (fw) (A) (b) := by
    exact rfl
  show R r (setAll (ML ak h am n F fw A b) [0, 5, 8, 14, 16, 17, 39] (wW_X8_line ak ad h am y0 (nI n) (F 1) (F 2) (F 3) (F 4) fw (F 5) (F 6) (F 7) (F 8) (F 9) (F 10) (F 11) (F 12) (F 13) (F 14) (F 15) (F 16) (F 17) (F 18) (F 19) (A 4) (A 7) (A 13) (A 15) (A 16) (A 38)) ++ [])
  rw [e]
  exact h9

set_option maxHeartbeats 4000000 in
set_option maxRecDepth 100000 in
theorem gm_cost (l : Launch) (D : va_G) (ak : Nat → ClassId) (ad : Nat → Nat) (sz h : Nat) (am : Nat → Nat) (n : Nat) (F : Nat → Int32) (fw : Int64) (A : Nat → Nat → Int32) (b : Nat → Nat → Int64)  (R : Int32 → va_W → Prop) (hf : wp_X8_cost (A 4) (A 8) (A 15) (A 16) (F 0) (fun (r : Int32) (y0 : Int32) => R r (ML ak h am n (ofL 0 [y0, (F 1), (F 2), (F 3), (F 4), (F 5), (F 6), (F 7), (F 8), (F 9), (F 10), (F 11), (F 12), (F 13), (F 14), (F 15), (F 16), (F 17), (F 18), (F 19)]) (fw) (A) (b) ++ []))) : Met l yX8_cost wsX8_cost ({ frames := 0, cells := 0, slots := 0, locals := 0 }) (cPre D ak ad [.ref h] (ML ak h am n F fw A b ++ []) sz) (cI D (S := va_W) R (fun L1 => L1) (ML ak h am n F fw A b ++ []) sz) 0 0 (va_A (ML ak h am n F fw A b ++ []) sz) := by
  refine fr_i0 (c_X8_cost l D ak ad sz h am (F 0) (nI n) (F 1) (F 2) (F 3) (F 4) fw (F 5) (F 6) (F 7) (F 8) (F 9) (F 10) (F 11) (F 12) (F 13) (F 14) (F 15) (F 16) (F 17) (F 18) (F 19) (A 4) (A 8) (A 15) (A 16) _ hf) [0, 5, 9, 16, 17] (by decide) (by rw [ML_len]; decide) rfl (fun u => rfl) (fun r u h9 => ?_)
  obtain ⟨y0, ey⟩ : ∃ z : Int32, z = u := ⟨_, rfl⟩
  subst ey
  have e : setAll (ML ak h am n F fw A b) [0, 5, 9, 16, 17] (wW_X8_cost ak ad h am y0 (nI n) (F 1) (F 2) (F 3) (F 4) fw (F 5) (F 6) (F 7) (F 8) (F 9) (F 10) (F 11) (F 12) (F 13) (F 14) (F 15) (F 16) (F 17) (F 18) (F 19) (A 4) (A 8) (A 15) (A 16)) = ML ak h am n (ofL 0 [y0, (F 1), (F 2), (F 3), (F 4), (F 5), (F 6), (F 7), (F 8), (F 9), (F 10), (F 11), (F 12), (F 13), (F 14), (F 15), (F 16), (F 17), (F 18), (F 19)]) (fw) (A) (b) := by
    exact rfl
  show R r (setAll (ML ak h am n F fw A b) [0, 5, 9, 16, 17] (wW_X8_cost ak ad h am y0 (nI n) (F 1) (F 2) (F 3) (F 4) fw (F 5) (F 6) (F 7) (F 8) (F 9) (F 10) (F 11) (F 12) (F 13) (F 14) (F 15) (F 16) (F 17) (F 18) (F 19) (A 4) (A 8) (A 15) (A 16)) ++ [])
  rw [e]
  exact h9

set_option maxHeartbeats 4000000 in
set_option maxRecDepth 100000 in
theorem gm_inputs (l : Launch) (D : va_G) (ak : Nat → ClassId) (ad : Nat → Nat) (sz h : Nat) (am : Nat → Nat) (n : Nat) (F : Nat → Int32) (fw : Int64) (A : Nat → Nat → Int32) (b : Nat → Nat → Int64)  (R : Int32 → va_W → Prop) (hf : wp_X8_inputs (A 3) (A 11) (A 12) (F 0) (fun (r : Int32) (y0 : Int32) => R r (ML ak h am n (ofL 0 [y0, (F 1), (F 2), (F 3), (F 4), (F 5), (F 6), (F 7), (F 8), (F 9), (F 10), (F 11), (F 12), (F 13), (F 14), (F 15), (F 16), (F 17), (F 18), (F 19)]) (fw) (A) (b) ++ []))) : Met l yX8_inputs wsX8_inputs ({ frames := 2, cells := 0, slots := 0, locals := 43 }) (cPre D ak ad [.ref h] (ML ak h am n F fw A b ++ []) sz) (cI D (S := va_W) R (fun L1 => L1) (ML ak h am n F fw A b ++ []) sz) 0 0 (va_A (ML ak h am n F fw A b ++ []) sz) := by
  refine fr_i0 (c_X8_inputs l D ak ad sz h am (F 0) (nI n) (F 1) (F 2) (F 3) (F 4) fw (F 5) (F 6) (F 7) (F 8) (F 9) (F 10) (F 11) (F 12) (F 13) (F 14) (F 15) (F 16) (F 17) (F 18) (F 19) (A 3) (A 11) (A 12) _ hf) [0, 4, 12, 13] (by decide) (by rw [ML_len]; decide) rfl (fun u => rfl) (fun r u h9 => ?_)
  obtain ⟨y0, ey⟩ : ∃ z : Int32, z = u := ⟨_, rfl⟩
  subst ey
  have e : setAll (ML ak h am n F fw A b) [0, 4, 12, 13] (wW_X8_inputs ak ad h am y0 (nI n) (F 1) (F 2) (F 3) (F 4) fw (F 5) (F 6) (F 7) (F 8) (F 9) (F 10) (F 11) (F 12) (F 13) (F 14) (F 15) (F 16) (F 17) (F 18) (F 19) (A 3) (A 11) (A 12)) = ML ak h am n (ofL 0 [y0, (F 1), (F 2), (F 3), (F 4), (F 5), (F 6), (F 7), (F 8), (F 9), (F 10), (F 11), (F 12), (F 13), (F 14), (F 15), (F 16), (F 17), (F 18), (F 19)]) (fw) (A) (b) := by
    exact rfl
  show R r (setAll (ML ak h am n F fw A b) [0, 4, 12, 13] (wW_X8_inputs ak ad h am y0 (nI n) (F 1) (F 2) (F 3) (F 4) fw (F 5) (F 6) (F 7) (F 8) (F 9) (F 10) (F 11) (F 12) (F 13) (F 14) (F 15) (F 16) (F 17) (F 18) (F 19) (A 3) (A 11) (A 12)) ++ [])
  rw [e]
  exact h9

set_option maxHeartbeats 4000000 in
set_option maxRecDepth 100000 in
theorem gm_input (l : Launch) (D : va_G) (ak : Nat → ClassId) (ad : Nat → Nat) (sz h : Nat) (am : Nat → Nat) (n : Nat) (F : Nat → Int32) (fw : Int64) (A : Nat → Nat → Int32) (b : Nat → Nat → Int64) (x0 : Int32) (x1 : Int32) (R : Int32 → va_W → Prop) (hf : wp_X8_input (A 2) (A 3) (A 9) (A 10) (A 11) (A 12) x0 x1 (F 0) (fun (r : Int32) (y0 : Int32) => R r (ML ak h am n (ofL 0 [y0, (F 1), (F 2), (F 3), (F 4), (F 5), (F 6), (F 7), (F 8), (F 9), (F 10), (F 11), (F 12), (F 13), (F 14), (F 15), (F 16), (F 17), (F 18), (F 19)]) (fw) (A) (b) ++ []))) : Met l yX8_input wsX8_input ({ frames := 2, cells := 0, slots := 0, locals := 46 }) (cPre D ak ad [.ref h, .int (x0), .int (x1)] (ML ak h am n F fw A b ++ []) sz) (cI D (S := va_W) R (fun L1 => L1) (ML ak h am n F fw A b ++ []) sz) 0 0 (va_A (ML ak h am n F fw A b ++ []) sz) := by
  refine fr_i0 (c_X8_input l D ak ad sz h am (F 0) (nI n) (F 1) (F 2) (F 3) (F 4) fw (F 5) (F 6) (F 7) (F 8) (F 9) (F 10) (F 11) (F 12) (F 13) (F 14) (F 15) (F 16) (F 17) (F 18) (F 19) (A 2) (A 3) (A 9) (A 10) (A 11) (A 12) x0 x1 _ hf) [0, 3, 4, 10, 11, 12, 13] (by decide) (by rw [ML_len]; decide) rfl (fun u => rfl) (fun r u h9 => ?_)
  obtain ⟨y0, ey⟩ : ∃ z : Int32, z = u := ⟨_, rfl⟩
  subst ey
  have e : setAll (ML ak h am n F fw A b) [0, 3, 4, 10, 11, 12, 13] (wW_X8_input ak ad h am y0 (nI n) (F 1) (F 2) (F 3) (F 4) fw (F 5) (F 6) (F 7) (F 8) (F 9) (F 10) (F 11) (F 12) (F 13) (F 14) (F 15) (F 16) (F 17) (F 18) (F 19) (A 2) (A 3) (A 9) (A 10) (A 11) (A 12)) = ML ak h am n (ofL 0 [y0, (F 1), (F 2), (F 3), (F 4), (F 5), (F 6), (F 7), (F 8), (F 9), (F 10), (F 11), (F 12), (F 13), (F 14), (F 15), (F 16), (F 17), (F 18), (F 19)]) (fw) (A) (b) := by
    exact rfl
  show R r (setAll (ML ak h am n F fw A b) [0, 3, 4, 10, 11, 12, 13] (wW_X8_input ak ad h am y0 (nI n) (F 1) (F 2) (F 3) (F 4) fw (F 5) (F 6) (F 7) (F 8) (F 9) (F 10) (F 11) (F 12) (F 13) (F 14) (F 15) (F 16) (F 17) (F 18) (F 19) (A 2) (A 3) (A 9) (A 10) (A 11) (A 12)) ++ [])
  rw [e]
  exact h9

set_option maxHeartbeats 4000000 in
set_option maxRecDepth 100000 in
theorem gm_state (l : Launch) (D : va_G) (ak : Nat → ClassId) (ad : Nat → Nat) (sz h : Nat) (am : Nat → Nat) (n : Nat) (F : Nat → Int32) (fw : Int64) (A : Nat → Nat → Int32) (b : Nat → Nat → Int64) (x0 : Int32) (R : Int32 → va_W → Prop) (hf : wp_X8_state (F 15) (F 16) (F 17) (F 18) x0 (F 0) (fun (r : Int32) (y0 : Int32) => R r (ML ak h am n (ofL 0 [y0, (F 1), (F 2), (F 3), (F 4), (F 5), (F 6), (F 7), (F 8), (F 9), (F 10), (F 11), (F 12), (F 13), (F 14), (F 15), (F 16), (F 17), (F 18), (F 19)]) (fw) (A) (b) ++ []))) : Met l yX8_state wsX8_state ({ frames := 1, cells := 0, slots := 0, locals := 22 }) (cPre D ak ad [.ref h, .int (x0)] (ML ak h am n F fw A b ++ []) sz) (cI D (S := va_W) R (fun L1 => L1) (ML ak h am n F fw A b ++ []) sz) 0 0 (va_A (ML ak h am n F fw A b ++ []) sz) := by
  refine fr_i0 (c_X8_state l D ak ad sz h am (F 0) (nI n) (F 1) (F 2) (F 3) (F 4) fw (F 5) (F 6) (F 7) (F 8) (F 9) (F 10) (F 11) (F 12) (F 13) (F 14) (F 15) (F 16) (F 17) (F 18) (F 19) x0 _ hf) [0] (by decide) (by rw [ML_len]; decide) rfl (fun u => rfl) (fun r u h9 => ?_)
  obtain ⟨y0, ey⟩ : ∃ z : Int32, z = u := ⟨_, rfl⟩
  subst ey
  have e : setAll (ML ak h am n F fw A b) [0] (wW_X8_state ak ad h am y0 (nI n) (F 1) (F 2) (F 3) (F 4) fw (F 5) (F 6) (F 7) (F 8) (F 9) (F 10) (F 11) (F 12) (F 13) (F 14) (F 15) (F 16) (F 17) (F 18) (F 19)) = ML ak h am n (ofL 0 [y0, (F 1), (F 2), (F 3), (F 4), (F 5), (F 6), (F 7), (F 8), (F 9), (F 10), (F 11), (F 12), (F 13), (F 14), (F 15), (F 16), (F 17), (F 18), (F 19)]) (fw) (A) (b) := by
    exact rfl
  show R r (setAll (ML ak h am n F fw A b) [0] (wW_X8_state ak ad h am y0 (nI n) (F 1) (F 2) (F 3) (F 4) fw (F 5) (F 6) (F 7) (F 8) (F 9) (F 10) (F 11) (F 12) (F 13) (F 14) (F 15) (F 16) (F 17) (F 18) (F 19)) ++ [])
  rw [e]
  exact h9

set_option maxHeartbeats 4000000 in
set_option maxRecDepth 100000 in
theorem gm_count (l : Launch) (D : va_G) (ak : Nat → ClassId) (ad : Nat → Nat) (sz h : Nat) (am : Nat → Nat) (n : Nat) (F : Nat → Int32) (fw : Int64) (A : Nat → Nat → Int32) (b : Nat → Nat → Int64) (x0 : Int32) (R : Int32 → va_W → Prop) (hf : wp_X8_count (nI n) (A 1) (A 2) (A 3) (A 4) x0 (F 0) (fun (r : Int32) (y0 : Int32) => R r (ML ak h am n (ofL 0 [y0, (F 1), (F 2), (F 3), (F 4), (F 5), (F 6), (F 7), (F 8), (F 9), (F 10), (F 11), (F 12), (F 13), (F 14), (F 15), (F 16), (F 17), (F 18), (F 19)]) (fw) (A) (b) ++ []))) : Met l yX8_count wsX8_count ({ frames := 1, cells := 0, slots := 0, locals := 22 }) (cPre D ak ad [.ref h, .int (x0)] (ML ak h am n F fw A b ++ []) sz) (cI D (S := va_W) R (fun L1 => L1) (ML ak h am n F fw A b ++ []) sz) 0 0 (va_A (ML ak h am n F fw A b ++ []) sz) := by
  refine fr_i0 (c_X8_count l D ak ad sz h am (F 0) (nI n) (F 1) (F 2) (F 3) (F 4) fw (F 5) (F 6) (F 7) (F 8) (F 9) (F 10) (F 11) (F 12) (F 13) (F 14) (F 15) (F 16) (F 17) (F 18) (F 19) (A 1) (A 2) (A 3) (A 4) x0 _ hf) [0, 2, 3, 4, 5] (by decide) (by rw [ML_len]; decide) rfl (fun u => rfl) (fun r u h9 => ?_)
  obtain ⟨y0, ey⟩ : ∃ z : Int32, z = u := ⟨_, rfl⟩
  subst ey
  have e : setAll (ML ak h am n F fw A b) [0, 2, 3, 4, 5] (wW_X8_count ak ad h am y0 (nI n) (F 1) (F 2) (F 3) (F 4) fw (F 5) (F 6) (F 7) (F 8) (F 9) (F 10) (F 11) (F 12) (F 13) (F 14) (F 15) (F 16) (F 17) (F 18) (F 19) (A 1) (A 2) (A 3) (A 4)) = ML ak h am n (ofL 0 [y0, (F 1), (F 2), (F 3), (F 4), (F 5), (F 6), (F 7), (F 8), (F 9), (F 10), (F 11), (F 12), (F 13), (F 14), (F 15), (F 16), (F 17), (F 18), (F 19)]) (fw) (A) (b) := by
    exact rfl
  show R r (setAll (ML ak h am n F fw A b) [0, 2, 3, 4, 5] (wW_X8_count ak ad h am y0 (nI n) (F 1) (F 2) (F 3) (F 4) fw (F 5) (F 6) (F 7) (F 8) (F 9) (F 10) (F 11) (F 12) (F 13) (F 14) (F 15) (F 16) (F 17) (F 18) (F 19) (A 1) (A 2) (A 3) (A 4)) ++ [])
  rw [e]
  exact h9

set_option maxHeartbeats 4000000 in
set_option maxRecDepth 100000 in
theorem gm_fresh (l : Launch) (D : va_G) (ak : Nat → ClassId) (ad : Nat → Nat) (sz h : Nat) (am : Nat → Nat) (n : Nat) (F : Nat → Int32) (fw : Int64) (A : Nat → Nat → Int32) (b : Nat → Nat → Int64)  (R : Int32 → va_W → Prop) (hf : wp_X8_fresh (F 0) (A 38) (fun (r : Int32) (y0 : Int32) (y1 : Nat → Int32) => R r (ML ak h am n (ofL 0 [y0, (F 1), (F 2), (F 3), (F 4), (F 5), (F 6), (F 7), (F 8), (F 9), (F 10), (F 11), (F 12), (F 13), (F 14), (F 15), (F 16), (F 17), (F 18), (F 19)]) (fw) (ofL (fun _ => 0) [(A 0), (A 1), (A 2), (A 3), (A 4), (fun _ => 0), (fun _ => 0), (A 7), (A 8), (A 9), (A 10), (A 11), (A 12), (A 13), (A 14), (A 15), (A 16), (A 17), (A 18), (A 19), (A 20), (A 21), (A 22), (A 23), (A 24), (A 25), (A 26), (A 27), (A 28), (A 29), (A 30), (A 31), (A 32), (A 33), (A 34), (A 35), (A 36), (A 37), y1, (A 39), (A 40), (A 41), (A 42), (A 43), (A 44), (A 45), (A 46)]) (b) ++ []))) : Met l yX8_fresh wsX8_fresh ({ frames := 0, cells := 0, slots := 0, locals := 0 }) (cPre D ak ad [.ref h] (ML ak h am n F fw A b ++ []) sz) (cI D (S := va_W) R (fun L1 => L1) (ML ak h am n F fw A b ++ []) sz) 0 0 (va_A (ML ak h am n F fw A b ++ []) sz) := by
  refine fr_i0 (c_X8_fresh l D ak ad sz h am (F 0) (nI n) (F 1) (F 2) (F 3) (F 4) fw (F 5) (F 6) (F 7) (F 8) (F 9) (F 10) (F 11) (F 12) (F 13) (F 14) (F 15) (F 16) (F 17) (F 18) (F 19) (A 38) _ hf) [0, 39] (by decide) (by rw [ML_len]; decide) rfl (fun u => rfl) (fun r u h9 => ?_)
  obtain ⟨y0, y1⟩ := u
  have e : setAll (ML ak h am n F fw A b) [0, 39] (wW_X8_fresh ak ad h am y0 (nI n) (F 1) (F 2) (F 3) (F 4) fw (F 5) (F 6) (F 7) (F 8) (F 9) (F 10) (F 11) (F 12) (F 13) (F 14) (F 15) (F 16) (F 17) (F 18) (F 19) y1) = ML ak h am n (ofL 0 [y0, (F 1), (F 2), (F 3), (F 4), (F 5), (F 6), (F 7), (F 8), (F 9), (F 10), (F 11), (F 12), (F 13), (F 14), (F 15), (F 16), (F 17), (F 18), (F 19)]) (fw) (ofL (fun _ => 0) [(A 0), (A 1), (A 2), (A 3), (A 4), (fun _ => 0), (fun _ => 0), (A 7), (A 8), (A 9), (A 10), (A 11), (A 12), (A 13), (A 14), (A 15), (A 16), (A 17), (A 18), (A 19), (A 20), (A 21), (A 22), (A 23), (A 24), (A 25), (A 26), (A 27), (A 28), (A 29), (A 30), (A 31), (A 32), (A 33), (A 34), (A 35), (A 36), (A 37), y1, (A 39), (A 40), (A 41), (A 42), (A 43), (A 44), (A 45), (A 46)]) (b) := by
    exact rfl
  show R r (setAll (ML ak h am n F fw A b) [0, 39] (wW_X8_fresh ak ad h am y0 (nI n) (F 1) (F 2) (F 3) (F 4) fw (F 5) (F 6) (F 7) (F 8) (F 9) (F 10) (F 11) (F 12) (F 13) (F 14) (F 15) (F 16) (F 17) (F 18) (F 19) y1) ++ [])
  rw [e]
  exact h9

set_option maxHeartbeats 4000000 in
set_option maxRecDepth 100000 in
theorem gm_lay (l : Launch) (D : va_G) (ak : Nat → ClassId) (ad : Nat → Nat) (sz h : Nat) (am : Nat → Nat) (n : Nat) (F : Nat → Int32) (fw : Int64) (A : Nat → Nat → Int32) (b : Nat → Nat → Int64) (x0 : Int32) (x1 : Int32) (x2 : Int32) (R : Int32 → va_W → Prop) (hf : wp_X8_lay (A 1) (A 4) x0 x1 x2 (F 0) (A 15) (A 16) (A 38) (fun (r : Int32) (y0 : Int32) (y1 : Nat → Int32) (y2 : Nat → Int32) (y3 : Nat → Int32) => R r (ML ak h am n (ofL 0 [y0, (F 1), (F 2), (F 3), (F 4), (F 5), (F 6), (F 7), (F 8), (F 9), (F 10), (F 11), (F 12), (F 13), (F 14), (F 15), (F 16), (F 17), (F 18), (F 19)]) (fw) (ofL (fun _ => 0) [(A 0), (A 1), (A 2), (A 3), (A 4), (fun _ => 0), (fun _ => 0), (A 7), (A 8), (A 9), (A 10), (A 11), (A 12), (A 13), (A 14), y1, y2, (A 17), (A 18), (A 19), (A 20), (A 21), (A 22), (A 23), (A 24), (A 25), (A 26), (A 27), (A 28), (A 29), (A 30), (A 31), (A 32), (A 33), (A 34), (A 35), (A 36), (A 37), y3, (A 39), (A 40), (A 41), (A 42), (A 43), (A 44), (A 45), (A 46)]) (b) ++ []))) : Met l yX8_lay wsX8_lay ({ frames := 1, cells := 0, slots := 0, locals := 22 }) (cPre D ak ad [.ref h, .int (x0), .int (x1), .int (x2)] (ML ak h am n F fw A b ++ []) sz) (cI D (S := va_W) R (fun L1 => L1) (ML ak h am n F fw A b ++ []) sz) 0 0 (va_A (ML ak h am n F fw A b ++ []) sz) := by
  refine fr_i0 (c_X8_lay l D ak ad sz h am (F 0) (nI n) (F 1) (F 2) (F 3) (F 4) fw (F 5) (F 6) (F 7) (F 8) (F 9) (F 10) (F 11) (F 12) (F 13) (F 14) (F 15) (F 16) (F 17) (F 18) (F 19) (A 1) (A 4) (A 15) (A 16) (A 38) x0 x1 x2 _ hf) [0, 2, 5, 16, 17, 39] (by decide) (by rw [ML_len]; decide) rfl (fun u => rfl) (fun r u h9 => ?_)
  obtain ⟨y0, y1, y2, y3⟩ := u
  have e : setAll (ML ak h am n F fw A b) [0, 2, 5, 16, 17, 39] (wW_X8_lay ak ad h am y0 (nI n) (F 1) (F 2) (F 3) (F 4) fw (F 5) (F 6) (F 7) (F 8) (F 9) (F 10) (F 11) (F 12) (F 13) (F 14) (F 15) (F 16) (F 17) (F 18) (F 19) (A 1) (A 4) y1 y2 y3) = ML ak h am n (ofL 0 [y0, (F 1), (F 2), (F 3), (F 4), (F 5), (F 6), (F 7), (F 8), (F 9), (F 10), (F 11), (F 12), (F 13), (F 14), (F 15), (F 16), (F 17), (F 18), (F 19)]) (fw) (ofL (fun _ => 0) [(A 0), (A 1), (A 2), (A 3), (A 4), (fun _ => 0), (fun _ => 0), (A 7), (A 8), (A 9), (A 10), (A 11), (A 12), (A 13), (A 14), y1, y2, (A 17), (A 18), (A 19), (A 20), (A 21), (A 22), (A 23), (A 24), (A 25), (A 26), (A 27), (A 28), (A 29), (A 30), (A 31), (A 32), (A 33), (A 34), (A 35), (A 36), (A 37), y3, (A 39), (A 40), (A 41), (A 42), (A 43), (A 44), (A 45), (A 46)]) (b) := by
    exact rfl
  show R r (setAll (ML ak h am n F fw A b) [0, 2, 5, 16, 17, 39] (wW_X8_lay ak ad h am y0 (nI n) (F 1) (F 2) (F 3) (F 4) fw (F 5) (F 6) (F 7) (F 8) (F 9) (F 10) (F 11) (F 12) (F 13) (F 14) (F 15) (F 16) (F 17) (F 18) (F 19) (A 1) (A 4) y1 y2 y3) ++ [])
  rw [e]
  exact h9
