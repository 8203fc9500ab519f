theorem dX7_within_0 : decode cX7_within 0 = .ok (.iload_n 0, 1) := by decide +kernel
theorem dX7_within_1 : decode cX7_within 1 = .ok (.ifCond .lt 12, 3) := by decide +kernel
theorem dX7_within_13 : decode cX7_within 13 = .ok (.iconst 0, 1) := by decide +kernel
theorem dX7_within_14 : decode cX7_within 14 = .ok (.ireturn, 1) := by decide +kernel
theorem dX7_within_4 : decode cX7_within 4 = .ok (.iload_n 0, 1) := by decide +kernel
theorem dX7_within_5 : decode cX7_within 5 = .ok (.iload_n 1, 1) := by decide +kernel
theorem dX7_within_6 : decode cX7_within 6 = .ok (.if_icmp .ge 7, 3) := by decide +kernel
theorem dX7_within_9 : decode cX7_within 9 = .ok (.iconst 1, 1) := by decide +kernel
theorem dX7_within_10 : decode cX7_within 10 = .ok (.goto 4, 3) := by decide +kernel
theorem dX2_inputCount_0 : decode cX2_inputCount 0 = .ok (.iconst 1, 1) := by decide +kernel
theorem dX2_inputCount_1 : decode cX2_inputCount 1 = .ok (.istore_n 1, 1) := by decide +kernel
theorem dX2_inputCount_2 : decode cX2_inputCount 2 = .ok (.iconst 0, 1) := by decide +kernel
theorem dX2_inputCount_3 : decode cX2_inputCount 3 = .ok (.istore_n 2, 1) := by decide +kernel
theorem dX2_inputCount_4 : decode cX2_inputCount 4 = .ok (.iload_n 2, 1) := by decide +kernel
theorem dX2_inputCount_5 : decode cX2_inputCount 5 = .ok (.aload_n 0, 1) := by decide +kernel
theorem dX2_inputCount_6 : decode cX2_inputCount 6 = .ok (.getfield 51, 3) := by decide +kernel
theorem dX2_inputCount_9 : decode cX2_inputCount 9 = .ok (.if_icmp .ge 17, 3) := by decide +kernel
theorem dX2_inputCount_26 : decode cX2_inputCount 26 = .ok (.iload_n 1, 1) := by decide +kernel
theorem dX2_inputCount_27 : decode cX2_inputCount 27 = .ok (.ireturn, 1) := by decide +kernel
theorem dX7_canWalk_0 : decode cX7_canWalk 0 = .ok (.aload_n 0, 1) := by decide +kernel
theorem dX7_canWalk_1 : decode cX7_canWalk 1 = .ok (.getfield 37, 3) := by decide +kernel
theorem dX7_canWalk_4 : decode cX7_canWalk 4 = .ok (.getfield 89, 3) := by decide +kernel
theorem dX7_canWalk_7 : decode cX7_canWalk 7 = .ok (.getfield 106, 3) := by decide +kernel
theorem dX7_canWalk_10 : decode cX7_canWalk 10 = .ok (.ifCond .le 24, 3) := by decide +kernel
theorem dX7_canWalk_34 : decode cX7_canWalk 34 = .ok (.iconst 0, 1) := by decide +kernel
theorem dX7_canWalk_35 : decode cX7_canWalk 35 = .ok (.ireturn, 1) := by decide +kernel
theorem dX7_stuff_0 : decode cX7_stuff 0 = .ok (.iload_n 1, 1) := by decide +kernel
theorem dX7_stuff_1 : decode cX7_stuff 1 = .ok (.aload_n 0, 1) := by decide +kernel
theorem dX7_stuff_2 : decode cX7_stuff 2 = .ok (.getfield 37, 3) := by decide +kernel
theorem dX7_stuff_5 : decode cX7_stuff 5 = .ok (.getfield 89, 3) := by decide +kernel
theorem dX7_stuff_8 : decode cX7_stuff 8 = .ok (.getfield 92, 3) := by decide +kernel
set_option maxRecDepth 20000 in
theorem ggX7_stuff_X7_within : GoodIn wsX7_stuff wsX7_within := goodIn_r _ [9] (by decide +kernel) (by decide +kernel)
set_option maxRecDepth 20000 in
theorem gX7_stuff_X7_within : GoodIn wsX7_stuff (va_wsS RX7 95 yX7_within wsX7_within) := goodIn_app (goodIn_of _ (by decide +kernel)) ggX7_stuff_X7_within
theorem dX7_stuff_11 : decode cX7_stuff 11 = .ok (.invokestatic 95, 3) := by decide +kernel
theorem dX7_stuff_14 : decode cX7_stuff 14 = .ok (.ifCond .ne 5, 3) := by decide +kernel
theorem dX7_stuff_17 : decode cX7_stuff 17 = .ok (.iconst (-1), 1) := by decide +kernel
theorem dX7_stuff_18 : decode cX7_stuff 18 = .ok (.ireturn, 1) := by decide +kernel
theorem dX7_line_0 : decode cX7_line 0 = .ok (.iload_n 1, 1) := by decide +kernel
theorem dX7_line_1 : decode cX7_line 1 = .ok (.aload_n 0, 1) := by decide +kernel
theorem dX7_line_2 : decode cX7_line 2 = .ok (.getfield 37, 3) := by decide +kernel
theorem dX7_line_5 : decode cX7_line 5 = .ok (.getfield 89, 3) := by decide +kernel
theorem dX7_line_8 : decode cX7_line 8 = .ok (.getfield 106, 3) := by decide +kernel
set_option maxRecDepth 20000 in
theorem ggX7_line_X7_within : GoodIn wsX7_line wsX7_within := goodIn_r _ [11] (by decide +kernel) (by decide +kernel)
set_option maxRecDepth 20000 in
theorem gX7_line_X7_within : GoodIn wsX7_line (va_wsS RX7 95 yX7_within wsX7_within) := goodIn_app (goodIn_of _ (by decide +kernel)) ggX7_line_X7_within
theorem dX7_line_11 : decode cX7_line 11 = .ok (.invokestatic 95, 3) := by decide +kernel
theorem dX7_line_14 : decode cX7_line 14 = .ok (.ifCond .ne 5, 3) := by decide +kernel
theorem dX7_line_17 : decode cX7_line 17 = .ok (.iconst (-1), 1) := by decide +kernel
theorem dX7_line_18 : decode cX7_line 18 = .ok (.ireturn, 1) := by decide +kernel
theorem dX7_lay_0 : decode cX7_lay 0 = .ok (.iload_n 1, 1) := by decide +kernel
theorem dX7_lay_1 : decode cX7_lay 1 = .ok (.aload_n 0, 1) := by decide +kernel
theorem dX7_lay_2 : decode cX7_lay 2 = .ok (.getfield 37, 3) := by decide +kernel
theorem dX7_lay_5 : decode cX7_lay 5 = .ok (.getfield 89, 3) := by decide +kernel
theorem dX7_lay_8 : decode cX7_lay 8 = .ok (.getfield 106, 3) := by decide +kernel
set_option maxRecDepth 20000 in
theorem ggX7_lay_X7_within : GoodIn wsX7_lay wsX7_within := goodIn_r _ [11] (by decide +kernel) (by decide +kernel)
set_option maxRecDepth 20000 in
theorem gX7_lay_X7_within : GoodIn wsX7_lay (va_wsS RX7 95 yX7_within wsX7_within) := goodIn_app (goodIn_of _ (by decide +kernel)) ggX7_lay_X7_within
theorem dX7_lay_11 : decode cX7_lay 11 = .ok (.invokestatic 95, 3) := by decide +kernel
theorem dX7_lay_14 : decode cX7_lay 14 = .ok (.ifCond .eq 30, 3) := by decide +kernel
theorem dX7_lay_44 : decode cX7_lay 44 = .ok (.iconst 0, 1) := by decide +kernel
theorem dX7_lay_45 : decode cX7_lay 45 = .ok (.ireturn, 1) := by decide +kernel
theorem dX7_cost_0 : decode cX7_cost 0 = .ok (.iconst 0, 1) := by decide +kernel
theorem dX7_cost_1 : decode cX7_cost 1 = .ok (.istore_n 1, 1) := by decide +kernel
theorem dX7_cost_2 : decode cX7_cost 2 = .ok (.iconst 0, 1) := by decide +kernel
theorem dX7_cost_3 : decode cX7_cost 3 = .ok (.istore_n 2, 1) := by decide +kernel
theorem dX7_cost_4 : decode cX7_cost 4 = .ok (.iload_n 2, 1) := by decide +kernel
theorem dX7_cost_5 : decode cX7_cost 5 = .ok (.aload_n 0, 1) := by decide +kernel
theorem dX7_cost_6 : decode cX7_cost 6 = .ok (.getfield 37, 3) := by decide +kernel
theorem dX7_cost_9 : decode cX7_cost 9 = .ok (.getfield 89, 3) := by decide +kernel
theorem dX7_cost_12 : decode cX7_cost 12 = .ok (.getfield 106, 3) := by decide +kernel
theorem dX7_cost_15 : decode cX7_cost 15 = .ok (.if_icmp .ge 42, 3) := by decide +kernel
theorem dX7_cost_57 : decode cX7_cost 57 = .ok (.iload_n 1, 1) := by decide +kernel
theorem dX7_cost_58 : decode cX7_cost 58 = .ok (.ireturn, 1) := by decide +kernel
theorem dX7_inputs_0 : decode cX7_inputs 0 = .ok (.aload_n 0, 1) := by decide +kernel
theorem dX7_inputs_1 : decode cX7_inputs 1 = .ok (.getfield 37, 3) := by decide +kernel
theorem dX7_inputs_4 : decode cX7_inputs 4 = .ok (.getfield 89, 3) := by decide +kernel
set_option maxRecDepth 20000 in
theorem ggX7_inputs_X2_inputCount : GoodIn wsX7_inputs wsX2_inputCount := goodIn_r _ [7, 8, 9, 10, 11, 6, 12, 13, 14, 15, 16, 17, 18, 41, 42, 43, 44, 45, 46, 47, 48, 49, 50, 51, 52, 53, 54, 55, 56, 57] (by decide +kernel) (by decide +kernel)
set_option maxRecDepth 20000 in
theorem gX7_inputs_X2_inputCount : GoodIn wsX7_inputs (wsV RX7 124 RX2 yX2_inputCount wsX2_inputCount) := goodIn_app (goodIn_of _ (by decide +kernel)) ggX7_inputs_X2_inputCount
theorem dX7_inputs_7 : decode cX7_inputs 7 = .ok (.invokevirtual 124, 3) := by decide +kernel
theorem dX7_inputs_10 : decode cX7_inputs 10 = .ok (.ireturn, 1) := by decide +kernel
theorem dX7_input_0 : decode cX7_input 0 = .ok (.iload_n 1, 1) := by decide +kernel
theorem dX7_input_1 : decode cX7_input 1 = .ok (.aload_n 0, 1) := by decide +kernel
theorem dX7_input_2 : decode cX7_input 2 = .ok (.getfield 37, 3) := by decide +kernel
theorem dX7_input_5 : decode cX7_input 5 = .ok (.getfield 89, 3) := by decide +kernel
set_option maxRecDepth 20000 in
theorem ggX7_input_X2_inputCount : GoodIn wsX7_input wsX2_inputCount := goodIn_r _ [8, 9, 10, 11, 12, 7, 13, 14, 15, 16, 17, 18, 19, 52, 53, 54, 55, 56, 57, 58, 59, 60, 61, 62, 63, 64, 65, 66, 67, 68] (by decide +kernel) (by decide +kernel)
set_option maxRecDepth 20000 in
theorem gX7_input_X2_inputCount : GoodIn wsX7_input (wsV RX7 124 RX2 yX2_inputCount wsX2_inputCount) := goodIn_app (goodIn_of _ (by decide +kernel)) ggX7_input_X2_inputCount
theorem dX7_input_8 : decode cX7_input 8 = .ok (.invokevirtual 124, 3) := by decide +kernel
set_option maxRecDepth 20000 in
theorem ggX7_input_X7_within : GoodIn wsX7_input wsX7_within := goodIn_r _ [23] (by decide +kernel) (by decide +kernel)
set_option maxRecDepth 20000 in
theorem gX7_input_X7_within : GoodIn wsX7_input (va_wsS RX7 95 yX7_within wsX7_within) := goodIn_app (goodIn_of _ (by decide +kernel)) ggX7_input_X7_within
theorem dX7_input_11 : decode cX7_input 11 = .ok (.invokestatic 95, 3) := by decide +kernel
theorem dX7_input_14 : decode cX7_input 14 = .ok (.ifCond .eq 20, 3) := by decide +kernel
theorem dX7_input_34 : decode cX7_input 34 = .ok (.iconst (-1), 1) := by decide +kernel
theorem dX7_input_35 : decode cX7_input 35 = .ok (.ireturn, 1) := by decide +kernel
theorem dX7_input_17 : decode cX7_input 17 = .ok (.iload_n 2, 1) := by decide +kernel
theorem dX7_input_18 : decode cX7_input 18 = .ok (.aload_n 0, 1) := by decide +kernel
theorem dX7_input_19 : decode cX7_input 19 = .ok (.getfield 37, 3) := by decide +kernel
theorem dX7_input_22 : decode cX7_input 22 = .ok (.getfield 89, 3) := by decide +kernel
theorem dX7_input_25 : decode cX7_input 25 = .ok (.getfield 128, 3) := by decide +kernel
theorem dX7_input_28 : decode cX7_input 28 = .ok (.invokestatic 95, 3) := by decide +kernel
theorem dX7_input_31 : decode cX7_input 31 = .ok (.ifCond .ne 5, 3) := by decide +kernel
theorem dX7_begin_0 : decode cX7_begin 0 = .ok (.aload_n 0, 1) := by decide +kernel
theorem dX7_begin_1 : decode cX7_begin 1 = .ok (.iload_n 1, 1) := by decide +kernel
set_option maxRecDepth 20000 in
theorem ggX7_begin_X7_canWalk : GoodIn wsX7_begin wsX7_canWalk := goodIn_r _ [6, 1, 7, 8, 9, 10, 11, 12, 13, 14, 15, 16, 17, 18, 19, 20, 21, 22, 23, 24, 25, 26, 5, 27, 46, 47, 48, 49, 50, 51, 52, 53, 54, 55, 56, 57, 58, 59, 60, 61, 62, 63, 64, 65, 66, 67, 68, 69, 70, 71, 72, 73, 74, 75, 76, 77, 78, 79, 80, 81, 82, 83, 84] (by decide +kernel) (by decide +kernel)
set_option maxRecDepth 20000 in
theorem gX7_begin_X7_canWalk : GoodIn wsX7_begin (wsV RX7 135 RX7 yX7_canWalk wsX7_canWalk) := goodIn_app (goodIn_of _ (by decide +kernel)) ggX7_begin_X7_canWalk
theorem dX7_begin_2 : decode cX7_begin 2 = .ok (.invokevirtual 135, 3) := by decide +kernel
theorem dX7_begin_5 : decode cX7_begin 5 = .ok (.ifCond .ne 5, 3) := by decide +kernel
theorem dX7_begin_8 : decode cX7_begin 8 = .ok (.iconst 0, 1) := by decide +kernel
theorem dX7_begin_9 : decode cX7_begin 9 = .ok (.ireturn, 1) := by decide +kernel
theorem dX1_fallIfHole_0 : decode cX1_fallIfHole 0 = .ok (.aload_n 0, 1) := by decide +kernel
theorem dX1_fallIfHole_1 : decode cX1_fallIfHole 1 = .ok (.getfield 31, 3) := by decide +kernel
theorem dX1_fallIfHole_4 : decode cX1_fallIfHole 4 = .ok (.iconst 1, 1) := by decide +kernel
theorem dX1_fallIfHole_5 : decode cX1_fallIfHole 5 = .ok (.if_icmp .ne 52, 3) := by decide +kernel
theorem dX1_fallIfHole_57 : decode cX1_fallIfHole 57 = .ok (.return_, 1) := by decide +kernel
theorem dX1_step_0 : decode cX1_step 0 = .ok (.aload_n 0, 1) := by decide +kernel
set_option maxRecDepth 20000 in
theorem ggX1_step_X1_fallIfHole : GoodIn wsX1_step wsX1_fallIfHole := goodIn_r _ [12, 1, 5, 2, 3, 4, 6, 13, 14, 15, 16, 17, 18, 11, 19, 20, 21, 22, 63, 64, 65, 66, 67, 68, 69, 70, 71, 72, 73, 74, 75, 76, 77, 78, 79, 80, 81, 82, 83, 84, 85, 86, 87, 88, 89, 90, 91] (by decide +kernel) (by decide +kernel)
set_option maxRecDepth 20000 in
theorem gX1_step_X1_fallIfHole : GoodIn wsX1_step (wsV RX1 89 RX1 yX1_fallIfHole wsX1_fallIfHole) := goodIn_app (goodIn_of _ (by decide +kernel)) ggX1_step_X1_fallIfHole
theorem dX1_step_1 : decode cX1_step 1 = .ok (.invokevirtual 89, 3) := by decide +kernel
theorem dX1_step_4 : decode cX1_step 4 = .ok (.aload_n 0, 1) := by decide +kernel
theorem dX1_step_5 : decode cX1_step 5 = .ok (.getfield 31, 3) := by decide +kernel
theorem dX1_step_8 : decode cX1_step 8 = .ok (.iconst 1, 1) := by decide +kernel
theorem dX1_step_9 : decode cX1_step 9 = .ok (.if_icmp .ne 20, 3) := by decide +kernel
theorem dX1_step_29 : decode cX1_step 29 = .ok (.iconst 0, 1) := by decide +kernel
theorem dX1_step_30 : decode cX1_step 30 = .ok (.ireturn, 1) := by decide +kernel
theorem dX1_go_0 : decode cX1_go 0 = .ok (.iconst 0, 1) := by decide +kernel
theorem dX1_go_1 : decode cX1_go 1 = .ok (.istore_n 2, 1) := by decide +kernel
theorem dX1_go_2 : decode cX1_go 2 = .ok (.iconst 0, 1) := by decide +kernel
theorem dX1_go_3 : decode cX1_go 3 = .ok (.istore_n 3, 1) := by decide +kernel
theorem dX1_go_4 : decode cX1_go 4 = .ok (.iload_n 3, 1) := by decide +kernel
theorem dX1_go_5 : decode cX1_go 5 = .ok (.iload_n 1, 1) := by decide +kernel
theorem dX1_go_6 : decode cX1_go 6 = .ok (.if_icmp .ge 19, 3) := by decide +kernel
theorem dX1_go_25 : decode cX1_go 25 = .ok (.iload_n 2, 1) := by decide +kernel
theorem dX1_go_26 : decode cX1_go 26 = .ok (.ireturn, 1) := by decide +kernel
theorem dX1_go_9 : decode cX1_go 9 = .ok (.aload_n 0, 1) := by decide +kernel
set_option maxRecDepth 20000 in
theorem ggX1_go_X1_step : GoodIn wsX1_go wsX1_step := goodIn_r _ [5, 6, 7, 8, 9, 10, 11, 12, 13, 14, 15, 4, 16, 17, 18, 19, 20, 21, 22, 23, 24, 25, 26, 27, 28, 29, 30, 31, 32, 33, 34, 35, 36, 37, 38, 39, 40, 41, 42, 43, 44, 45, 46, 47, 48, 49, 50, 51, 52, 53, 54, 55, 56, 57, 58, 59, 60, 61, 62, 63, 64, 65, 66, 67, 68, 69, 70, 71, 72, 73, 74, 75, 76, 77, 78, 79, 80, 81, 82, 83, 84, 85, 86, 87, 88, 89, 90, 91, 92, 93, 94, 95] (by decide +kernel) (by decide +kernel)
set_option maxRecDepth 20000 in
theorem gX1_go_X1_step : GoodIn wsX1_go (wsV RX1 85 RX1 yX1_step wsX1_step) := goodIn_app (goodIn_of _ (by decide +kernel)) ggX1_go_X1_step
theorem dX1_go_10 : decode cX1_go 10 = .ok (.invokevirtual 85, 3) := by decide +kernel
theorem dX1_go_13 : decode cX1_go 13 = .ok (.ifCond .eq 12, 3) := by decide +kernel
set_option maxHeartbeats 4000000 in
set_option maxRecDepth 100000 in
theorem c_X7_within0 (l : Launch) (D : va_G) (ak : Nat → ClassId) (ad : Nat → Nat) (sz : Nat) (i : Int32)  : Met l yX7_within wsX7_within ({ frames := 0, cells := 0, slots := 0, locals := 0 }) (cPre D ak ad [.int (i), .int (0)] ([]) sz) (cI D (S := Unit) (fun (r : Int32) (u : Unit) => r = 0) (fun u => []) ([]) sz) 0 0 (va_A ([]) sz) := by
  refine Met.ofW (cc := cX7_within) (maxL := 2) (ret := (some .boolean)) (by decide) rfl ?_
  intro p e s m args below meth c s₁ B hml hv
  obtain ⟨rfl, hsz, hP, hE, hD0, hT⟩ := hv
  have hx := B.exec
  have hb := B.bytes
  have hr := B.returns
  have hts := atoms_spec (ws := wsX7_within) B.pre
  have hown : s.vm.findClass RX7 = some m.cls := findClass_of_methodNamed B.named
  have hlocks := B.notSynchronized
  subst hsz
  have hD := hD0.self (sz := s.heap.size)
  generalize hAe : va_A ([]) s.heap.size = A at hD hT ⊢
  have hA : ∀ q : Nat, s.heap.size ≤ q → A q := fun q h => by rw [← hAe]; exact Or.inr h
  have hS : va_S A s.heap s.heap [] := va_S.rf
  have hl := lv_entry ([.int (i), .int (0)]) (n := 2) (Nat.le_of_ble_eq_true rfl)
  rw [lg_entry_eq]
  generalize (lg_sl ([.int (i), .int (0)]) ++ List.replicate (2 - (lg_sl ([.int (i), .int (0)])).length) Slot.unset).toArray = ls at hl ⊢
  have hl : lv_has ls 2 [(0, .int (i)), (1, .int (0))] := hl
  have hP : va_P D vwCl [] s.heap := hP
  refine lv_iload_n hx hb dX7_within_0 rfl (lv_at hl 0 rfl) ?_
  refine lv_if_lt (tgt := 13) hx hb dX7_within_1 (by decide) (fun c_1 => ?_) (fun c_1 => ?_)
  · refine lv_iconst (v := 0) hx hb dX7_within_13 (by decide) ?_
    have hP9 := hP.sub (ws' := []) [] rfl
    have hD9 := hD.sub (ws' := []) [] (by decide) rfl
    refine W.widen (k := 0) (n := 0) (Nat.le_of_ble_eq_true rfl) (Nat.le_of_ble_eq_true rfl) ?_
    exact W.zret (v := 0) hx hb hr (rfl) (fun t ht hW => ⟨⟨0, (()), rfl, rfl, by rw [ht]; exact hP9, by rw [hAe]; exact hD9⟩, by rw [hAe]; exact hS.F ht⟩) hS.2.2 dX7_within_14
  · refine lv_iload_n hx hb dX7_within_4 rfl (lv_at hl 0 rfl) ?_
    refine lv_iload_n hx hb dX7_within_5 rfl (lv_at hl 1 rfl) ?_
    refine lv_icmp_ge (tgt := 13) hx hb dX7_within_6 (by decide) (fun c_6 => ?_) (fun c_6 => ?_)
    · refine lv_iconst (v := 0) hx hb dX7_within_13 (by decide) ?_
      have hP9 := hP.sub (ws' := []) [] rfl
      have hD9 := hD.sub (ws' := []) [] (by decide) rfl
      refine W.widen (k := 0) (n := 0) (Nat.le_of_ble_eq_true rfl) (Nat.le_of_ble_eq_true rfl) ?_
      exact W.zret (v := 0) hx hb hr (rfl) (fun t ht hW => ⟨⟨0, (()), rfl, rfl, by rw [ht]; exact hP9, by rw [hAe]; exact hD9⟩, by rw [hAe]; exact hS.F ht⟩) hS.2.2 dX7_within_14
    · exact absurd c_6 (fun h => h (Int32.not_lt.mp c_1))

set_option maxHeartbeats 4000000 in
set_option maxRecDepth 100000 in
theorem c_X7_within (l : Launch) (D : va_G) (ak : Nat → ClassId) (ad : Nat → Nat) (sz : Nat) (i : Int32) (n : Int32)  : Met l yX7_within wsX7_within ({ frames := 0, cells := 0, slots := 0, locals := 0 }) (cPre D ak ad [.int (i), .int (n)] ([]) sz) (cI D (S := Unit) (fun (r : Int32) (u : Unit) => (r = 1 ∧ ¬ i < 0 ∧ ¬ n ≤ i) ∨ r = 0) (fun u => []) ([]) sz) 0 0 (va_A ([]) sz) := by
  refine Met.ofW (cc := cX7_within) (maxL := 2) (ret := (some .boolean)) (by decide) rfl ?_
  intro p e s m args below meth c s₁ B hml hv
  obtain ⟨rfl, hsz, hP, hE, hD0, hT⟩ := hv
  have hx := B.exec
  have hb := B.bytes
  have hr := B.returns
  have hts := atoms_spec (ws := wsX7_within) B.pre
  have hown : s.vm.findClass RX7 = some m.cls := findClass_of_methodNamed B.named
  have hlocks := B.notSynchronized
  subst hsz
  have hD := hD0.self (sz := s.heap.size)
  generalize hAe : va_A ([]) s.heap.size = A at hD hT ⊢
  have hA : ∀ q : Nat, s.heap.size ≤ q → A q := fun q h => by rw [← hAe]; exact Or.inr h
  have hS : va_S A s.heap s.heap [] := va_S.rf
  have hl := lv_entry ([.int (i), .int (n)]) (n := 2) (Nat.le_of_ble_eq_true rfl)
  rw [lg_entry_eq]
  generalize (lg_sl ([.int (i), .int (n)]) ++ List.replicate (2 - (lg_sl ([.int (i), .int (n)])).length) Slot.unset).toArray = ls at hl ⊢
  have hl : lv_has ls 2 [(0, .int (i)), (1, .int (n))] := hl
  have hP : va_P D vwCl [] s.heap := hP
  refine lv_iload_n hx hb dX7_within_0 rfl (lv_at hl 0 rfl) ?_
  refine lv_if_lt (tgt := 13) hx hb dX7_within_1 (by decide) (fun c_1 => ?_) (fun c_1 => ?_)
  · refine lv_iconst (v := 0) hx hb dX7_within_13 (by decide) ?_
    have hP9 := hP.sub (ws' := []) [] rfl
    have hD9 := hD.sub (ws' := []) [] (by decide) rfl
    refine W.widen (k := 0) (n := 0) (Nat.le_of_ble_eq_true rfl) (Nat.le_of_ble_eq_true rfl) ?_
    exact W.zret (v := 0) hx hb hr (rfl) (fun t ht hW => ⟨⟨0, (()), rfl, Or.inr rfl, by rw [ht]; exact hP9, by rw [hAe]; exact hD9⟩, by rw [hAe]; exact hS.F ht⟩) hS.2.2 dX7_within_14
  · refine lv_iload_n hx hb dX7_within_4 rfl (lv_at hl 0 rfl) ?_
    refine lv_iload_n hx hb dX7_within_5 rfl (lv_at hl 1 rfl) ?_
    refine lv_icmp_ge (tgt := 13) hx hb dX7_within_6 (by decide) (fun c_6 => ?_) (fun c_6 => ?_)
    · refine lv_iconst (v := 0) hx hb dX7_within_13 (by decide) ?_
      have hP9 := hP.sub (ws' := []) [] rfl
      have hD9 := hD.sub (ws' := []) [] (by decide) rfl
      refine W.widen (k := 0) (n := 0) (Nat.le_of_ble_eq_true rfl) (Nat.le_of_ble_eq_true rfl) ?_
      exact W.zret (v := 0) hx hb hr (rfl) (fun t ht hW => ⟨⟨0, (()), rfl, Or.inr rfl, by rw [ht]; exact hP9, by rw [hAe]; exact hD9⟩, by rw [hAe]; exact hS.F ht⟩) hS.2.2 dX7_within_14
    · refine lv_iconst (v := 1) hx hb dX7_within_9 (by decide) ?_
      refine lv_goto (tgt := 14) hx hb dX7_within_10 (by decide) ?_
      have hP9 := hP.sub (ws' := []) [] rfl
      have hD9 := hD.sub (ws' := []) [] (by decide) rfl
      refine W.widen (k := 0) (n := 0) (Nat.le_of_ble_eq_true rfl) (Nat.le_of_ble_eq_true rfl) ?_
      exact W.zret (v := 1) hx hb hr (rfl) (fun t ht hW => ⟨⟨1, (()), rfl, Or.inl ⟨rfl, c_1, c_6⟩, by rw [ht]; exact hP9, by rw [hAe]; exact hD9⟩, by rw [hAe]; exact hS.F ht⟩) hS.2.2 dX7_within_14

set_option maxHeartbeats 4000000 in
set_option maxRecDepth 100000 in
theorem c_X2_inputCount (l : Launch) (D : va_G) (ak : Nat → ClassId) (ad : Nat → Nat) (sz : Nat) (h0 : Nat) (p1 : Nat) (p2 : Nat) (p4 : Nat) (p6 : Nat) (p7 : Nat) (p8 : Nat) (p10 : Nat) (p11 : Nat) (p12 : Nat) (p13 : Nat) (p14 : Nat) (p15 : Nat) (p16 : Nat)  : Met l yX2_inputCount wsX2_inputCount ({ frames := 0, cells := 0, slots := 0, locals := 0 }) (cPre D ak ad [.ref h0] ([(h0, .inr (2, [.int (0), .ref p1, .ref p2, .int (0), .ref p4, .int (0), .ref p6, .ref p7, .ref p8, .int (0), .ref p10, .ref p11, .ref p12, .ref p13, .ref p14, .ref p15, .ref p16]))]) sz) (cI D (S := Unit) (fun (r : Int32) (u : Unit) => r = 1) (fun u => [(h0, .inr (2, [.int (0), .ref p1, .ref p2, .int (0), .ref p4, .int (0), .ref p6, .ref p7, .ref p8, .int (0), .ref p10, .ref p11, .ref p12, .ref p13, .ref p14, .ref p15, .ref p16]))]) ([(h0, .inr (2, [.int (0), .ref p1, .ref p2, .int (0), .ref p4, .int (0), .ref p6, .ref p7, .ref p8, .int (0), .ref p10, .ref p11, .ref p12, .ref p13, .ref p14, .ref p15, .ref p16]))]) sz) 0 0 (va_A ([(h0, .inr (2, [.int (0), .ref p1, .ref p2, .int (0), .ref p4, .int (0), .ref p6, .ref p7, .ref p8, .int (0), .ref p10, .ref p11, .ref p12, .ref p13, .ref p14, .ref p15, .ref p16]))]) sz) := by
  refine Met.ofW (cc := cX2_inputCount) (maxL := 3) (ret := (some .int)) (by decide) rfl ?_
  intro p e s m args below meth c s₁ B hml hv
  obtain ⟨rfl, hsz, hP, hE, hD0, hT⟩ := hv
  have hx := B.exec
  have hb := B.bytes
  have hr := B.returns
  have hts := atoms_spec (ws := wsX2_inputCount) B.pre
  have hown : s.vm.findClass RX2 = some m.cls := findClass_of_methodNamed B.named
  have hlocks := B.notSynchronized
  subst hsz
  have hD := hD0.self (sz := s.heap.size)
  generalize hAe : va_A ([(h0, .inr (2, [.int (0), .ref p1, .ref p2, .int (0), .ref p4, .int (0), .ref p6, .ref p7, .ref p8, .int (0), .ref p10, .ref p11, .ref p12, .ref p13, .ref p14, .ref p15, .ref p16]))]) s.heap.size = A at hD hT ⊢
  have hA : ∀ q : Nat, s.heap.size ≤ q → A q := fun q h => by rw [← hAe]; exact Or.inr h
  have hS : va_S A s.heap s.heap [] := va_S.rf
  have hl := lv_entry ([.ref h0]) (n := 3) (Nat.le_of_ble_eq_true rfl)
  rw [lg_entry_eq]
  generalize (lg_sl ([.ref h0]) ++ List.replicate (3 - (lg_sl ([.ref h0])).length) Slot.unset).toArray = ls at hl ⊢
  have hl : lv_has ls 3 [(0, .ref h0)] := hl
  have hP : va_P D vwCl [(h0, .inr (2, [.int (0), .ref p1, .ref p2, .int (0), .ref p4, .int (0), .ref p6, .ref p7, .ref p8, .int (0), .ref p10, .ref p11, .ref p12, .ref p13, .ref p14, .ref p15, .ref p16]))] s.heap := hP
  refine lv_iconst (v := 1) hx hb dX2_inputCount_0 (by decide) ?_
  refine lv_istore_n (lv' := [(1, .int (1)), (0, .ref h0)]) hx hb dX2_inputCount_1 rfl hl (by decide) rfl (fun ls hl => ?_)
  refine lv_iconst (v := 0) hx hb dX2_inputCount_2 (by decide) ?_
  refine lv_istore_n (lv' := [(2, .int (0)), (1, .int (1)), (0, .ref h0)]) hx hb dX2_inputCount_3 rfl hl (by decide) rfl (fun ls hl => ?_)
  refine lv_iload_n hx hb dX2_inputCount_4 rfl (lv_at hl 0 rfl) ?_
  refine lv_aload_n hx hb dX2_inputCount_5 rfl (lv_at hl 2 rfl) ?_
  refine va_get (D := D) (ci := 2) (v := .int (0)) (C := RX2) (T := TX2) (N := 17) hx hb hts (fun w h => List.mem_cons_of_mem _ (List.mem_append_right _ h)) hown hE.1 hP 0 rfl rfl 5 (by decide) (hts (.fieldLink RX2 51 "WornLines$Programme" "given" "I") (by decide +kernel)) (fun _ h9 => h9) rfl dX2_inputCount_6 ?_
  refine lv_icmp_ge (tgt := 26) hx hb dX2_inputCount_9 (by decide) (fun c_9 => ?_) (fun c_9 => ?_)
  · refine lv_iload_n hx hb dX2_inputCount_26 rfl (lv_at hl 1 rfl) ?_
    have hP9 := hP.sub (ws' := [(h0, .inr (2, [.int (0), .ref p1, .ref p2, .int (0), .ref p4, .int (0), .ref p6, .ref p7, .ref p8, .int (0), .ref p10, .ref p11, .ref p12, .ref p13, .ref p14, .ref p15, .ref p16]))]) [0] rfl
    have hD9 := hD.sub (ws' := [(h0, .inr (2, [.int (0), .ref p1, .ref p2, .int (0), .ref p4, .int (0), .ref p6, .ref p7, .ref p8, .int (0), .ref p10, .ref p11, .ref p12, .ref p13, .ref p14, .ref p15, .ref p16]))]) [0] (by decide) rfl
    refine W.widen (k := 0) (n := 0) (Nat.le_of_ble_eq_true rfl) (Nat.le_of_ble_eq_true rfl) ?_
    exact W.iret (v := 1) hx hb hr (fun t ht hW => ⟨⟨1, (()), rfl, rfl, by rw [ht]; exact hP9, by rw [hAe]; exact hD9⟩, by rw [hAe]; exact hS.F ht⟩) hS.2.2 dX2_inputCount_27
  · exact absurd c_9 (by decide)

set_option maxHeartbeats 4000000 in
set_option maxRecDepth 100000 in
theorem c_X7_canWalk (l : Launch) (D : va_G) (ak : Nat → ClassId) (ad : Nat → Nat) (sz : Nat) (h0 : Nat) (xt : Nat) (xe : Nat) (xr : Nat) (xh : Nat) (xw : Nat) (xf : Nat) (xm : Nat) (xd : Nat) (xs : Nat) (xl : Nat) (b1 : Nat) (b2 : Nat) (b3 : Nat) (b4 : Nat) (b5 : Nat) (b6 : Nat) (p1 : Nat) (p2 : Nat) (p4 : Nat) (p6 : Nat) (p7 : Nat) (p8 : Nat) (p10 : Nat) (p11 : Nat) (p12 : Nat) (p13 : Nat) (p14 : Nat) (p15 : Nat) (p16 : Nat) (a0 : Int32)  : Met l yX7_canWalk wsX7_canWalk ({ frames := 0, cells := 0, slots := 0, locals := 0 }) (cPre D ak ad [.ref h0, .int (a0)] ([(h0, .inr (6, [.ref xt, .ref xe, .ref xr, .ref xh, .ref xw, .ref xf, .ref xm, .ref xd, .ref xs, .ref xl])), (xh, .inr (1, [.ref xe, .ref b1, .ref b2, .ref b3, .ref b4, .ref b5, .ref b6, .int (0), .int (0), .int (0), .int (0), .int (0)])), (xe, .inr (2, [.int (0), .ref p1, .ref p2, .int (0), .ref p4, .int (0), .ref p6, .ref p7, .ref p8, .int (0), .ref p10, .ref p11, .ref p12, .ref p13, .ref p14, .ref p15, .ref p16]))]) sz) (cI D (S := Unit) (fun (r : Int32) (u : Unit) => r = 0) (fun u => [(h0, .inr (6, [.ref xt, .ref xe, .ref xr, .ref xh, .ref xw, .ref xf, .ref xm, .ref xd, .ref xs, .ref xl])), (xh, .inr (1, [.ref xe, .ref b1, .ref b2, .ref b3, .ref b4, .ref b5, .ref b6, .int (0), .int (0), .int (0), .int (0), .int (0)])), (xe, .inr (2, [.int (0), .ref p1, .ref p2, .int (0), .ref p4, .int (0), .ref p6, .ref p7, .ref p8, .int (0), .ref p10, .ref p11, .ref p12, .ref p13, .ref p14, .ref p15, .ref p16]))]) ([(h0, .inr (6, [.ref xt, .ref xe, .ref xr, .ref xh, .ref xw, .ref xf, .ref xm, .ref xd, .ref xs, .ref xl])), (xh, .inr (1, [.ref xe, .ref b1, .ref b2, .ref b3, .ref b4, .ref b5, .ref b6, .int (0), .int (0), .int (0), .int (0), .int (0)])), (xe, .inr (2, [.int (0), .ref p1, .ref p2, .int (0), .ref p4, .int (0), .ref p6, .ref p7, .ref p8, .int (0), .ref p10, .ref p11, .ref p12, .ref p13, .ref p14, .ref p15, .ref p16]))]) sz) 0 0 (va_A ([(h0, .inr (6, [.ref xt, .ref xe, .ref xr, .ref xh, .ref xw, .ref xf, .ref xm, .ref xd, .ref xs, .ref xl])), (xh, .inr (1, [.ref xe, .ref b1, .ref b2, .ref b3, .ref b4, .ref b5, .ref b6, .int (0), .int (0), .int (0), .int (0), .int (0)])), (xe, .inr (2, [.int (0), .ref p1, .ref p2, .int (0), .ref p4, .int (0), .ref p6, .ref p7, .ref p8, .int (0), .ref p10, .ref p11, .ref p12, .ref p13, .ref p14, .ref p15, .ref p16]))]) sz) := by
  refine Met.ofW (cc := cX7_canWalk) (maxL := 2) (ret := (some .boolean)) (by decide) rfl ?_
  intro p e s m args below meth c s₁ B hml hv
  obtain ⟨rfl, hsz, hP, hE, hD0, hT⟩ := hv
  have hx := B.exec
  have hb := B.bytes
  have hr := B.returns
  have hts := atoms_spec (ws := wsX7_canWalk) B.pre
  have hown : s.vm.findClass RX7 = some m.cls := findClass_of_methodNamed B.named
  have hlocks := B.notSynchronized
  subst hsz
  have hD := hD0.self (sz := s.heap.size)
  generalize hAe : va_A ([(h0, .inr (6, [.ref xt, .ref xe, .ref xr, .ref xh, .ref xw, .ref xf, .ref xm, .ref xd, .ref xs, .ref xl])), (xh, .inr (1, [.ref xe, .ref b1, .ref b2, .ref b3, .ref b4, .ref b5, .ref b6, .int (0), .int (0), .int (0), .int (0), .int (0)])), (xe, .inr (2, [.int (0), .ref p1, .ref p2, .int (0), .ref p4, .int (0), .ref p6, .ref p7, .ref p8, .int (0), .ref p10, .ref p11, .ref p12, .ref p13, .ref p14, .ref p15, .ref p16]))]) s.heap.size = A at hD hT ⊢
  have hA : ∀ q : Nat, s.heap.size ≤ q → A q := fun q h => by rw [← hAe]; exact Or.inr h
  have hS : va_S A s.heap s.heap [] := va_S.rf
  have hl := lv_entry ([.ref h0, .int (a0)]) (n := 2) (Nat.le_of_ble_eq_true rfl)
  rw [lg_entry_eq]
  generalize (lg_sl ([.ref h0, .int (a0)]) ++ List.replicate (2 - (lg_sl ([.ref h0, .int (a0)])).length) Slot.unset).toArray = ls at hl ⊢
  have hl : lv_has ls 2 [(0, .ref h0), (1, .int (a0))] := hl
  have hP : va_P D vwCl [(h0, .inr (6, [.ref xt, .ref xe, .ref xr, .ref xh, .ref xw, .ref xf, .ref xm, .ref xd, .ref xs, .ref xl])), (xh, .inr (1, [.ref xe, .ref b1, .ref b2, .ref b3, .ref b4, .ref b5, .ref b6, .int (0), .int (0), .int (0), .int (0), .int (0)])), (xe, .inr (2, [.int (0), .ref p1, .ref p2, .int (0), .ref p4, .int (0), .ref p6, .ref p7, .ref p8, .int (0), .ref p10, .ref p11, .ref p12, .ref p13, .ref p14, .ref p15, .ref p16]))] s.heap := hP
  refine lv_aload_n hx hb dX7_canWalk_0 rfl (lv_at hl 0 rfl) ?_
  refine va_get (D := D) (ci := 6) (v := .ref xh) (C := RX7) (T := TX7) (N := 10) hx hb hts (fun w h => List.mem_cons_of_mem _ (List.mem_append_left _ (List.mem_append_left _ (List.mem_append_right _ h)))) hown hE.1 hP 0 rfl rfl 3 (by decide) (hts (.fieldLink RX7 37 "WornLines" "hand" "LWornLines$Machine;") (by decide +kernel)) (fun _ h9 => h9) rfl dX7_canWalk_1 ?_
  refine va_get (D := D) (ci := 1) (v := .ref xe) (C := RX1) (T := TX1) (N := 12) hx hb hts (fun w h => List.mem_cons_of_mem _ (List.mem_append_left _ (List.mem_append_right _ h))) hown hE.1 hP 1 rfl rfl 0 (by decide) (hts (.fieldLink RX7 89 "WornLines$Machine" "programme" "LWornLines$Programme;") (by decide +kernel)) (fun _ h9 => h9) rfl dX7_canWalk_4 ?_
  refine va_get (D := D) (ci := 2) (v := .int (0)) (C := RX2) (T := TX2) (N := 17) hx hb hts (fun w h => List.mem_cons_of_mem _ (List.mem_append_right _ h)) hown hE.1 hP 2 rfl rfl 9 (by decide) (hts (.fieldLink RX7 106 "WornLines$Programme" "lines" "I") (by decide +kernel)) (fun _ h9 => h9) rfl dX7_canWalk_7 ?_
  refine lv_if_le (tgt := 34) hx hb dX7_canWalk_10 (by decide) (fun c_10 => ?_) (fun c_10 => ?_)
  · refine lv_iconst (v := 0) hx hb dX7_canWalk_34 (by decide) ?_
    have hP9 := hP.sub (ws' := [(h0, .inr (6, [.ref xt, .ref xe, .ref xr, .ref xh, .ref xw, .ref xf, .ref xm, .ref xd, .ref xs, .ref xl])), (xh, .inr (1, [.ref xe, .ref b1, .ref b2, .ref b3, .ref b4, .ref b5, .ref b6, .int (0), .int (0), .int (0), .int (0), .int (0)])), (xe, .inr (2, [.int (0), .ref p1, .ref p2, .int (0), .ref p4, .int (0), .ref p6, .ref p7, .ref p8, .int (0), .ref p10, .ref p11, .ref p12, .ref p13, .ref p14, .ref p15, .ref p16]))]) [0, 1, 2] rfl
    have hD9 := hD.sub (ws' := [(h0, .inr (6, [.ref xt, .ref xe, .ref xr, .ref xh, .ref xw, .ref xf, .ref xm, .ref xd, .ref xs, .ref xl])), (xh, .inr (1, [.ref xe, .ref b1, .ref b2, .ref b3, .ref b4, .ref b5, .ref b6, .int (0), .int (0), .int (0), .int (0), .int (0)])), (xe, .inr (2, [.int (0), .ref p1, .ref p2, .int (0), .ref p4, .int (0), .ref p6, .ref p7, .ref p8, .int (0), .ref p10, .ref p11, .ref p12, .ref p13, .ref p14, .ref p15, .ref p16]))]) [0, 1, 2] (by decide) rfl
    refine W.widen (k := 0) (n := 0) (Nat.le_of_ble_eq_true rfl) (Nat.le_of_ble_eq_true rfl) ?_
    exact W.zret (v := 0) hx hb hr (rfl) (fun t ht hW => ⟨⟨0, (()), rfl, rfl, by rw [ht]; exact hP9, by rw [hAe]; exact hD9⟩, by rw [hAe]; exact hS.F ht⟩) hS.2.2 dX7_canWalk_35
  · exact absurd c_10 (by decide)

set_option maxHeartbeats 4000000 in
set_option maxRecDepth 100000 in
theorem c_X7_stuff (l : Launch) (D : va_G) (ak : Nat → ClassId) (ad : Nat → Nat) (sz : Nat) (h0 : Nat) (xt : Nat) (xe : Nat) (xr : Nat) (xh : Nat) (xw : Nat) (xf : Nat) (xm : Nat) (xd : Nat) (xs : Nat) (xl : Nat) (b1 : Nat) (b2 : Nat) (b3 : Nat) (b4 : Nat) (b5 : Nat) (b6 : Nat) (p1 : Nat) (p2 : Nat) (p4 : Nat) (p6 : Nat) (p7 : Nat) (p8 : Nat) (p10 : Nat) (p11 : Nat) (p12 : Nat) (p13 : Nat) (p14 : Nat) (p15 : Nat) (p16 : Nat) (a0 : Int32) (a1 : Int32)  : Met l yX7_stuff wsX7_stuff ({ frames := 1, cells := 0, slots := 0, locals := 21 }) (cPre D ak ad [.ref h0, .int (a0), .int (a1)] ([(h0, .inr (6, [.ref xt, .ref xe, .ref xr, .ref xh, .ref xw, .ref xf, .ref xm, .ref xd, .ref xs, .ref xl])), (xh, .inr (1, [.ref xe, .ref b1, .ref b2, .ref b3, .ref b4, .ref b5, .ref b6, .int (0), .int (0), .int (0), .int (0), .int (0)])), (xe, .inr (2, [.int (0), .ref p1, .ref p2, .int (0), .ref p4, .int (0), .ref p6, .ref p7, .ref p8, .int (0), .ref p10, .ref p11, .ref p12, .ref p13, .ref p14, .ref p15, .ref p16]))]) sz) (cI D (S := Unit) (fun (r : Int32) (u : Unit) => r = (-1)) (fun u => []) ([(h0, .inr (6, [.ref xt, .ref xe, .ref xr, .ref xh, .ref xw, .ref xf, .ref xm, .ref xd, .ref xs, .ref xl])), (xh, .inr (1, [.ref xe, .ref b1, .ref b2, .ref b3, .ref b4, .ref b5, .ref b6, .int (0), .int (0), .int (0), .int (0), .int (0)])), (xe, .inr (2, [.int (0), .ref p1, .ref p2, .int (0), .ref p4, .int (0), .ref p6, .ref p7, .ref p8, .int (0), .ref p10, .ref p11, .ref p12, .ref p13, .ref p14, .ref p15, .ref p16]))]) sz) 0 0 (va_A ([(h0, .inr (6, [.ref xt, .ref xe, .ref xr, .ref xh, .ref xw, .ref xf, .ref xm, .ref xd, .ref xs, .ref xl])), (xh, .inr (1, [.ref xe, .ref b1, .ref b2, .ref b3, .ref b4, .ref b5, .ref b6, .int (0), .int (0), .int (0), .int (0), .int (0)])), (xe, .inr (2, [.int (0), .ref p1, .ref p2, .int (0), .ref p4, .int (0), .ref p6, .ref p7, .ref p8, .int (0), .ref p10, .ref p11, .ref p12, .ref p13, .ref p14, .ref p15, .ref p16]))]) sz) := by
  refine Met.ofW (cc := cX7_stuff) (maxL := 3) (ret := (some .int)) (by decide) rfl ?_
  intro p e s m args below meth c s₁ B hml hv
  obtain ⟨rfl, hsz, hP, hE, hD0, hT⟩ := hv
  have hx := B.exec
  have hb := B.bytes
  have hr := B.returns
  have hts := atoms_spec (ws := wsX7_stuff) B.pre
  have hown : s.vm.findClass RX7 = some m.cls := findClass_of_methodNamed B.named
  have hlocks := B.notSynchronized
  subst hsz
  have hD := hD0.self (sz := s.heap.size)
  generalize hAe : va_A ([(h0, .inr (6, [.ref xt, .ref xe, .ref xr, .ref xh, .ref xw, .ref xf, .ref xm, .ref xd, .ref xs, .ref xl])), (xh, .inr (1, [.ref xe, .ref b1, .ref b2, .ref b3, .ref b4, .ref b5, .ref b6, .int (0), .int (0), .int (0), .int (0), .int (0)])), (xe, .inr (2, [.int (0), .ref p1, .ref p2, .int (0), .ref p4, .int (0), .ref p6, .ref p7, .ref p8, .int (0), .ref p10, .ref p11, .ref p12, .ref p13, .ref p14, .ref p15, .ref p16]))]) s.heap.size = A at hD hT ⊢
  have hA : ∀ q : Nat, s.heap.size ≤ q → A q := fun q h => by rw [← hAe]; exact Or.inr h
  have hS : va_S A s.heap s.heap [] := va_S.rf
  have hl := lv_entry ([.ref h0, .int (a0), .int (a1)]) (n := 3) (Nat.le_of_ble_eq_true rfl)
  rw [lg_entry_eq]
  generalize (lg_sl ([.ref h0, .int (a0), .int (a1)]) ++ List.replicate (3 - (lg_sl ([.ref h0, .int (a0), .int (a1)])).length) Slot.unset).toArray = ls at hl ⊢
  have hl : lv_has ls 3 [(0, .ref h0), (1, .int (a0)), (2, .int (a1))] := hl
  have hP : va_P D vwCl [(h0, .inr (6, [.ref xt, .ref xe, .ref xr, .ref xh, .ref xw, .ref xf, .ref xm, .ref xd, .ref xs, .ref xl])), (xh, .inr (1, [.ref xe, .ref b1, .ref b2, .ref b3, .ref b4, .ref b5, .ref b6, .int (0), .int (0), .int (0), .int (0), .int (0)])), (xe, .inr (2, [.int (0), .ref p1, .ref p2, .int (0), .ref p4, .int (0), .ref p6, .ref p7, .ref p8, .int (0), .ref p10, .ref p11, .ref p12, .ref p13, .ref p14, .ref p15, .ref p16]))] s.heap := hP
  refine lv_iload_n hx hb dX7_stuff_0 rfl (lv_at hl 1 rfl) ?_
  refine lv_aload_n hx hb dX7_stuff_1 rfl (lv_at hl 0 rfl) ?_
  refine va_get (D := D) (ci := 6) (v := .ref xh) (C := RX7) (T := TX7) (N := 10) hx hb hts (fun w h => List.mem_cons_of_mem _ (List.mem_append_left _ (List.mem_append_left _ (List.mem_append_right _ h)))) hown hE.1 hP 0 rfl rfl 3 (by decide) (hts (.fieldLink RX7 37 "WornLines" "hand" "LWornLines$Machine;") (by decide +kernel)) (fun _ h9 => h9) rfl dX7_stuff_2 ?_
  refine va_get (D := D) (ci := 1) (v := .ref xe) (C := RX1) (T := TX1) (N := 12) hx hb hts (fun w h => List.mem_cons_of_mem _ (List.mem_append_left _ (List.mem_append_right _ h))) hown hE.1 hP 1 rfl rfl 0 (by decide) (hts (.fieldLink RX7 89 "WornLines$Machine" "programme" "LWornLines$Programme;") (by decide +kernel)) (fun _ h9 => h9) rfl dX7_stuff_5 ?_
  refine va_get (D := D) (ci := 2) (v := .int (0)) (C := RX2) (T := TX2) (N := 17) hx hb hts (fun w h => List.mem_cons_of_mem _ (List.mem_append_right _ h)) hown hE.1 hP 2 rfl rfl 0 (by decide) (hts (.fieldLink RX7 92 "WornLines$Programme" "stuffs" "I") (by decide +kernel)) (fun _ h9 => h9) rfl dX7_stuff_8 ?_
  refine kc_i (wc := []) (wr := [(h0, .inr (6, [.ref xt, .ref xe, .ref xr, .ref xh, .ref xw, .ref xf, .ref xm, .ref xd, .ref xs, .ref xl])), (xh, .inr (1, [.ref xe, .ref b1, .ref b2, .ref b3, .ref b4, .ref b5, .ref b6, .int (0), .int (0), .int (0), .int (0), .int (0)])), (xe, .inr (2, [.int (0), .ref p1, .ref p2, .int (0), .ref p4, .int (0), .ref p6, .ref p7, .ref p8, .int (0), .ref p10, .ref p11, .ref p12, .ref p13, .ref p14, .ref p15, .ref p16]))]) hP hD hS hA [] [0, 1, 2] rfl rfl (by decide) (by decide) (va_runS (As := [.int (a0), .int (0)]) (rest := []) ⟨hx, hb, hml, hown, hts⟩ (c_X7_within0 l D ak ad _ (a0) ) (va_cwS 2 hts gX7_stuff_X7_within rfl rfl rfl (by decide +kernel) ⟨Nat.le_of_ble_eq_true rfl, Nat.le_of_ble_eq_true rfl⟩) (kc_pre (As := [.int (a0), .int (0)]) (wc := []) hE hT hP hD hS hA [] (by decide) rfl rfl) rfl rfl hl.1 rfl (lv_room (Nat.le_of_ble_eq_true rfl)) dX7_stuff_11 ⟨Nat.le_of_ble_eq_true rfl, Nat.le_of_ble_eq_true rfl⟩) (fun r_2 u_0 H locs hw_2 hP hD hS => ?_)
  have hP : va_P D vwCl [(h0, .inr (6, [.ref xt, .ref xe, .ref xr, .ref xh, .ref xw, .ref xf, .ref xm, .ref xd, .ref xs, .ref xl])), (xh, .inr (1, [.ref xe, .ref b1, .ref b2, .ref b3, .ref b4, .ref b5, .ref b6, .int (0), .int (0), .int (0), .int (0), .int (0)])), (xe, .inr (2, [.int (0), .ref p1, .ref p2, .int (0), .ref p4, .int (0), .ref p6, .ref p7, .ref p8, .int (0), .ref p10, .ref p11, .ref p12, .ref p13, .ref p14, .ref p15, .ref p16]))] H := hP
  have hD : va_D A [(h0, .inr (6, [.ref xt, .ref xe, .ref xr, .ref xh, .ref xw, .ref xf, .ref xm, .ref xd, .ref xs, .ref xl])), (xh, .inr (1, [.ref xe, .ref b1, .ref b2, .ref b3, .ref b4, .ref b5, .ref b6, .int (0), .int (0), .int (0), .int (0), .int (0)])), (xe, .inr (2, [.int (0), .ref p1, .ref p2, .int (0), .ref p4, .int (0), .ref p6, .ref p7, .ref p8, .int (0), .ref p10, .ref p11, .ref p12, .ref p13, .ref p14, .ref p15, .ref p16]))] := hD
  subst hw_2
  refine lv_if_ne (tgt := 19) hx hb dX7_stuff_14 (by decide) (fun c_14 => ?_) (fun c_14 => ?_)
  · exact absurd c_14 (by decide)
  · refine lv_iconst (v := (-1)) hx hb dX7_stuff_17 (by decide) ?_
    have hP9 := hP.sub (ws' := []) [] rfl
    have hD9 := hD.sub (ws' := []) [] (by decide) rfl
    refine W.widen (k := 0) (n := 0) (Nat.le_of_ble_eq_true rfl) (Nat.le_of_ble_eq_true rfl) ?_
    exact W.iret (v := -1) hx hb hr (fun t ht hW => ⟨⟨-1, (()), rfl, rfl, by rw [ht]; exact hP9, by rw [hAe]; exact hD9⟩, by rw [hAe]; exact hS.F ht⟩) hS.2.2 dX7_stuff_18

set_option maxHeartbeats 4000000 in
set_option maxRecDepth 100000 in
theorem c_X7_line (l : Launch) (D : va_G) (ak : Nat → ClassId) (ad : Nat → Nat) (sz : Nat) (h0 : Nat) (xt : Nat) (xe : Nat) (xr : Nat) (xh : Nat) (xw : Nat) (xf : Nat) (xm : Nat) (xd : Nat) (xs : Nat) (xl : Nat) (b1 : Nat) (b2 : Nat) (b3 : Nat) (b4 : Nat) (b5 : Nat) (b6 : Nat) (p1 : Nat) (p2 : Nat) (p4 : Nat) (p6 : Nat) (p7 : Nat) (p8 : Nat) (p10 : Nat) (p11 : Nat) (p12 : Nat) (p13 : Nat) (p14 : Nat) (p15 : Nat) (p16 : Nat) (a0 : Int32) (a1 : Int32)  : Met l yX7_line wsX7_line ({ frames := 1, cells := 0, slots := 0, locals := 21 }) (cPre D ak ad [.ref h0, .int (a0), .int (a1)] ([(h0, .inr (6, [.ref xt, .ref xe, .ref xr, .ref xh, .ref xw, .ref xf, .ref xm, .ref xd, .ref xs, .ref xl])), (xh, .inr (1, [.ref xe, .ref b1, .ref b2, .ref b3, .ref b4, .ref b5, .ref b6, .int (0), .int (0), .int (0), .int (0), .int (0)])), (xe, .inr (2, [.int (0), .ref p1, .ref p2, .int (0), .ref p4, .int (0), .ref p6, .ref p7, .ref p8, .int (0), .ref p10, .ref p11, .ref p12, .ref p13, .ref p14, .ref p15, .ref p16]))]) sz) (cI D (S := Unit) (fun (r : Int32) (u : Unit) => r = (-1)) (fun u => []) ([(h0, .inr (6, [.ref xt, .ref xe, .ref xr, .ref xh, .ref xw, .ref xf, .ref xm, .ref xd, .ref xs, .ref xl])), (xh, .inr (1, [.ref xe, .ref b1, .ref b2, .ref b3, .ref b4, .ref b5, .ref b6, .int (0), .int (0), .int (0), .int (0), .int (0)])), (xe, .inr (2, [.int (0), .ref p1, .ref p2, .int (0), .ref p4, .int (0), .ref p6, .ref p7, .ref p8, .int (0), .ref p10, .ref p11, .ref p12, .ref p13, .ref p14, .ref p15, .ref p16]))]) sz) 0 0 (va_A ([(h0, .inr (6, [.ref xt, .ref xe, .ref xr, .ref xh, .ref xw, .ref xf, .ref xm, .ref xd, .ref xs, .ref xl])), (xh, .inr (1, [.ref xe, .ref b1, .ref b2, .ref b3, .ref b4, .ref b5, .ref b6, .int (0), .int (0), .int (0), .int (0), .int (0)])), (xe, .inr (2, [.int (0), .ref p1, .ref p2, .int (0), .ref p4, .int (0), .ref p6, .ref p7, .ref p8, .int (0), .ref p10, .ref p11, .ref p12, .ref p13, .ref p14, .ref p15, .ref p16]))]) sz) := by
  refine Met.ofW (cc := cX7_line) (maxL := 3) (ret := (some .int)) (by decide) rfl ?_
  intro p e s m args below meth c s₁ B hml hv
  obtain ⟨rfl, hsz, hP, hE, hD0, hT⟩ := hv
  have hx := B.exec
  have hb := B.bytes
  have hr := B.returns
  have hts := atoms_spec (ws := wsX7_line) B.pre
  have hown : s.vm.findClass RX7 = some m.cls := findClass_of_methodNamed B.named
  have hlocks := B.notSynchronized
  subst hsz
  have hD := hD0.self (sz := s.heap.size)
  generalize hAe : va_A ([(h0, .inr (6, [.ref xt, .ref xe, .ref xr, .ref xh, .ref xw, .ref xf, .ref xm, .ref xd, .ref xs, .ref xl])), (xh, .inr (1, [.ref xe, .ref b1, .ref b2, .ref b3, .ref b4, .ref b5, .ref b6, .int (0), .int (0), .int (0), .int (0), .int (0)])), (xe, .inr (2, [.int (0), .ref p1, .ref p2, .int (0), .ref p4, .int (0), .ref p6, .ref p7, .ref p8, .int (0), .ref p10, .ref p11, .ref p12, .ref p13, .ref p14, .ref p15, .ref p16]))]) s.heap.size = A at hD hT ⊢
  have hA : ∀ q : Nat, s.heap.size ≤ q → A q := fun q h => by rw [← hAe]; exact Or.inr h
  have hS : va_S A s.heap s.heap [] := va_S.rf
  have hl := lv_entry ([.ref h0, .int (a0), .int (a1)]) (n := 3) (Nat.le_of_ble_eq_true rfl)
  rw [lg_entry_eq]
  generalize (lg_sl ([.ref h0, .int (a0), .int (a1)]) ++ List.replicate (3 - (lg_sl ([.ref h0, .int (a0), .int (a1)])).length) Slot.unset).toArray = ls at hl ⊢
  have hl : lv_has ls 3 [(0, .ref h0), (1, .int (a0)), (2, .int (a1))] := hl
  have hP : va_P D vwCl [(h0, .inr (6, [.ref xt, .ref xe, .ref xr, .ref xh, .ref xw, .ref xf, .ref xm, .ref xd, .ref xs, .ref xl])), (xh, .inr (1, [.ref xe, .ref b1, .ref b2, .ref b3, .ref b4, .ref b5, .ref b6, .int (0), .int (0), .int (0), .int (0), .int (0)])), (xe, .inr (2, [.int (0), .ref p1, .ref p2, .int (0), .ref p4, .int (0), .ref p6, .ref p7, .ref p8, .int (0), .ref p10, .ref p11, .ref p12, .ref p13, .ref p14, .ref p15, .ref p16]))] s.heap := hP
  refine lv_iload_n hx hb dX7_line_0 rfl (lv_at hl 1 rfl) ?_
  refine lv_aload_n hx hb dX7_line_1 rfl (lv_at hl 0 rfl) ?_
  refine va_get (D := D) (ci := 6) (v := .ref xh) (C := RX7) (T := TX7) (N := 10) hx hb hts (fun w h => List.mem_cons_of_mem _ (List.mem_append_left _ (List.mem_append_left _ (List.mem_append_right _ h)))) hown hE.1 hP 0 rfl rfl 3 (by decide) (hts (.fieldLink RX7 37 "WornLines" "hand" "LWornLines$Machine;") (by decide +kernel)) (fun _ h9 => h9) rfl dX7_line_2 ?_
  refine va_get (D := D) (ci := 1) (v := .ref xe) (C := RX1) (T := TX1) (N := 12) hx hb hts (fun w h => List.mem_cons_of_mem _ (List.mem_append_left _ (List.mem_append_right _ h))) hown hE.1 hP 1 rfl rfl 0 (by decide) (hts (.fieldLink RX7 89 "WornLines$Machine" "programme" "LWornLines$Programme;") (by decide +kernel)) (fun _ h9 => h9) rfl dX7_line_5 ?_
  refine va_get (D := D) (ci := 2) (v := .int (0)) (C := RX2) (T := TX2) (N := 17) hx hb hts (fun w h => List.mem_cons_of_mem _ (List.mem_append_right _ h)) hown hE.1 hP 2 rfl rfl 9 (by decide) (hts (.fieldLink RX7 106 "WornLines$Programme" "lines" "I") (by decide +kernel)) (fun _ h9 => h9) rfl dX7_line_8 ?_
  refine kc_i (wc := []) (wr := [(h0, .inr (6, [.ref xt, .ref xe, .ref xr, .ref xh, .ref xw, .ref xf, .ref xm, .ref xd, .ref xs, .ref xl])), (xh, .inr (1, [.ref xe, .ref b1, .ref b2, .ref b3, .ref b4, .ref b5, .ref b6, .int (0), .int (0), .int (0), .int (0), .int (0)])), (xe, .inr (2, [.int (0), .ref p1, .ref p2, .int (0), .ref p4, .int (0), .ref p6, .ref p7, .ref p8, .int (0), .ref p10, .ref p11, .ref p12, .ref p13, .ref p14, .ref p15, .ref p16]))]) hP hD hS hA [] [0, 1, 2] rfl rfl (by decide) (by decide) (va_runS (As := [.int (a0), .int (0)]) (rest := []) ⟨hx, hb, hml, hown, hts⟩ (c_X7_within0 l D ak ad _ (a0) ) (va_cwS 2 hts gX7_line_X7_within rfl rfl rfl (by decide +kernel) ⟨Nat.le_of_ble_eq_true rfl, Nat.le_of_ble_eq_true rfl⟩) (kc_pre (As := [.int (a0), .int (0)]) (wc := []) hE hT hP hD hS hA [] (by decide) rfl rfl) rfl rfl hl.1 rfl (lv_room (Nat.le_of_ble_eq_true rfl)) dX7_line_11 ⟨Nat.le_of_ble_eq_true rfl, Nat.le_of_ble_eq_true rfl⟩) (fun r_2 u_0 H locs hw_2 hP hD hS => ?_)
  have hP : va_P D vwCl [(h0, .inr (6, [.ref xt, .ref xe, .ref xr, .ref xh, .ref xw, .ref xf, .ref xm, .ref xd, .ref xs, .ref xl])), (xh, .inr (1, [.ref xe, .ref b1, .ref b2, .ref b3, .ref b4, .ref b5, .ref b6, .int (0), .int (0), .int (0), .int (0), .int (0)])), (xe, .inr (2, [.int (0), .ref p1, .ref p2, .int (0), .ref p4, .int (0), .ref p6, .ref p7, .ref p8, .int (0), .ref p10, .ref p11, .ref p12, .ref p13, .ref p14, .ref p15, .ref p16]))] H := hP
  have hD : va_D A [(h0, .inr (6, [.ref xt, .ref xe, .ref xr, .ref xh, .ref xw, .ref xf, .ref xm, .ref xd, .ref xs, .ref xl])), (xh, .inr (1, [.ref xe, .ref b1, .ref b2, .ref b3, .ref b4, .ref b5, .ref b6, .int (0), .int (0), .int (0), .int (0), .int (0)])), (xe, .inr (2, [.int (0), .ref p1, .ref p2, .int (0), .ref p4, .int (0), .ref p6, .ref p7, .ref p8, .int (0), .ref p10, .ref p11, .ref p12, .ref p13, .ref p14, .ref p15, .ref p16]))] := hD
  subst hw_2
  refine lv_if_ne (tgt := 19) hx hb dX7_line_14 (by decide) (fun c_14 => ?_) (fun c_14 => ?_)
  · exact absurd c_14 (by decide)
  · refine lv_iconst (v := (-1)) hx hb dX7_line_17 (by decide) ?_
    have hP9 := hP.sub (ws' := []) [] rfl
    have hD9 := hD.sub (ws' := []) [] (by decide) rfl
    refine W.widen (k := 0) (n := 0) (Nat.le_of_ble_eq_true rfl) (Nat.le_of_ble_eq_true rfl) ?_
    exact W.iret (v := -1) hx hb hr (fun t ht hW => ⟨⟨-1, (()), rfl, rfl, by rw [ht]; exact hP9, by rw [hAe]; exact hD9⟩, by rw [hAe]; exact hS.F ht⟩) hS.2.2 dX7_line_18

set_option maxHeartbeats 4000000 in
set_option maxRecDepth 100000 in
theorem c_X7_lay (l : Launch) (D : va_G) (ak : Nat → ClassId) (ad : Nat → Nat) (sz : Nat) (h0 : Nat) (xt : Nat) (xe : Nat) (xr : Nat) (xh : Nat) (xw : Nat) (xf : Nat) (xm : Nat) (xd : Nat) (xs : Nat) (xl : Nat) (b1 : Nat) (b2 : Nat) (b3 : Nat) (b4 : Nat) (b5 : Nat) (b6 : Nat) (p1 : Nat) (p2 : Nat) (p4 : Nat) (p6 : Nat) (p7 : Nat) (p8 : Nat) (p10 : Nat) (p11 : Nat) (p12 : Nat) (p13 : Nat) (p14 : Nat) (p15 : Nat) (p16 : Nat) (a0 : Int32) (a1 : Int32) (a2 : Int32)  : Met l yX7_lay wsX7_lay ({ frames := 1, cells := 0, slots := 0, locals := 21 }) (cPre D ak ad [.ref h0, .int (a0), .int (a1), .int (a2)] ([(h0, .inr (6, [.ref xt, .ref xe, .ref xr, .ref xh, .ref xw, .ref xf, .ref xm, .ref xd, .ref xs, .ref xl])), (xh, .inr (1, [.ref xe, .ref b1, .ref b2, .ref b3, .ref b4, .ref b5, .ref b6, .int (0), .int (0), .int (0), .int (0), .int (0)])), (xe, .inr (2, [.int (0), .ref p1, .ref p2, .int (0), .ref p4, .int (0), .ref p6, .ref p7, .ref p8, .int (0), .ref p10, .ref p11, .ref p12, .ref p13, .ref p14, .ref p15, .ref p16]))]) sz) (cI D (S := Unit) (fun (r : Int32) (u : Unit) => r = 0) (fun u => []) ([(h0, .inr (6, [.ref xt, .ref xe, .ref xr, .ref xh, .ref xw, .ref xf, .ref xm, .ref xd, .ref xs, .ref xl])), (xh, .inr (1, [.ref xe, .ref b1, .ref b2, .ref b3, .ref b4, .ref b5, .ref b6, .int (0), .int (0), .int (0), .int (0), .int (0)])), (xe, .inr (2, [.int (0), .ref p1, .ref p2, .int (0), .ref p4, .int (0), .ref p6, .ref p7, .ref p8, .int (0), .ref p10, .ref p11, .ref p12, .ref p13, .ref p14, .ref p15, .ref p16]))]) sz) 0 0 (va_A ([(h0, .inr (6, [.ref xt, .ref xe, .ref xr, .ref xh, .ref xw, .ref xf, .ref xm, .ref xd, .ref xs, .ref xl])), (xh, .inr (1, [.ref xe, .ref b1, .ref b2, .ref b3, .ref b4, .ref b5, .ref b6, .int (0), .int (0), .int (0), .int (0), .int (0)])), (xe, .inr (2, [.int (0), .ref p1, .ref p2, .int (0), .ref p4, .int (0), .ref p6, .ref p7, .ref p8, .int (0), .ref p10, .ref p11, .ref p12, .ref p13, .ref p14, .ref p15, .ref p16]))]) sz) := by
  refine Met.ofW (cc := cX7_lay) (maxL := 4) (ret := (some .boolean)) (by decide) rfl ?_
  intro p e s m args below meth c s₁ B hml hv
  obtain ⟨rfl, hsz, hP, hE, hD0, hT⟩ := hv
  have hx := B.exec
  have hb := B.bytes
  have hr := B.returns
  have hts := atoms_spec (ws := wsX7_lay) B.pre
  have hown : s.vm.findClass RX7 = some m.cls := findClass_of_methodNamed B.named
  have hlocks := B.notSynchronized
  subst hsz
  have hD := hD0.self (sz := s.heap.size)
  generalize hAe : va_A ([(h0, .inr (6, [.ref xt, .ref xe, .ref xr, .ref xh, .ref xw, .ref xf, .ref xm, .ref xd, .ref xs, .ref xl])), (xh, .inr (1, [.ref xe, .ref b1, .ref b2, .ref b3, .ref b4, .ref b5, .ref b6, .int (0), .int (0), .int (0), .int (0), .int (0)])), (xe, .inr (2, [.int (0), .ref p1, .ref p2, .int (0), .ref p4, .int (0), .ref p6, .ref p7, .ref p8, .int (0), .ref p10, .ref p11, .ref p12, .ref p13, .ref p14, .ref p15, .ref p16]))]) s.heap.size = A at hD hT ⊢
  have hA : ∀ q : Nat, s.heap.size ≤ q → A q := fun q h => by rw [← hAe]; exact Or.inr h
  have hS : va_S A s.heap s.heap [] := va_S.rf
  have hl := lv_entry ([.ref h0, .int (a0), .int (a1), .int (a2)]) (n := 4) (Nat.le_of_ble_eq_true rfl)
  rw [lg_entry_eq]
  generalize (lg_sl ([.ref h0, .int (a0), .int (a1), .int (a2)]) ++ List.replicate (4 - (lg_sl ([.ref h0, .int (a0), .int (a1), .int (a2)])).length) Slot.unset).toArray = ls at hl ⊢
  have hl : lv_has ls 4 [(0, .ref h0), (1, .int (a0)), (2, .int (a1)), (3, .int (a2))] := hl
  have hP : va_P D vwCl [(h0, .inr (6, [.ref xt, .ref xe, .ref xr, .ref xh, .ref xw, .ref xf, .ref xm, .ref xd, .ref xs, .ref xl])), (xh, .inr (1, [.ref xe, .ref b1, .ref b2, .ref b3, .ref b4, .ref b5, .ref b6, .int (0), .int (0), .int (0), .int (0), .int (0)])), (xe, .inr (2, [.int (0), .ref p1, .ref p2, .int (0), .ref p4, .int (0), .ref p6, .ref p7, .ref p8, .int (0), .ref p10, .ref p11, .ref p12, .ref p13, .ref p14, .ref p15, .ref p16]))] s.heap := hP
  refine lv_iload_n hx hb dX7_lay_0 rfl (lv_at hl 1 rfl) ?_
  refine lv_aload_n hx hb dX7_lay_1 rfl (lv_at hl 0 rfl) ?_
  refine va_get (D := D) (ci := 6) (v := .ref xh) (C := RX7) (T := TX7) (N := 10) hx hb hts (fun w h => List.mem_cons_of_mem _ (List.mem_append_left _ (List.mem_append_left _ (List.mem_append_right _ h)))) hown hE.1 hP 0 rfl rfl 3 (by decide) (hts (.fieldLink RX7 37 "WornLines" "hand" "LWornLines$Machine;") (by decide +kernel)) (fun _ h9 => h9) rfl dX7_lay_2 ?_
  refine va_get (D := D) (ci := 1) (v := .ref xe) (C := RX1) (T := TX1) (N := 12) hx hb hts (fun w h => List.mem_cons_of_mem _ (List.mem_append_left _ (List.mem_append_right _ h))) hown hE.1 hP 1 rfl rfl 0 (by decide) (hts (.fieldLink RX7 89 "WornLines$Machine" "programme" "LWornLines$Programme;") (by decide +kernel)) (fun _ h9 => h9) rfl dX7_lay_5 ?_
  refine va_get (D := D) (ci := 2) (v := .int (0)) (C := RX2) (T := TX2) (N := 17) hx hb hts (fun w h => List.mem_cons_of_mem _ (List.mem_append_right _ h)) hown hE.1 hP 2 rfl rfl 9 (by decide) (hts (.fieldLink RX7 106 "WornLines$Programme" "lines" "I") (by decide +kernel)) (fun _ h9 => h9) rfl dX7_lay_8 ?_
  refine kc_i (wc := []) (wr := [(h0, .inr (6, [.ref xt, .ref xe, .ref xr, .ref xh, .ref xw, .ref xf, .ref xm, .ref xd, .ref xs, .ref xl])), (xh, .inr (1, [.ref xe, .ref b1, .ref b2, .ref b3, .ref b4, .ref b5, .ref b6, .int (0), .int (0), .int (0), .int (0), .int (0)])), (xe, .inr (2, [.int (0), .ref p1, .ref p2, .int (0), .ref p4, .int (0), .ref p6, .ref p7, .ref p8, .int (0), .ref p10, .ref p11, .ref p12, .ref p13, .ref p14, .ref p15, .ref p16]))]) hP hD hS hA [] [0, 1, 2] rfl rfl (by decide) (by decide) (va_runS (As := [.int (a0), .int (0)]) (rest := []) ⟨hx, hb, hml, hown, hts⟩ (c_X7_within0 l D ak ad _ (a0) ) (va_cwS 2 hts gX7_lay_X7_within rfl rfl rfl (by decide +kernel) ⟨Nat.le_of_ble_eq_true rfl, Nat.le_of_ble_eq_true rfl⟩) (kc_pre (As := [.int (a0), .int (0)]) (wc := []) hE hT hP hD hS hA [] (by decide) rfl rfl) rfl rfl hl.1 rfl (lv_room (Nat.le_of_ble_eq_true rfl)) dX7_lay_11 ⟨Nat.le_of_ble_eq_true rfl, Nat.le_of_ble_eq_true rfl⟩) (fun r_2 u_0 H locs hw_2 hP hD hS => ?_)
  have hP : va_P D vwCl [(h0, .inr (6, [.ref xt, .ref xe, .ref xr, .ref xh, .ref xw, .ref xf, .ref xm, .ref xd, .ref xs, .ref xl])), (xh, .inr (1, [.ref xe, .ref b1, .ref b2, .ref b3, .ref b4, .ref b5, .ref b6, .int (0), .int (0), .int (0), .int (0), .int (0)])), (xe, .inr (2, [.int (0), .ref p1, .ref p2, .int (0), .ref p4, .int (0), .ref p6, .ref p7, .ref p8, .int (0), .ref p10, .ref p11, .ref p12, .ref p13, .ref p14, .ref p15, .ref p16]))] H := hP
  have hD : va_D A [(h0, .inr (6, [.ref xt, .ref xe, .ref xr, .ref xh, .ref xw, .ref xf, .ref xm, .ref xd, .ref xs, .ref xl])), (xh, .inr (1, [.ref xe, .ref b1, .ref b2, .ref b3, .ref b4, .ref b5, .ref b6, .int (0), .int (0), .int (0), .int (0), .int (0)])), (xe, .inr (2, [.int (0), .ref p1, .ref p2, .int (0), .ref p4, .int (0), .ref p6, .ref p7, .ref p8, .int (0), .ref p10, .ref p11, .ref p12, .ref p13, .ref p14, .ref p15, .ref p16]))] := hD
  subst hw_2
  refine lv_if_eq (tgt := 44) hx hb dX7_lay_14 (by decide) (fun c_14 => ?_) (fun c_14 => ?_)
  · refine lv_iconst (v := 0) hx hb dX7_lay_44 (by decide) ?_
    have hP9 := hP.sub (ws' := []) [] rfl
    have hD9 := hD.sub (ws' := []) [] (by decide) rfl
    refine W.widen (k := 0) (n := 0) (Nat.le_of_ble_eq_true rfl) (Nat.le_of_ble_eq_true rfl) ?_
    exact W.zret (v := 0) hx hb hr (rfl) (fun t ht hW => ⟨⟨0, (()), rfl, rfl, by rw [ht]; exact hP9, by rw [hAe]; exact hD9⟩, by rw [hAe]; exact hS.F ht⟩) hS.2.2 dX7_lay_45
  · exact absurd c_14 (by decide)

set_option maxHeartbeats 4000000 in
set_option maxRecDepth 100000 in
theorem c_X7_cost (l : Launch) (D : va_G) (ak : Nat → ClassId) (ad : Nat → Nat) (sz : Nat) (h0 : Nat) (xt : Nat) (xe : Nat) (xr : Nat) (xh : Nat) (xw : Nat) (xf : Nat) (xm : Nat) (xd : Nat) (xs : Nat) (xl : Nat) (b1 : Nat) (b2 : Nat) (b3 : Nat) (b4 : Nat) (b5 : Nat) (b6 : Nat) (p1 : Nat) (p2 : Nat) (p4 : Nat) (p6 : Nat) (p7 : Nat) (p8 : Nat) (p10 : Nat) (p11 : Nat) (p12 : Nat) (p13 : Nat) (p14 : Nat) (p15 : Nat) (p16 : Nat)  : Met l yX7_cost wsX7_cost ({ frames := 0, cells := 0, slots := 0, locals := 0 }) (cPre D ak ad [.ref h0] ([(h0, .inr (6, [.ref xt, .ref xe, .ref xr, .ref xh, .ref xw, .ref xf, .ref xm, .ref xd, .ref xs, .ref xl])), (xh, .inr (1, [.ref xe, .ref b1, .ref b2, .ref b3, .ref b4, .ref b5, .ref b6, .int (0), .int (0), .int (0), .int (0), .int (0)])), (xe, .inr (2, [.int (0), .ref p1, .ref p2, .int (0), .ref p4, .int (0), .ref p6, .ref p7, .ref p8, .int (0), .ref p10, .ref p11, .ref p12, .ref p13, .ref p14, .ref p15, .ref p16]))]) sz) (cI D (S := Unit) (fun (r : Int32) (u : Unit) => r = 0) (fun u => []) ([(h0, .inr (6, [.ref xt, .ref xe, .ref xr, .ref xh, .ref xw, .ref xf, .ref xm, .ref xd, .ref xs, .ref xl])), (xh, .inr (1, [.ref xe, .ref b1, .ref b2, .ref b3, .ref b4, .ref b5, .ref b6, .int (0), .int (0), .int (0), .int (0), .int (0)])), (xe, .inr (2, [.int (0), .ref p1, .ref p2, .int (0), .ref p4, .int (0), .ref p6, .ref p7, .ref p8, .int (0), .ref p10, .ref p11, .ref p12, .ref p13, .ref p14, .ref p15, .ref p16]))]) sz) 0 0 (va_A ([(h0, .inr (6, [.ref xt, .ref xe, .ref xr, .ref xh, .ref xw, .ref xf, .ref xm, .ref xd, .ref xs, .ref xl])), (xh, .inr (1, [.ref xe, .ref b1, .ref b2, .ref b3, .ref b4, .ref b5, .ref b6, .int (0), .int (0), .int (0), .int (0), .int (0)])), (xe, .inr (2, [.int (0), .ref p1, .ref p2, .int (0), .ref p4, .int (0), .ref p6, .ref p7, .ref p8, .int (0), .ref p10, .ref p11, .ref p12, .ref p13, .ref p14, .ref p15, .ref p16]))]) sz) := by
  refine Met.ofW (cc := cX7_cost) (maxL := 3) (ret := (some .int)) (by decide) rfl ?_
  intro p e s m args below meth c s₁ B hml hv
  obtain ⟨rfl, hsz, hP, hE, hD0, hT⟩ := hv
  have hx := B.exec
  have hb := B.bytes
  have hr := B.returns
  have hts := atoms_spec (ws := wsX7_cost) B.pre
  have hown : s.vm.findClass RX7 = some m.cls := findClass_of_methodNamed B.named
  have hlocks := B.notSynchronized
  subst hsz
  have hD := hD0.self (sz := s.heap.size)
  generalize hAe : va_A ([(h0, .inr (6, [.ref xt, .ref xe, .ref xr, .ref xh, .ref xw, .ref xf, .ref xm, .ref xd, .ref xs, .ref xl])), (xh, .inr (1, [.ref xe, .ref b1, .ref b2, .ref b3, .ref b4, .ref b5, .ref b6, .int (0), .int (0), .int (0), .int (0), .int (0)])), (xe, .inr (2, [.int (0), .ref p1, .ref p2, .int (0), .ref p4, .int (0), .ref p6, .ref p7, .ref p8, .int (0), .ref p10, .ref p11, .ref p12, .ref p13, .ref p14, .ref p15, .ref p16]))]) s.heap.size = A at hD hT ⊢
  have hA : ∀ q : Nat, s.heap.size ≤ q → A q := fun q h => by rw [← hAe]; exact Or.inr h
  have hS : va_S A s.heap s.heap [] := va_S.rf
  have hl := lv_entry ([.ref h0]) (n := 3) (Nat.le_of_ble_eq_true rfl)
  rw [lg_entry_eq]
  generalize (lg_sl ([.ref h0]) ++ List.replicate (3 - (lg_sl ([.ref h0])).length) Slot.unset).toArray = ls at hl ⊢
  have hl : lv_has ls 3 [(0, .ref h0)] := hl
  have hP : va_P D vwCl [(h0, .inr (6, [.ref xt, .ref xe, .ref xr, .ref xh, .ref xw, .ref xf, .ref xm, .ref xd, .ref xs, .ref xl])), (xh, .inr (1, [.ref xe, .ref b1, .ref b2, .ref b3, .ref b4, .ref b5, .ref b6, .int (0), .int (0), .int (0), .int (0), .int (0)])), (xe, .inr (2, [.int (0), .ref p1, .ref p2, .int (0), .ref p4, .int (0), .ref p6, .ref p7, .ref p8, .int (0), .ref p10, .ref p11, .ref p12, .ref p13, .ref p14, .ref p15, .ref p16]))] s.heap := hP
  refine lv_iconst (v := 0) hx hb dX7_cost_0 (by decide) ?_
  refine lv_istore_n (lv' := [(1, .int (0)), (0, .ref h0)]) hx hb dX7_cost_1 rfl hl (by decide) rfl (fun ls hl => ?_)
  refine lv_iconst (v := 0) hx hb dX7_cost_2 (by decide) ?_
  refine lv_istore_n (lv' := [(2, .int (0)), (1, .int (0)), (0, .ref h0)]) hx hb dX7_cost_3 rfl hl (by decide) rfl (fun ls hl => ?_)
  refine lv_iload_n hx hb dX7_cost_4 rfl (lv_at hl 0 rfl) ?_
  refine lv_aload_n hx hb dX7_cost_5 rfl (lv_at hl 2 rfl) ?_
  refine va_get (D := D) (ci := 6) (v := .ref xh) (C := RX7) (T := TX7) (N := 10) hx hb hts (fun w h => List.mem_cons_of_mem _ (List.mem_append_left _ (List.mem_append_left _ (List.mem_append_right _ h)))) hown hE.1 hP 0 rfl rfl 3 (by decide) (hts (.fieldLink RX7 37 "WornLines" "hand" "LWornLines$Machine;") (by decide +kernel)) (fun _ h9 => h9) rfl dX7_cost_6 ?_
  refine va_get (D := D) (ci := 1) (v := .ref xe) (C := RX1) (T := TX1) (N := 12) hx hb hts (fun w h => List.mem_cons_of_mem _ (List.mem_append_left _ (List.mem_append_right _ h))) hown hE.1 hP 1 rfl rfl 0 (by decide) (hts (.fieldLink RX7 89 "WornLines$Machine" "programme" "LWornLines$Programme;") (by decide +kernel)) (fun _ h9 => h9) rfl dX7_cost_9 ?_
  refine va_get (D := D) (ci := 2) (v := .int (0)) (C := RX2) (T := TX2) (N := 17) hx hb hts (fun w h => List.mem_cons_of_mem _ (List.mem_append_right _ h)) hown hE.1 hP 2 rfl rfl 9 (by decide) (hts (.fieldLink RX7 106 "WornLines$Programme" "lines" "I") (by decide +kernel)) (fun _ h9 => h9) rfl dX7_cost_12 ?_
  refine lv_icmp_ge (tgt := 57) hx hb dX7_cost_15 (by decide) (fun c_15 => ?_) (fun c_15 => ?_)
  · refine lv_iload_n hx hb dX7_cost_57 rfl (lv_at hl 1 rfl) ?_
    have hP9 := hP.sub (ws' := []) [] rfl
    have hD9 := hD.sub (ws' := []) [] (by decide) rfl
    refine W.widen (k := 0) (n := 0) (Nat.le_of_ble_eq_true rfl) (Nat.le_of_ble_eq_true rfl) ?_
    exact W.iret (v := 0) hx hb hr (fun t ht hW => ⟨⟨0, (()), rfl, rfl, by rw [ht]; exact hP9, by rw [hAe]; exact hD9⟩, by rw [hAe]; exact hS.F ht⟩) hS.2.2 dX7_cost_58
  · exact absurd c_15 (by decide)

set_option maxHeartbeats 4000000 in
set_option maxRecDepth 100000 in
theorem c_X7_inputs (l : Launch) (D : va_G) (ak : Nat → ClassId) (ad : Nat → Nat) (sz : Nat) (h0 : Nat) (xt : Nat) (xe : Nat) (xr : Nat) (xh : Nat) (xw : Nat) (xf : Nat) (xm : Nat) (xd : Nat) (xs : Nat) (xl : Nat) (b1 : Nat) (b2 : Nat) (b3 : Nat) (b4 : Nat) (b5 : Nat) (b6 : Nat) (p1 : Nat) (p2 : Nat) (p4 : Nat) (p6 : Nat) (p7 : Nat) (p8 : Nat) (p10 : Nat) (p11 : Nat) (p12 : Nat) (p13 : Nat) (p14 : Nat) (p15 : Nat) (p16 : Nat)  : Met l yX7_inputs wsX7_inputs ({ frames := 1, cells := 0, slots := 0, locals := 22 }) (cPre D ak ad [.ref h0] ([(h0, .inr (6, [.ref xt, .ref xe, .ref xr, .ref xh, .ref xw, .ref xf, .ref xm, .ref xd, .ref xs, .ref xl])), (xh, .inr (1, [.ref xe, .ref b1, .ref b2, .ref b3, .ref b4, .ref b5, .ref b6, .int (0), .int (0), .int (0), .int (0), .int (0)])), (xe, .inr (2, [.int (0), .ref p1, .ref p2, .int (0), .ref p4, .int (0), .ref p6, .ref p7, .ref p8, .int (0), .ref p10, .ref p11, .ref p12, .ref p13, .ref p14, .ref p15, .ref p16]))]) sz) (cI D (S := Unit) (fun (r : Int32) (u : Unit) => r = 1) (fun u => []) ([(h0, .inr (6, [.ref xt, .ref xe, .ref xr, .ref xh, .ref xw, .ref xf, .ref xm, .ref xd, .ref xs, .ref xl])), (xh, .inr (1, [.ref xe, .ref b1, .ref b2, .ref b3, .ref b4, .ref b5, .ref b6, .int (0), .int (0), .int (0), .int (0), .int (0)])), (xe, .inr (2, [.int (0), .ref p1, .ref p2, .int (0), .ref p4, .int (0), .ref p6, .ref p7, .ref p8, .int (0), .ref p10, .ref p11, .ref p12, .ref p13, .ref p14, .ref p15, .ref p16]))]) sz) 0 0 (va_A ([(h0, .inr (6, [.ref xt, .ref xe, .ref xr, .ref xh, .ref xw, .ref xf, .ref xm, .ref xd, .ref xs, .ref xl])), (xh, .inr (1, [.ref xe, .ref b1, .ref b2, .ref b3, .ref b4, .ref b5, .ref b6, .int (0), .int (0), .int (0), .int (0), .int (0)])), (xe, .inr (2, [.int (0), .ref p1, .ref p2, .int (0), .ref p4, .int (0), .ref p6, .ref p7, .ref p8, .int (0), .ref p10, .ref p11, .ref p12, .ref p13, .ref p14, .ref p15, .ref p16]))]) sz) := by
  refine Met.ofW (cc := cX7_inputs) (maxL := 1) (ret := (some .int)) (by decide) rfl ?_
  intro p e s m args below meth c s₁ B hml hv
  obtain ⟨rfl, hsz, hP, hE, hD0, hT⟩ := hv
  have hx := B.exec
  have hb := B.bytes
  have hr := B.returns
  have hts := atoms_spec (ws := wsX7_inputs) B.pre
  have hown : s.vm.findClass RX7 = some m.cls := findClass_of_methodNamed B.named
  have hlocks := B.notSynchronized
  subst hsz
  have hD := hD0.self (sz := s.heap.size)
  generalize hAe : va_A ([(h0, .inr (6, [.ref xt, .ref xe, .ref xr, .ref xh, .ref xw, .ref xf, .ref xm, .ref xd, .ref xs, .ref xl])), (xh, .inr (1, [.ref xe, .ref b1, .ref b2, .ref b3, .ref b4, .ref b5, .ref b6, .int (0), .int (0), .int (0), .int (0), .int (0)])), (xe, .inr (2, [.int (0), .ref p1, .ref p2, .int (0), .ref p4, .int (0), .ref p6, .ref p7, .ref p8, .int (0), .ref p10, .ref p11, .ref p12, .ref p13, .ref p14, .ref p15, .ref p16]))]) s.heap.size = A at hD hT ⊢
  have hA : ∀ q : Nat, s.heap.size ≤ q → A q := fun q h => by rw [← hAe]; exact Or.inr h
  have hS : va_S A s.heap s.heap [] := va_S.rf
  have hl := lv_entry ([.ref h0]) (n := 1) (Nat.le_of_ble_eq_true rfl)
  rw [lg_entry_eq]
  generalize (lg_sl ([.ref h0]) ++ List.replicate (1 - (lg_sl ([.ref h0])).length) Slot.unset).toArray = ls at hl ⊢
  have hl : lv_has ls 1 [(0, .ref h0)] := hl
  have hP : va_P D vwCl [(h0, .inr (6, [.ref xt, .ref xe, .ref xr, .ref xh, .ref xw, .ref xf, .ref xm, .ref xd, .ref xs, .ref xl])), (xh, .inr (1, [.ref xe, .ref b1, .ref b2, .ref b3, .ref b4, .ref b5, .ref b6, .int (0), .int (0), .int (0), .int (0), .int (0)])), (xe, .inr (2, [.int (0), .ref p1, .ref p2, .int (0), .ref p4, .int (0), .ref p6, .ref p7, .ref p8, .int (0), .ref p10, .ref p11, .ref p12, .ref p13, .ref p14, .ref p15, .ref p16]))] s.heap := hP
  refine lv_aload_n hx hb dX7_inputs_0 rfl (lv_at hl 0 rfl) ?_
  refine va_get (D := D) (ci := 6) (v := .ref xh) (C := RX7) (T := TX7) (N := 10) hx hb hts (fun w h => List.mem_cons_of_mem _ (List.mem_append_left _ (List.mem_append_left _ (List.mem_append_right _ h)))) hown hE.1 hP 0 rfl rfl 3 (by decide) (hts (.fieldLink RX7 37 "WornLines" "hand" "LWornLines$Machine;") (by decide +kernel)) (fun _ h9 => h9) rfl dX7_inputs_1 ?_
  refine va_get (D := D) (ci := 1) (v := .ref xe) (C := RX1) (T := TX1) (N := 12) hx hb hts (fun w h => List.mem_cons_of_mem _ (List.mem_append_left _ (List.mem_append_right _ h))) hown hE.1 hP 1 rfl rfl 0 (by decide) (hts (.fieldLink RX7 89 "WornLines$Machine" "programme" "LWornLines$Programme;") (by decide +kernel)) (fun _ h9 => h9) rfl dX7_inputs_4 ?_
  refine kc_i (wc := [(xe, .inr (2, [.int (0), .ref p1, .ref p2, .int (0), .ref p4, .int (0), .ref p6, .ref p7, .ref p8, .int (0), .ref p10, .ref p11, .ref p12, .ref p13, .ref p14, .ref p15, .ref p16]))]) (wr := [(h0, .inr (6, [.ref xt, .ref xe, .ref xr, .ref xh, .ref xw, .ref xf, .ref xm, .ref xd, .ref xs, .ref xl])), (xh, .inr (1, [.ref xe, .ref b1, .ref b2, .ref b3, .ref b4, .ref b5, .ref b6, .int (0), .int (0), .int (0), .int (0), .int (0)]))]) hP hD hS hA [2] [0, 1] rfl rfl (by decide) (by decide) (va_runV (As := []) (rest := []) ⟨hx, hb, hml, hown, hts⟩ (c_X2_inputCount l D ak ad _ (xe) (p1) (p2) (p4) (p6) (p7) (p8) (p10) (p11) (p12) (p13) (p14) (p15) (p16) ) (cwV 0 hts gX7_inputs_X2_inputCount rfl rfl rfl (by decide +kernel) ⟨Nat.le_of_ble_eq_true rfl, Nat.le_of_ble_eq_true rfl⟩) (kc_preV (As := []) (wc := [(xe, .inr (2, [.int (0), .ref p1, .ref p2, .int (0), .ref p4, .int (0), .ref p6, .ref p7, .ref p8, .int (0), .ref p10, .ref p11, .ref p12, .ref p13, .ref p14, .ref p15, .ref p16]))]) hE hT hP hD hS hA [2] (by decide) rfl rfl 2 2 rfl rfl rfl) rfl rfl hl.1 rfl (lv_room (Nat.le_of_ble_eq_true rfl)) dX7_inputs_7 ⟨Nat.le_of_ble_eq_true rfl, Nat.le_of_ble_eq_true rfl⟩) (fun r_2 u_0 H locs hw_2 hP hD hS => ?_)
  have hP : va_P D vwCl [(h0, .inr (6, [.ref xt, .ref xe, .ref xr, .ref xh, .ref xw, .ref xf, .ref xm, .ref xd, .ref xs, .ref xl])), (xh, .inr (1, [.ref xe, .ref b1, .ref b2, .ref b3, .ref b4, .ref b5, .ref b6, .int (0), .int (0), .int (0), .int (0), .int (0)])), (xe, .inr (2, [.int (0), .ref p1, .ref p2, .int (0), .ref p4, .int (0), .ref p6, .ref p7, .ref p8, .int (0), .ref p10, .ref p11, .ref p12, .ref p13, .ref p14, .ref p15, .ref p16]))] H := hP
  have hD : va_D A [(h0, .inr (6, [.ref xt, .ref xe, .ref xr, .ref xh, .ref xw, .ref xf, .ref xm, .ref xd, .ref xs, .ref xl])), (xh, .inr (1, [.ref xe, .ref b1, .ref b2, .ref b3, .ref b4, .ref b5, .ref b6, .int (0), .int (0), .int (0), .int (0), .int (0)])), (xe, .inr (2, [.int (0), .ref p1, .ref p2, .int (0), .ref p4, .int (0), .ref p6, .ref p7, .ref p8, .int (0), .ref p10, .ref p11, .ref p12, .ref p13, .ref p14, .ref p15, .ref p16]))] := hD
  subst hw_2
  have hP9 := hP.sub (ws' := []) [] rfl
  have hD9 := hD.sub (ws' := []) [] (by decide) rfl
  refine W.widen (k := 0) (n := 0) (Nat.le_of_ble_eq_true rfl) (Nat.le_of_ble_eq_true rfl) ?_
  exact W.iret (v := 1) hx hb hr (fun t ht hW => ⟨⟨1, (()), rfl, rfl, by rw [ht]; exact hP9, by rw [hAe]; exact hD9⟩, by rw [hAe]; exact hS.F ht⟩) hS.2.2 dX7_inputs_10

set_option maxHeartbeats 4000000 in
set_option maxRecDepth 100000 in
theorem c_X7_input (l : Launch) (D : va_G) (ak : Nat → ClassId) (ad : Nat → Nat) (sz : Nat) (h0 : Nat) (xt : Nat) (xe : Nat) (xr : Nat) (xh : Nat) (xw : Nat) (xf : Nat) (xm : Nat) (xd : Nat) (xs : Nat) (xl : Nat) (b1 : Nat) (b2 : Nat) (b3 : Nat) (b4 : Nat) (b5 : Nat) (b6 : Nat) (p1 : Nat) (p2 : Nat) (p4 : Nat) (p6 : Nat) (p7 : Nat) (p8 : Nat) (p10 : Nat) (p11 : Nat) (p12 : Nat) (p13 : Nat) (p14 : Nat) (p15 : Nat) (p16 : Nat) (a0 : Int32) (a1 : Int32)  : Met l yX7_input wsX7_input ({ frames := 1, cells := 0, slots := 0, locals := 22 }) (cPre D ak ad [.ref h0, .int (a0), .int (a1)] ([(h0, .inr (6, [.ref xt, .ref xe, .ref xr, .ref xh, .ref xw, .ref xf, .ref xm, .ref xd, .ref xs, .ref xl])), (xh, .inr (1, [.ref xe, .ref b1, .ref b2, .ref b3, .ref b4, .ref b5, .ref b6, .int (0), .int (0), .int (0), .int (0), .int (0)])), (xe, .inr (2, [.int (0), .ref p1, .ref p2, .int (0), .ref p4, .int (0), .ref p6, .ref p7, .ref p8, .int (0), .ref p10, .ref p11, .ref p12, .ref p13, .ref p14, .ref p15, .ref p16]))]) sz) (cI D (S := Unit) (fun (r : Int32) (u : Unit) => r = (-1)) (fun u => []) ([(h0, .inr (6, [.ref xt, .ref xe, .ref xr, .ref xh, .ref xw, .ref xf, .ref xm, .ref xd, .ref xs, .ref xl])), (xh, .inr (1, [.ref xe, .ref b1, .ref b2, .ref b3, .ref b4, .ref b5, .ref b6, .int (0), .int (0), .int (0), .int (0), .int (0)])), (xe, .inr (2, [.int (0), .ref p1, .ref p2, .int (0), .ref p4, .int (0), .ref p6, .ref p7, .ref p8, .int (0), .ref p10, .ref p11, .ref p12, .ref p13, .ref p14, .ref p15, .ref p16]))]) sz) 0 0 (va_A ([(h0, .inr (6, [.ref xt, .ref xe, .ref xr, .ref xh, .ref xw, .ref xf, .ref xm, .ref xd, .ref xs, .ref xl])), (xh, .inr (1, [.ref xe, .ref b1, .ref b2, .ref b3, .ref b4, .ref b5, .ref b6, .int (0), .int (0), .int (0), .int (0), .int (0)])), (xe, .inr (2, [.int (0), .ref p1, .ref p2, .int (0), .ref p4, .int (0), .ref p6, .ref p7, .ref p8, .int (0), .ref p10, .ref p11, .ref p12, .ref p13, .ref p14, .ref p15, .ref p16]))]) sz) := by
  refine Met.ofW (cc := cX7_input) (maxL := 3) (ret := (some .int)) (by decide) rfl ?_
  intro p e s m args below meth c s₁ B hml hv
  obtain ⟨rfl, hsz, hP, hE, hD0, hT⟩ := hv
  have hx := B.exec
  have hb := B.bytes
  have hr := B.returns
  have hts := atoms_spec (ws := wsX7_input) B.pre
  have hown : s.vm.findClass RX7 = some m.cls := findClass_of_methodNamed B.named
  have hlocks := B.notSynchronized
  subst hsz
  have hD := hD0.self (sz := s.heap.size)
  generalize hAe : va_A ([(h0, .inr (6, [.ref xt, .ref xe, .ref xr, .ref xh, .ref xw, .ref xf, .ref xm, .ref xd, .ref xs, .ref xl])), (xh, .inr (1, [.ref xe, .ref b1, .ref b2, .ref b3, .ref b4, .ref b5, .ref b6, .int (0), .int (0), .int (0), .int (0), .int (0)])), (xe, .inr (2, [.int (0), .ref p1, .ref p2, .int (0), .ref p4, .int (0), .ref p6, .ref p7, .ref p8, .int (0), .ref p10, .ref p11, .ref p12, .ref p13, .ref p14, .ref p15, .ref p16]))]) s.heap.size = A at hD hT ⊢
  have hA : ∀ q : Nat, s.heap.size ≤ q → A q := fun q h => by rw [← hAe]; exact Or.inr h
  have hS : va_S A s.heap s.heap [] := va_S.rf
  have hl := lv_entry ([.ref h0, .int (a0), .int (a1)]) (n := 3) (Nat.le_of_ble_eq_true rfl)
  rw [lg_entry_eq]
  generalize (lg_sl ([.ref h0, .int (a0), .int (a1)]) ++ List.replicate (3 - (lg_sl ([.ref h0, .int (a0), .int (a1)])).length) Slot.unset).toArray = ls at hl ⊢
  have hl : lv_has ls 3 [(0, .ref h0), (1, .int (a0)), (2, .int (a1))] := hl
  have hP : va_P D vwCl [(h0, .inr (6, [.ref xt, .ref xe, .ref xr, .ref xh, .ref xw, .ref xf, .ref xm, .ref xd, .ref xs, .ref xl])), (xh, .inr (1, [.ref xe, .ref b1, .ref b2, .ref b3, .ref b4, .ref b5, .ref b6, .int (0), .int (0), .int (0), .int (0), .int (0)])), (xe, .inr (2, [.int (0), .ref p1, .ref p2, .int (0), .ref p4, .int (0), .ref p6, .ref p7, .ref p8, .int (0), .ref p10, .ref p11, .ref p12, .ref p13, .ref p14, .ref p15, .ref p16]))] s.heap := hP
  refine lv_iload_n hx hb dX7_input_0 rfl (lv_at hl 1 rfl) ?_
  refine lv_aload_n hx hb dX7_input_1 rfl (lv_at hl 0 rfl) ?_
  refine va_get (D := D) (ci := 6) (v := .ref xh) (C := RX7) (T := TX7) (N := 10) hx hb hts (fun w h => List.mem_cons_of_mem _ (List.mem_append_left _ (List.mem_append_left _ (List.mem_append_right _ h)))) hown hE.1 hP 0 rfl rfl 3 (by decide) (hts (.fieldLink RX7 37 "WornLines" "hand" "LWornLines$Machine;") (by decide +kernel)) (fun _ h9 => h9) rfl dX7_input_2 ?_
  refine va_get (D := D) (ci := 1) (v := .ref xe) (C := RX1) (T := TX1) (N := 12) hx hb hts (fun w h => List.mem_cons_of_mem _ (List.mem_append_left _ (List.mem_append_right _ h))) hown hE.1 hP 1 rfl rfl 0 (by decide) (hts (.fieldLink RX7 89 "WornLines$Machine" "programme" "LWornLines$Programme;") (by decide +kernel)) (fun _ h9 => h9) rfl dX7_input_5 ?_
  refine kc_i (wc := [(xe, .inr (2, [.int (0), .ref p1, .ref p2, .int (0), .ref p4, .int (0), .ref p6, .ref p7, .ref p8, .int (0), .ref p10, .ref p11, .ref p12, .ref p13, .ref p14, .ref p15, .ref p16]))]) (wr := [(h0, .inr (6, [.ref xt, .ref xe, .ref xr, .ref xh, .ref xw, .ref xf, .ref xm, .ref xd, .ref xs, .ref xl])), (xh, .inr (1, [.ref xe, .ref b1, .ref b2, .ref b3, .ref b4, .ref b5, .ref b6, .int (0), .int (0), .int (0), .int (0), .int (0)]))]) hP hD hS hA [2] [0, 1] rfl rfl (by decide) (by decide) (va_runV (As := []) (rest := [.int (a0)]) ⟨hx, hb, hml, hown, hts⟩ (c_X2_inputCount l D ak ad _ (xe) (p1) (p2) (p4) (p6) (p7) (p8) (p10) (p11) (p12) (p13) (p14) (p15) (p16) ) (cwV 0 hts gX7_input_X2_inputCount rfl rfl rfl (by decide +kernel) ⟨Nat.le_of_ble_eq_true rfl, Nat.le_of_ble_eq_true rfl⟩) (kc_preV (As := []) (wc := [(xe, .inr (2, [.int (0), .ref p1, .ref p2, .int (0), .ref p4, .int (0), .ref p6, .ref p7, .ref p8, .int (0), .ref p10, .ref p11, .ref p12, .ref p13, .ref p14, .ref p15, .ref p16]))]) hE hT hP hD hS hA [2] (by decide) rfl rfl 2 2 rfl rfl rfl) rfl rfl hl.1 rfl (lv_room (Nat.le_of_ble_eq_true rfl)) dX7_input_8 ⟨Nat.le_of_ble_eq_true rfl, Nat.le_of_ble_eq_true rfl⟩) (fun r_2 u_0 H locs hw_2 hP hD hS => ?_)
  have hP : va_P D vwCl [(h0, .inr (6, [.ref xt, .ref xe, .ref xr, .ref xh, .ref xw, .ref xf, .ref xm, .ref xd, .ref xs, .ref xl])), (xh, .inr (1, [.ref xe, .ref b1, .ref b2, .ref b3, .ref b4, .ref b5, .ref b6, .int (0), .int (0), .int (0), .int (0), .int (0)])), (xe, .inr (2, [.int (0), .ref p1, .ref p2, .int (0), .ref p4, .int (0), .ref p6, .ref p7, .ref p8, .int (0), .ref p10, .ref p11, .ref p12, .ref p13, .ref p14, .ref p15, .ref p16]))] H := hP
  have hD : va_D A [(h0, .inr (6, [.ref xt, .ref xe, .ref xr, .ref xh, .ref xw, .ref xf, .ref xm, .ref xd, .ref xs, .ref xl])), (xh, .inr (1, [.ref xe, .ref b1, .ref b2, .ref b3, .ref b4, .ref b5, .ref b6, .int (0), .int (0), .int (0), .int (0), .int (0)])), (xe, .inr (2, [.int (0), .ref p1, .ref p2, .int (0), .ref p4, .int (0), .ref p6, .ref p7, .ref p8, .int (0), .ref p10, .ref p11, .ref p12, .ref p13, .ref p14, .ref p15, .ref p16]))] := hD
  subst hw_2
  refine kc_i (wc := []) (wr := [(h0, .inr (6, [.ref xt, .ref xe, .ref xr, .ref xh, .ref xw, .ref xf, .ref xm, .ref xd, .ref xs, .ref xl])), (xh, .inr (1, [.ref xe, .ref b1, .ref b2, .ref b3, .ref b4, .ref b5, .ref b6, .int (0), .int (0), .int (0), .int (0), .int (0)])), (xe, .inr (2, [.int (0), .ref p1, .ref p2, .int (0), .ref p4, .int (0), .ref p6, .ref p7, .ref p8, .int (0), .ref p10, .ref p11, .ref p12, .ref p13, .ref p14, .ref p15, .ref p16]))]) hP hD hS hA [] [0, 1, 2] rfl rfl (by decide) (by decide) (va_runS (As := [.int (a0), .int (1)]) (rest := []) ⟨hx, hb, hml, hown, hts⟩ (c_X7_within l D ak ad _ (a0) (1) ) (va_cwS 2 hts gX7_input_X7_within rfl rfl rfl (by decide +kernel) ⟨Nat.le_of_ble_eq_true rfl, Nat.le_of_ble_eq_true rfl⟩) (kc_pre (As := [.int (a0), .int (1)]) (wc := []) hE hT hP hD hS hA [] (by decide) rfl rfl) rfl rfl hl.1 rfl (lv_room (Nat.le_of_ble_eq_true rfl)) dX7_input_11 ⟨Nat.le_of_ble_eq_true rfl, Nat.le_of_ble_eq_true rfl⟩) (fun r_4 u_2 H locs hw_4 hP hD hS => ?_)
  have hP : va_P D vwCl [(h0, .inr (6, [.ref xt, .ref xe, .ref xr, .ref xh, .ref xw, .ref xf, .ref xm, .ref xd, .ref xs, .ref xl])), (xh, .inr (1, [.ref xe, .ref b1, .ref b2, .ref b3, .ref b4, .ref b5, .ref b6, .int (0), .int (0), .int (0), .int (0), .int (0)])), (xe, .inr (2, [.int (0), .ref p1, .ref p2, .int (0), .ref p4, .int (0), .ref p6, .ref p7, .ref p8, .int (0), .ref p10, .ref p11, .ref p12, .ref p13, .ref p14, .ref p15, .ref p16]))] H := hP
  have hD : va_D A [(h0, .inr (6, [.ref xt, .ref xe, .ref xr, .ref xh, .ref xw, .ref xf, .ref xm, .ref xd, .ref xs, .ref xl])), (xh, .inr (1, [.ref xe, .ref b1, .ref b2, .ref b3, .ref b4, .ref b5, .ref b6, .int (0), .int (0), .int (0), .int (0), .int (0)])), (xe, .inr (2, [.int (0), .ref p1, .ref p2, .int (0), .ref p4, .int (0), .ref p6, .ref p7, .ref p8, .int (0), .ref p10, .ref p11, .ref p12, .ref p13, .ref p14, .ref p15, .ref p16]))] := hD
  refine lv_if_eq (tgt := 34) hx hb dX7_input_14 (by decide) (fun c_14 => ?_) (fun c_14 => ?_)
  · refine lv_iconst (v := (-1)) hx hb dX7_input_34 (by decide) ?_
    have hP9 := hP.sub (ws' := []) [] rfl
    have hD9 := hD.sub (ws' := []) [] (by decide) rfl
    refine W.widen (k := 0) (n := 0) (Nat.le_of_ble_eq_true rfl) (Nat.le_of_ble_eq_true rfl) ?_
    exact W.iret (v := -1) hx hb hr (fun t ht hW => ⟨⟨-1, (()), rfl, rfl, by rw [ht]; exact hP9, by rw [hAe]; exact hD9⟩, by rw [hAe]; exact hS.F ht⟩) hS.2.2 dX7_input_35
  · refine lv_iload_n hx hb dX7_input_17 rfl (lv_at hl 2 rfl) ?_
    refine lv_aload_n hx hb dX7_input_18 rfl (lv_at hl 0 rfl) ?_
    refine va_get (D := D) (ci := 6) (v := .ref xh) (C := RX7) (T := TX7) (N := 10) hx hb hts (fun w h => List.mem_cons_of_mem _ (List.mem_append_left _ (List.mem_append_left _ (List.mem_append_right _ h)))) hown hE.1 hP 0 rfl rfl 3 (by decide) (hts (.fieldLink RX7 37 "WornLines" "hand" "LWornLines$Machine;") (by decide +kernel)) (fun _ h9 => h9) rfl dX7_input_19 ?_
    refine va_get (D := D) (ci := 1) (v := .ref xe) (C := RX1) (T := TX1) (N := 12) hx hb hts (fun w h => List.mem_cons_of_mem _ (List.mem_append_left _ (List.mem_append_right _ h))) hown hE.1 hP 1 rfl rfl 0 (by decide) (hts (.fieldLink RX7 89 "WornLines$Machine" "programme" "LWornLines$Programme;") (by decide +kernel)) (fun _ h9 => h9) rfl dX7_input_22 ?_
    refine va_get (D := D) (ci := 2) (v := .int (0)) (C := RX2) (T := TX2) (N := 17) hx hb hts (fun w h => List.mem_cons_of_mem _ (List.mem_append_right _ h)) hown hE.1 hP 2 rfl rfl 3 (by decide) (hts (.fieldLink RX7 128 "WornLines$Programme" "cells" "I") (by decide +kernel)) (fun _ h9 => h9) rfl dX7_input_25 ?_
    refine kc_i (wc := []) (wr := [(h0, .inr (6, [.ref xt, .ref xe, .ref xr, .ref xh, .ref xw, .ref xf, .ref xm, .ref xd, .ref xs, .ref xl])), (xh, .inr (1, [.ref xe, .ref b1, .ref b2, .ref b3, .ref b4, .ref b5, .ref b6, .int (0), .int (0), .int (0), .int (0), .int (0)])), (xe, .inr (2, [.int (0), .ref p1, .ref p2, .int (0), .ref p4, .int (0), .ref p6, .ref p7, .ref p8, .int (0), .ref p10, .ref p11, .ref p12, .ref p13, .ref p14, .ref p15, .ref p16]))]) hP hD hS hA [] [0, 1, 2] rfl rfl (by decide) (by decide) (va_runS (As := [.int (a1), .int (0)]) (rest := []) ⟨hx, hb, hml, hown, hts⟩ (c_X7_within0 l D ak ad _ (a1) ) (va_cwS 2 hts gX7_input_X7_within rfl rfl rfl (by decide +kernel) ⟨Nat.le_of_ble_eq_true rfl, Nat.le_of_ble_eq_true rfl⟩) (kc_pre (As := [.int (a1), .int (0)]) (wc := []) hE hT hP hD hS hA [] (by decide) rfl rfl) rfl rfl hl.1 rfl (lv_room (Nat.le_of_ble_eq_true rfl)) dX7_input_28 ⟨Nat.le_of_ble_eq_true rfl, Nat.le_of_ble_eq_true rfl⟩) (fun r_6 u_4 H locs hw_6 hP hD hS => ?_)
    have hP : va_P D vwCl [(h0, .inr (6, [.ref xt, .ref xe, .ref xr, .ref xh, .ref xw, .ref xf, .ref xm, .ref xd, .ref xs, .ref xl])), (xh, .inr (1, [.ref xe, .ref b1, .ref b2, .ref b3, .ref b4, .ref b5, .ref b6, .int (0), .int (0), .int (0), .int (0), .int (0)])), (xe, .inr (2, [.int (0), .ref p1, .ref p2, .int (0), .ref p4, .int (0), .ref p6, .ref p7, .ref p8, .int (0), .ref p10, .ref p11, .ref p12, .ref p13, .ref p14, .ref p15, .ref p16]))] H := hP
    have hD : va_D A [(h0, .inr (6, [.ref xt, .ref xe, .ref xr, .ref xh, .ref xw, .ref xf, .ref xm, .ref xd, .ref xs, .ref xl])), (xh, .inr (1, [.ref xe, .ref b1, .ref b2, .ref b3, .ref b4, .ref b5, .ref b6, .int (0), .int (0), .int (0), .int (0), .int (0)])), (xe, .inr (2, [.int (0), .ref p1, .ref p2, .int (0), .ref p4, .int (0), .ref p6, .ref p7, .ref p8, .int (0), .ref p10, .ref p11, .ref p12, .ref p13, .ref p14, .ref p15, .ref p16]))] := hD
    subst hw_6
    refine lv_if_ne (tgt := 36) hx hb dX7_input_31 (by decide) (fun c_31 => ?_) (fun c_31 => ?_)
    · exact absurd c_31 (by decide)
    · refine lv_iconst (v := (-1)) hx hb dX7_input_34 (by decide) ?_
      have hP9 := hP.sub (ws' := []) [] rfl
      have hD9 := hD.sub (ws' := []) [] (by decide) rfl
      refine W.widen (k := 0) (n := 0) (Nat.le_of_ble_eq_true rfl) (Nat.le_of_ble_eq_true rfl) ?_
      exact W.iret (v := -1) hx hb hr (fun t ht hW => ⟨⟨-1, (()), rfl, rfl, by rw [ht]; exact hP9, by rw [hAe]; exact hD9⟩, by rw [hAe]; exact hS.F ht⟩) hS.2.2 dX7_input_35

set_option maxHeartbeats 4000000 in
set_option maxRecDepth 100000 in
theorem c_X7_begin (l : Launch) (D : va_G) (ak : Nat → ClassId) (ad : Nat → Nat) (sz : Nat) (h0 : Nat) (xt : Nat) (xe : Nat) (xr : Nat) (xh : Nat) (xw : Nat) (xf : Nat) (xm : Nat) (xd : Nat) (xs : Nat) (xl : Nat) (b1 : Nat) (b2 : Nat) (b3 : Nat) (b4 : Nat) (b5 : Nat) (b6 : Nat) (p1 : Nat) (p2 : Nat) (p4 : Nat) (p6 : Nat) (p7 : Nat) (p8 : Nat) (p10 : Nat) (p11 : Nat) (p12 : Nat) (p13 : Nat) (p14 : Nat) (p15 : Nat) (p16 : Nat) (a0 : Int32)  : Met l yX7_begin wsX7_begin ({ frames := 1, cells := 0, slots := 0, locals := 21 }) (cPre D ak ad [.ref h0, .int (a0)] ([(h0, .inr (6, [.ref xt, .ref xe, .ref xr, .ref xh, .ref xw, .ref xf, .ref xm, .ref xd, .ref xs, .ref xl])), (xh, .inr (1, [.ref xe, .ref b1, .ref b2, .ref b3, .ref b4, .ref b5, .ref b6, .int (0), .int (0), .int (0), .int (0), .int (0)])), (xe, .inr (2, [.int (0), .ref p1, .ref p2, .int (0), .ref p4, .int (0), .ref p6, .ref p7, .ref p8, .int (0), .ref p10, .ref p11, .ref p12, .ref p13, .ref p14, .ref p15, .ref p16]))]) sz) (cI D (S := Unit) (fun (r : Int32) (u : Unit) => r = 0) (fun u => []) ([(h0, .inr (6, [.ref xt, .ref xe, .ref xr, .ref xh, .ref xw, .ref xf, .ref xm, .ref xd, .ref xs, .ref xl])), (xh, .inr (1, [.ref xe, .ref b1, .ref b2, .ref b3, .ref b4, .ref b5, .ref b6, .int (0), .int (0), .int (0), .int (0), .int (0)])), (xe, .inr (2, [.int (0), .ref p1, .ref p2, .int (0), .ref p4, .int (0), .ref p6, .ref p7, .ref p8, .int (0), .ref p10, .ref p11, .ref p12, .ref p13, .ref p14, .ref p15, .ref p16]))]) sz) 0 0 (va_A ([(h0, .inr (6, [.ref xt, .ref xe, .ref xr, .ref xh, .ref xw, .ref xf, .ref xm, .ref xd, .ref xs, .ref xl])), (xh, .inr (1, [.ref xe, .ref b1, .ref b2, .ref b3, .ref b4, .ref b5, .ref b6, .int (0), .int (0), .int (0), .int (0), .int (0)])), (xe, .inr (2, [.int (0), .ref p1, .ref p2, .int (0), .ref p4, .int (0), .ref p6, .ref p7, .ref p8, .int (0), .ref p10, .ref p11, .ref p12, .ref p13, .ref p14, .ref p15, .ref p16]))]) sz) := by
  refine Met.ofW (cc := cX7_begin) (maxL := 2) (ret := (some .boolean)) (by decide) rfl ?_
  intro p e s m args below meth c s₁ B hml hv
  obtain ⟨rfl, hsz, hP, hE, hD0, hT⟩ := hv
  have hx := B.exec
  have hb := B.bytes
  have hr := B.returns
  have hts := atoms_spec (ws := wsX7_begin) B.pre
  have hown : s.vm.findClass RX7 = some m.cls := findClass_of_methodNamed B.named
  have hlocks := B.notSynchronized
  subst hsz
  have hD := hD0.self (sz := s.heap.size)
  generalize hAe : va_A ([(h0, .inr (6, [.ref xt, .ref xe, .ref xr, .ref xh, .ref xw, .ref xf, .ref xm, .ref xd, .ref xs, .ref xl])), (xh, .inr (1, [.ref xe, .ref b1, .ref b2, .ref b3, .ref b4, .ref b5, .ref b6, .int (0), .int (0), .int (0), .int (0), .int (0)])), (xe, .inr (2, [.int (0), .ref p1, .ref p2, .int (0), .ref p4, .int (0), .ref p6, .ref p7, .ref p8, .int (0), .ref p10, .ref p11, .ref p12, .ref p13, .ref p14, .ref p15, .ref p16]))]) s.heap.size = A at hD hT ⊢
  have hA : ∀ q : Nat, s.heap.size ≤ q → A q := fun q h => by rw [← hAe]; exact Or.inr h
  have hS : va_S A s.heap s.heap [] := va_S.rf
  have hl := lv_entry ([.ref h0, .int (a0)]) (n := 2) (Nat.le_of_ble_eq_true rfl)
  rw [lg_entry_eq]
  generalize (lg_sl ([.ref h0, .int (a0)]) ++ List.replicate (2 - (lg_sl ([.ref h0, .int (a0)])).length) Slot.unset).toArray = ls at hl ⊢
  have hl : lv_has ls 2 [(0, .ref h0), (1, .int (a0))] := hl
  have hP : va_P D vwCl [(h0, .inr (6, [.ref xt, .ref xe, .ref xr, .ref xh, .ref xw, .ref xf, .ref xm, .ref xd, .ref xs, .ref xl])), (xh, .inr (1, [.ref xe, .ref b1, .ref b2, .ref b3, .ref b4, .ref b5, .ref b6, .int (0), .int (0), .int (0), .int (0), .int (0)])), (xe, .inr (2, [.int (0), .ref p1, .ref p2, .int (0), .ref p4, .int (0), .ref p6, .ref p7, .ref p8, .int (0), .ref p10, .ref p11, .ref p12, .ref p13, .ref p14, .ref p15, .ref p16]))] s.heap := hP
  refine lv_aload_n hx hb dX7_begin_0 rfl (lv_at hl 0 rfl) ?_
  refine lv_iload_n hx hb dX7_begin_1 rfl (lv_at hl 1 rfl) ?_
  refine kc_i (wc := [(h0, .inr (6, [.ref xt, .ref xe, .ref xr, .ref xh, .ref xw, .ref xf, .ref xm, .ref xd, .ref xs, .ref xl])), (xh, .inr (1, [.ref xe, .ref b1, .ref b2, .ref b3, .ref b4, .ref b5, .ref b6, .int (0), .int (0), .int (0), .int (0), .int (0)])), (xe, .inr (2, [.int (0), .ref p1, .ref p2, .int (0), .ref p4, .int (0), .ref p6, .ref p7, .ref p8, .int (0), .ref p10, .ref p11, .ref p12, .ref p13, .ref p14, .ref p15, .ref p16]))]) (wr := []) hP hD hS hA [0, 1, 2] [] rfl rfl (by decide) (by decide) (va_runV (As := [.int (a0)]) (rest := []) ⟨hx, hb, hml, hown, hts⟩ (c_X7_canWalk l D ak ad _ (h0) (xt) (xe) (xr) (xh) (xw) (xf) (xm) (xd) (xs) (xl) (b1) (b2) (b3) (b4) (b5) (b6) (p1) (p2) (p4) (p6) (p7) (p8) (p10) (p11) (p12) (p13) (p14) (p15) (p16) (a0) ) (cwV 1 hts gX7_begin_X7_canWalk rfl rfl rfl (by decide +kernel) ⟨Nat.le_of_ble_eq_true rfl, Nat.le_of_ble_eq_true rfl⟩) (kc_preV (As := [.int (a0)]) (wc := [(h0, .inr (6, [.ref xt, .ref xe, .ref xr, .ref xh, .ref xw, .ref xf, .ref xm, .ref xd, .ref xs, .ref xl])), (xh, .inr (1, [.ref xe, .ref b1, .ref b2, .ref b3, .ref b4, .ref b5, .ref b6, .int (0), .int (0), .int (0), .int (0), .int (0)])), (xe, .inr (2, [.int (0), .ref p1, .ref p2, .int (0), .ref p4, .int (0), .ref p6, .ref p7, .ref p8, .int (0), .ref p10, .ref p11, .ref p12, .ref p13, .ref p14, .ref p15, .ref p16]))]) hE hT hP hD hS hA [0, 1, 2] (by decide) rfl rfl 0 6 rfl rfl rfl) rfl rfl hl.1 rfl (lv_room (Nat.le_of_ble_eq_true rfl)) dX7_begin_2 ⟨Nat.le_of_ble_eq_true rfl, Nat.le_of_ble_eq_true rfl⟩) (fun r_2 u_0 H locs hw_2 hP hD hS => ?_)
  have hP : va_P D vwCl [(h0, .inr (6, [.ref xt, .ref xe, .ref xr, .ref xh, .ref xw, .ref xf, .ref xm, .ref xd, .ref xs, .ref xl])), (xh, .inr (1, [.ref xe, .ref b1, .ref b2, .ref b3, .ref b4, .ref b5, .ref b6, .int (0), .int (0), .int (0), .int (0), .int (0)])), (xe, .inr (2, [.int (0), .ref p1, .ref p2, .int (0), .ref p4, .int (0), .ref p6, .ref p7, .ref p8, .int (0), .ref p10, .ref p11, .ref p12, .ref p13, .ref p14, .ref p15, .ref p16]))] H := hP
  have hD : va_D A [(h0, .inr (6, [.ref xt, .ref xe, .ref xr, .ref xh, .ref xw, .ref xf, .ref xm, .ref xd, .ref xs, .ref xl])), (xh, .inr (1, [.ref xe, .ref b1, .ref b2, .ref b3, .ref b4, .ref b5, .ref b6, .int (0), .int (0), .int (0), .int (0), .int (0)])), (xe, .inr (2, [.int (0), .ref p1, .ref p2, .int (0), .ref p4, .int (0), .ref p6, .ref p7, .ref p8, .int (0), .ref p10, .ref p11, .ref p12, .ref p13, .ref p14, .ref p15, .ref p16]))] := hD
  subst hw_2
  refine lv_if_ne (tgt := 10) hx hb dX7_begin_5 (by decide) (fun c_5 => ?_) (fun c_5 => ?_)
  · exact absurd c_5 (by decide)
  · refine lv_iconst (v := 0) hx hb dX7_begin_8 (by decide) ?_
    have hP9 := hP.sub (ws' := []) [] rfl
    have hD9 := hD.sub (ws' := []) [] (by decide) rfl
    refine W.widen (k := 0) (n := 0) (Nat.le_of_ble_eq_true rfl) (Nat.le_of_ble_eq_true rfl) ?_
    exact W.zret (v := 0) hx hb hr (rfl) (fun t ht hW => ⟨⟨0, (()), rfl, rfl, by rw [ht]; exact hP9, by rw [hAe]; exact hD9⟩, by rw [hAe]; exact hS.F ht⟩) hS.2.2 dX7_begin_9

set_option maxHeartbeats 4000000 in
set_option maxRecDepth 100000 in
theorem c_X1_fallIfHole (l : Launch) (D : va_G) (ak : Nat → ClassId) (ad : Nat → Nat) (sz : Nat) (h0 : Nat) (xe : Nat) (b1 : Nat) (b2 : Nat) (b3 : Nat) (b4 : Nat) (b5 : Nat) (b6 : Nat)  : Met l yX1_fallIfHole wsX1_fallIfHole ({ frames := 0, cells := 0, slots := 0, locals := 0 }) (cPre D ak ad [.ref h0] ([(h0, .inr (1, [.ref xe, .ref b1, .ref b2, .ref b3, .ref b4, .ref b5, .ref b6, .int (0), .int (0), .int (0), .int (0), .int (0)]))]) sz) (cV D (S := Unit) (fun (u : Unit) => True) (fun u => [(h0, .inr (1, [.ref xe, .ref b1, .ref b2, .ref b3, .ref b4, .ref b5, .ref b6, .int (0), .int (0), .int (0), .int (0), .int (0)]))]) ([(h0, .inr (1, [.ref xe, .ref b1, .ref b2, .ref b3, .ref b4, .ref b5, .ref b6, .int (0), .int (0), .int (0), .int (0), .int (0)]))]) sz) 0 0 (va_A ([(h0, .inr (1, [.ref xe, .ref b1, .ref b2, .ref b3, .ref b4, .ref b5, .ref b6, .int (0), .int (0), .int (0), .int (0), .int (0)]))]) sz) := by
  refine Met.ofW (cc := cX1_fallIfHole) (maxL := 1) (ret := none) (by decide) rfl ?_
  intro p e s m args below meth c s₁ B hml hv
  obtain ⟨rfl, hsz, hP, hE, hD0, hT⟩ := hv
  have hx := B.exec
  have hb := B.bytes
  have hr := B.returns
  have hts := atoms_spec (ws := wsX1_fallIfHole) B.pre
  have hown : s.vm.findClass RX1 = some m.cls := findClass_of_methodNamed B.named
  have hlocks := B.notSynchronized
  subst hsz
  have hD := hD0.self (sz := s.heap.size)
  generalize hAe : va_A ([(h0, .inr (1, [.ref xe, .ref b1, .ref b2, .ref b3, .ref b4, .ref b5, .ref b6, .int (0), .int (0), .int (0), .int (0), .int (0)]))]) s.heap.size = A at hD hT ⊢
  have hA : ∀ q : Nat, s.heap.size ≤ q → A q := fun q h => by rw [← hAe]; exact Or.inr h
  have hS : va_S A s.heap s.heap [] := va_S.rf
  have hl := lv_entry ([.ref h0]) (n := 1) (Nat.le_of_ble_eq_true rfl)
  rw [lg_entry_eq]
  generalize (lg_sl ([.ref h0]) ++ List.replicate (1 - (lg_sl ([.ref h0])).length) Slot.unset).toArray = ls at hl ⊢
  have hl : lv_has ls 1 [(0, .ref h0)] := hl
  have hP : va_P D vwCl [(h0, .inr (1, [.ref xe, .ref b1, .ref b2, .ref b3, .ref b4, .ref b5, .ref b6, .int (0), .int (0), .int (0), .int (0), .int (0)]))] s.heap := hP
  refine lv_aload_n hx hb dX1_fallIfHole_0 rfl (lv_at hl 0 rfl) ?_
  refine va_get (D := D) (ci := 1) (v := .int (0)) (C := RX1) (T := TX1) (N := 12) hx hb hts (fun w h => List.mem_cons_of_mem _ (List.mem_append_left _ (List.mem_append_right _ h))) hown hE.1 hP 0 rfl rfl 8 (by decide) (hts (.fieldLink RX1 31 "WornLines$Machine" "state" "I") (by decide +kernel)) (fun _ h9 => h9) rfl dX1_fallIfHole_1 ?_
  refine lv_iconst (v := 1) hx hb dX1_fallIfHole_4 (by decide) ?_
  refine lv_icmp_ne (tgt := 57) hx hb dX1_fallIfHole_5 (by decide) (fun c_5 => ?_) (fun c_5 => ?_)
  · have hP9 := hP.sub (ws' := [(h0, .inr (1, [.ref xe, .ref b1, .ref b2, .ref b3, .ref b4, .ref b5, .ref b6, .int (0), .int (0), .int (0), .int (0), .int (0)]))]) [0] rfl
    have hD9 := hD.sub (ws' := [(h0, .inr (1, [.ref xe, .ref b1, .ref b2, .ref b3, .ref b4, .ref b5, .ref b6, .int (0), .int (0), .int (0), .int (0), .int (0)]))]) [0] (by decide) rfl
    refine W.widen (k := 0) (n := 0) (Nat.le_of_ble_eq_true rfl) (Nat.le_of_ble_eq_true rfl) ?_
    exact W.vret hx hb hr (fun t ht hW => ⟨⟨(()), rfl, trivial, by rw [ht]; exact hP9, by rw [hAe]; exact hD9⟩, by rw [hAe]; exact hS.F ht⟩) hS.2.2 dX1_fallIfHole_57
  · exact absurd c_5 (by decide)

set_option maxHeartbeats 4000000 in
set_option maxRecDepth 100000 in
theorem c_X1_step (l : Launch) (D : va_G) (ak : Nat → ClassId) (ad : Nat → Nat) (sz : Nat) (h0 : Nat) (xe : Nat) (b1 : Nat) (b2 : Nat) (b3 : Nat) (b4 : Nat) (b5 : Nat) (b6 : Nat)  : Met l yX1_step wsX1_step ({ frames := 1, cells := 0, slots := 0, locals := 20 }) (cPre D ak ad [.ref h0] ([(h0, .inr (1, [.ref xe, .ref b1, .ref b2, .ref b3, .ref b4, .ref b5, .ref b6, .int (0), .int (0), .int (0), .int (0), .int (0)]))]) sz) (cI D (S := Unit) (fun (r : Int32) (u : Unit) => r = 0) (fun u => [(h0, .inr (1, [.ref xe, .ref b1, .ref b2, .ref b3, .ref b4, .ref b5, .ref b6, .int (0), .int (0), .int (0), .int (0), .int (0)]))]) ([(h0, .inr (1, [.ref xe, .ref b1, .ref b2, .ref b3, .ref b4, .ref b5, .ref b6, .int (0), .int (0), .int (0), .int (0), .int (0)]))]) sz) 0 0 (va_A ([(h0, .inr (1, [.ref xe, .ref b1, .ref b2, .ref b3, .ref b4, .ref b5, .ref b6, .int (0), .int (0), .int (0), .int (0), .int (0)]))]) sz) := by
  refine Met.ofW (cc := cX1_step) (maxL := 1) (ret := (some .boolean)) (by decide) rfl ?_
  intro p e s m args below meth c s₁ B hml hv
  obtain ⟨rfl, hsz, hP, hE, hD0, hT⟩ := hv
  have hx := B.exec
  have hb := B.bytes
  have hr := B.returns
  have hts := atoms_spec (ws := wsX1_step) B.pre
  have hown : s.vm.findClass RX1 = some m.cls := findClass_of_methodNamed B.named
  have hlocks := B.notSynchronized
  subst hsz
  have hD := hD0.self (sz := s.heap.size)
  generalize hAe : va_A ([(h0, .inr (1, [.ref xe, .ref b1, .ref b2, .ref b3, .ref b4, .ref b5, .ref b6, .int (0), .int (0), .int (0), .int (0), .int (0)]))]) s.heap.size = A at hD hT ⊢
  have hA : ∀ q : Nat, s.heap.size ≤ q → A q := fun q h => by rw [← hAe]; exact Or.inr h
  have hS : va_S A s.heap s.heap [] := va_S.rf
  have hl := lv_entry ([.ref h0]) (n := 1) (Nat.le_of_ble_eq_true rfl)
  rw [lg_entry_eq]
  generalize (lg_sl ([.ref h0]) ++ List.replicate (1 - (lg_sl ([.ref h0])).length) Slot.unset).toArray = ls at hl ⊢
  have hl : lv_has ls 1 [(0, .ref h0)] := hl
  have hP : va_P D vwCl [(h0, .inr (1, [.ref xe, .ref b1, .ref b2, .ref b3, .ref b4, .ref b5, .ref b6, .int (0), .int (0), .int (0), .int (0), .int (0)]))] s.heap := hP
  refine lv_aload_n hx hb dX1_step_0 rfl (lv_at hl 0 rfl) ?_
  refine kc_v (wc := [(h0, .inr (1, [.ref xe, .ref b1, .ref b2, .ref b3, .ref b4, .ref b5, .ref b6, .int (0), .int (0), .int (0), .int (0), .int (0)]))]) (wr := []) hP hD hS hA [0] [] rfl rfl (by decide) (by decide) (va_runV (As := []) (rest := []) ⟨hx, hb, hml, hown, hts⟩ (c_X1_fallIfHole l D ak ad _ (h0) (xe) (b1) (b2) (b3) (b4) (b5) (b6) ) (cwV 0 hts gX1_step_X1_fallIfHole rfl rfl rfl (by decide +kernel) ⟨Nat.le_of_ble_eq_true rfl, Nat.le_of_ble_eq_true rfl⟩) (kc_preV (As := []) (wc := [(h0, .inr (1, [.ref xe, .ref b1, .ref b2, .ref b3, .ref b4, .ref b5, .ref b6, .int (0), .int (0), .int (0), .int (0), .int (0)]))]) hE hT hP hD hS hA [0] (by decide) rfl rfl 0 1 rfl rfl rfl) rfl rfl hl.1 rfl (lv_room (Nat.le_of_ble_eq_true rfl)) dX1_step_1 ⟨Nat.le_of_ble_eq_true rfl, Nat.le_of_ble_eq_true rfl⟩) (fun u_0 H locs hw_2 hP hD hS => ?_)
  have hP : va_P D vwCl [(h0, .inr (1, [.ref xe, .ref b1, .ref b2, .ref b3, .ref b4, .ref b5, .ref b6, .int (0), .int (0), .int (0), .int (0), .int (0)]))] H := hP
  have hD : va_D A [(h0, .inr (1, [.ref xe, .ref b1, .ref b2, .ref b3, .ref b4, .ref b5, .ref b6, .int (0), .int (0), .int (0), .int (0), .int (0)]))] := hD
  refine lv_aload_n hx hb dX1_step_4 rfl (lv_at hl 0 rfl) ?_
  refine va_get (D := D) (ci := 1) (v := .int (0)) (C := RX1) (T := TX1) (N := 12) hx hb hts (fun w h => List.mem_cons_of_mem _ (List.mem_append_left _ (List.mem_append_right _ h))) hown hE.1 hP 0 rfl rfl 8 (by decide) (hts (.fieldLink RX1 31 "WornLines$Machine" "state" "I") (by decide +kernel)) (fun _ h9 => h9) rfl dX1_step_5 ?_
  refine lv_iconst (v := 1) hx hb dX1_step_8 (by decide) ?_
  refine lv_icmp_ne (tgt := 29) hx hb dX1_step_9 (by decide) (fun c_9 => ?_) (fun c_9 => ?_)
  · refine lv_iconst (v := 0) hx hb dX1_step_29 (by decide) ?_
    have hP9 := hP.sub (ws' := [(h0, .inr (1, [.ref xe, .ref b1, .ref b2, .ref b3, .ref b4, .ref b5, .ref b6, .int (0), .int (0), .int (0), .int (0), .int (0)]))]) [0] rfl
    have hD9 := hD.sub (ws' := [(h0, .inr (1, [.ref xe, .ref b1, .ref b2, .ref b3, .ref b4, .ref b5, .ref b6, .int (0), .int (0), .int (0), .int (0), .int (0)]))]) [0] (by decide) rfl
    refine W.widen (k := 0) (n := 0) (Nat.le_of_ble_eq_true rfl) (Nat.le_of_ble_eq_true rfl) ?_
    exact W.zret (v := 0) hx hb hr (rfl) (fun t ht hW => ⟨⟨0, (()), rfl, rfl, by rw [ht]; exact hP9, by rw [hAe]; exact hD9⟩, by rw [hAe]; exact hS.F ht⟩) hS.2.2 dX1_step_30
  · exact absurd c_9 (by decide)

set_option maxHeartbeats 4000000 in
set_option maxRecDepth 100000 in
theorem c_X1_go (l : Launch) (D : va_G) (ak : Nat → ClassId) (ad : Nat → Nat) (sz : Nat) (h0 : Nat) (xe : Nat) (b1 : Nat) (b2 : Nat) (b3 : Nat) (b4 : Nat) (b5 : Nat) (b6 : Nat) (k : Int32)  : Met l yX1_go wsX1_go ({ frames := 2, cells := 0, slots := 0, locals := 40 }) (cPre D ak ad [.ref h0, .int (k)] ([(h0, .inr (1, [.ref xe, .ref b1, .ref b2, .ref b3, .ref b4, .ref b5, .ref b6, .int (0), .int (0), .int (0), .int (0), .int (0)]))]) sz) (cI D (S := Unit) (fun (r : Int32) (u : Unit) => r = 0) (fun u => [(h0, .inr (1, [.ref xe, .ref b1, .ref b2, .ref b3, .ref b4, .ref b5, .ref b6, .int (0), .int (0), .int (0), .int (0), .int (0)]))]) ([(h0, .inr (1, [.ref xe, .ref b1, .ref b2, .ref b3, .ref b4, .ref b5, .ref b6, .int (0), .int (0), .int (0), .int (0), .int (0)]))]) sz) 0 0 (va_A ([(h0, .inr (1, [.ref xe, .ref b1, .ref b2, .ref b3, .ref b4, .ref b5, .ref b6, .int (0), .int (0), .int (0), .int (0), .int (0)]))]) sz) := by
  refine Met.ofW (cc := cX1_go) (maxL := 4) (ret := (some .int)) (by decide) rfl ?_
  intro p e s m args below meth c s₁ B hml hv
  obtain ⟨rfl, hsz, hP, hE, hD0, hT⟩ := hv
  have hx := B.exec
  have hb := B.bytes
  have hr := B.returns
  have hts := atoms_spec (ws := wsX1_go) B.pre
  have hown : s.vm.findClass RX1 = some m.cls := findClass_of_methodNamed B.named
  have hlocks := B.notSynchronized
  subst hsz
  have hD := hD0.self (sz := s.heap.size)
  generalize hAe : va_A ([(h0, .inr (1, [.ref xe, .ref b1, .ref b2, .ref b3, .ref b4, .ref b5, .ref b6, .int (0), .int (0), .int (0), .int (0), .int (0)]))]) s.heap.size = A at hD hT ⊢
  have hA : ∀ q : Nat, s.heap.size ≤ q → A q := fun q h => by rw [← hAe]; exact Or.inr h
  have hS : va_S A s.heap s.heap [] := va_S.rf
  have hl := lv_entry ([.ref h0, .int (k)]) (n := 4) (Nat.le_of_ble_eq_true rfl)
  rw [lg_entry_eq]
  generalize (lg_sl ([.ref h0, .int (k)]) ++ List.replicate (4 - (lg_sl ([.ref h0, .int (k)])).length) Slot.unset).toArray = ls at hl ⊢
  have hl : lv_has ls 4 [(0, .ref h0), (1, .int (k))] := hl
  have hP : va_P D vwCl [(h0, .inr (1, [.ref xe, .ref b1, .ref b2, .ref b3, .ref b4, .ref b5, .ref b6, .int (0), .int (0), .int (0), .int (0), .int (0)]))] s.heap := hP
  refine lv_iconst (v := 0) hx hb dX1_go_0 (by decide) ?_
  refine lv_istore_n (lv' := [(2, .int (0)), (0, .ref h0), (1, .int (k))]) hx hb dX1_go_1 rfl hl (by decide) rfl (fun ls hl => ?_)
  refine lv_iconst (v := 0) hx hb dX1_go_2 (by decide) ?_
  refine lv_istore_n (lv' := [(3, .int (0)), (2, .int (0)), (0, .ref h0), (1, .int (k))]) hx hb dX1_go_3 rfl hl (by decide) rfl (fun ls hl => ?_)
  refine lv_iload_n hx hb dX1_go_4 rfl (lv_at hl 0 rfl) ?_
  refine lv_iload_n hx hb dX1_go_5 rfl (lv_at hl 3 rfl) ?_
  refine lv_icmp_ge (tgt := 25) hx hb dX1_go_6 (by decide) (fun c_6 => ?_) (fun c_6 => ?_)
  · refine lv_iload_n hx hb dX1_go_25 rfl (lv_at hl 1 rfl) ?_
    have hP9 := hP.sub (ws' := [(h0, .inr (1, [.ref xe, .ref b1, .ref b2, .ref b3, .ref b4, .ref b5, .ref b6, .int (0), .int (0), .int (0), .int (0), .int (0)]))]) [0] rfl
    have hD9 := hD.sub (ws' := [(h0, .inr (1, [.ref xe, .ref b1, .ref b2, .ref b3, .ref b4, .ref b5, .ref b6, .int (0), .int (0), .int (0), .int (0), .int (0)]))]) [0] (by decide) rfl
    refine W.widen (k := 0) (n := 0) (Nat.le_of_ble_eq_true rfl) (Nat.le_of_ble_eq_true rfl) ?_
    exact W.iret (v := 0) hx hb hr (fun t ht hW => ⟨⟨0, (()), rfl, rfl, by rw [ht]; exact hP9, by rw [hAe]; exact hD9⟩, by rw [hAe]; exact hS.F ht⟩) hS.2.2 dX1_go_26
  · refine lv_aload_n hx hb dX1_go_9 rfl (lv_at hl 2 rfl) ?_
    refine kc_i (wc := [(h0, .inr (1, [.ref xe, .ref b1, .ref b2, .ref b3, .ref b4, .ref b5, .ref b6, .int (0), .int (0), .int (0), .int (0), .int (0)]))]) (wr := []) hP hD hS hA [0] [] rfl rfl (by decide) (by decide) (va_runV (As := []) (rest := []) ⟨hx, hb, hml, hown, hts⟩ (c_X1_step l D ak ad _ (h0) (xe) (b1) (b2) (b3) (b4) (b5) (b6) ) (cwV 0 hts gX1_go_X1_step rfl rfl rfl (by decide +kernel) ⟨Nat.le_of_ble_eq_true rfl, Nat.le_of_ble_eq_true rfl⟩) (kc_preV (As := []) (wc := [(h0, .inr (1, [.ref xe, .ref b1, .ref b2, .ref b3, .ref b4, .ref b5, .ref b6, .int (0), .int (0), .int (0), .int (0), .int (0)]))]) hE hT hP hD hS hA [0] (by decide) rfl rfl 0 1 rfl rfl rfl) rfl rfl hl.1 rfl (lv_room (Nat.le_of_ble_eq_true rfl)) dX1_go_10 ⟨Nat.le_of_ble_eq_true rfl, Nat.le_of_ble_eq_true rfl⟩) (fun r_2 u_0 H locs hw_2 hP hD hS => ?_)
    have hP : va_P D vwCl [(h0, .inr (1, [.ref xe, .ref b1, .ref b2, .ref b3, .ref b4, .ref b5, .ref b6, .int (0), .int (0), .int (0), .int (0), .int (0)]))] H := hP
    have hD : va_D A [(h0, .inr (1, [.ref xe, .ref b1, .ref b2, .ref b3, .ref b4, .ref b5, .ref b6, .int (0), .int (0), .int (0), .int (0), .int (0)]))] := hD
    subst hw_2
    refine lv_if_eq (tgt := 25) hx hb dX1_go_13 (by decide) (fun c_13 => ?_) (fun c_13 => ?_)
    · refine lv_iload_n hx hb dX1_go_25 rfl (lv_at hl 1 rfl) ?_
      have hP9 := hP.sub (ws' := [(h0, .inr (1, [.ref xe, .ref b1, .ref b2, .ref b3, .ref b4, .ref b5, .ref b6, .int (0), .int (0), .int (0), .int (0), .int (0)]))]) [0] rfl
      have hD9 := hD.sub (ws' := [(h0, .inr (1, [.ref xe, .ref b1, .ref b2, .ref b3, .ref b4, .ref b5, .ref b6, .int (0), .int (0), .int (0), .int (0), .int (0)]))]) [0] (by decide) rfl
      refine W.widen (k := 0) (n := 0) (Nat.le_of_ble_eq_true rfl) (Nat.le_of_ble_eq_true rfl) ?_
      exact W.iret (v := 0) hx hb hr (fun t ht hW => ⟨⟨0, (()), rfl, rfl, by rw [ht]; exact hP9, by rw [hAe]; exact hD9⟩, by rw [hAe]; exact hS.F ht⟩) hS.2.2 dX1_go_26
    · exact absurd c_13 (by decide)
