theorem dX4_init_0 : decode cX4_init 0 = .ok (.aload_n 0, 1) := by decide +kernel
theorem dX4_init_1 : decode cX4_init 1 = .ok (.invokespecial 3, 3) := by decide +kernel
theorem dX4_init_4 : decode cX4_init 4 = .ok (.aload_n 0, 1) := by decide +kernel
theorem dX4_init_5 : decode cX4_init 5 = .ok (.bipush 16, 2) := by decide +kernel
theorem dX4_init_7 : decode cX4_init 7 = .ok (.newarray .int, 2) := by decide +kernel
theorem dX4_init_9 : decode cX4_init 9 = .ok (.putfield 9, 3) := by decide +kernel
theorem dX4_init_12 : decode cX4_init 12 = .ok (.aload_n 0, 1) := by decide +kernel
theorem dX4_init_13 : decode cX4_init 13 = .ok (.bipush 16, 2) := by decide +kernel
theorem dX4_init_15 : decode cX4_init 15 = .ok (.newarray .int, 2) := by decide +kernel
theorem dX4_init_17 : decode cX4_init 17 = .ok (.putfield 15, 3) := by decide +kernel
theorem dX4_init_20 : decode cX4_init 20 = .ok (.aload_n 0, 1) := by decide +kernel
theorem dX4_init_21 : decode cX4_init 21 = .ok (.bipush 16, 2) := by decide +kernel
theorem dX4_init_23 : decode cX4_init 23 = .ok (.newarray .int, 2) := by decide +kernel
theorem dX4_init_25 : decode cX4_init 25 = .ok (.putfield 18, 3) := by decide +kernel
theorem dX4_init_28 : decode cX4_init 28 = .ok (.aload_n 0, 1) := by decide +kernel
theorem dX4_init_29 : decode cX4_init 29 = .ok (.bipush 16, 2) := by decide +kernel
theorem dX4_init_31 : decode cX4_init 31 = .ok (.newarray .int, 2) := by decide +kernel
theorem dX4_init_33 : decode cX4_init 33 = .ok (.putfield 21, 3) := by decide +kernel
theorem dX4_init_36 : decode cX4_init 36 = .ok (.return_, 1) := by decide +kernel
set_option maxHeartbeats 4000000 in
set_option maxRecDepth 100000 in
theorem c_X4_init (l : Launch) (D : va_G) (ak : Nat → ClassId) (ad : Nat → Nat) (sz : Nat) (h0 : Nat)  : Met l yX4_init wsX4_init ({ frames := 1, cells := 4, slots := 64, locals := 12 }) (cPre D ak ad [.ref h0] ([(h0, .inr (4, [.null, .int (0), .null, .null, .null, .null]))]) sz) (cV D (S := (Nat → Nat)) (fun (u : (Nat → Nat)) => True) (fun u => [(h0, .inr (4, [.null, .int (0), .ref (u 0), .ref (u 1), .ref (u 2), .ref (u 3)])), (u 0, .inl (ak 0, 16, .inl (fun _ => 0))), (u 1, .inl (ak 0, 16, .inl (fun _ => 0))), (u 2, .inl (ak 0, 16, .inl (fun _ => 0))), (u 3, .inl (ak 0, 16, .inl (fun _ => 0)))]) ([(h0, .inr (4, [.null, .int (0), .null, .null, .null, .null]))]) sz) 4 64 (va_A ([(h0, .inr (4, [.null, .int (0), .null, .null, .null, .null]))]) sz) := by
  refine Met.ofW (cc := cX4_init) (maxL := 1) (ret := none) (by decide) rfl ?_
  intro p e s m args below meth c s₁ B hml hv
  obtain ⟨rfl, hsz, hP, hE, hD0, hT⟩ := hv
  have hx := B.exec
  have hb := B.bytes
  have hr := B.returns
  have hts := atoms_spec (ws := wsX4_init) B.pre
  have hown : s.vm.findClass RX4 = some m.cls := findClass_of_methodNamed B.named
  have hlocks := B.notSynchronized
  have hin : meth.name = "<init>" := (name_of_methodNamed B.named B.method).1
  subst hsz
  have hD := hD0.self (sz := s.heap.size)
  generalize hAe : va_A ([(h0, .inr (4, [.null, .int (0), .null, .null, .null, .null]))]) s.heap.size = A at hD hT ⊢
  have hA : ∀ q : Nat, s.heap.size ≤ q → A q := fun q h => by rw [← hAe]; exact Or.inr h
  have hS : va_S A s.heap s.heap [] := va_S.rf
  have hl := lv_entry ([.ref h0]) (n := 1) (Nat.le_of_ble_eq_true rfl)
  rw [lg_entry_eq]
  generalize (lg_sl ([.ref h0]) ++ List.replicate (1 - (lg_sl ([.ref h0])).length) Slot.unset).toArray = ls at hl ⊢
  have hl : lv_has ls 1 [(0, .ref h0)] := hl
  have hP : va_P D vwCl [(h0, .inr (4, [.null, .int (0), .null, .null, .null, .null]))] s.heap := hP
  refine lv_aload_n hx hb dX4_init_0 rfl (lv_at hl 0 rfl) ?_
  refine W.objInit hx hb hown (hts (.methodLink RX4 3 objectInit) (by decide +kernel)) (hts (.instanceMethod objectInit) (by decide +kernel)) (hts (.code objectInit ⟨#[0xb1]⟩ 1 none) (by decide +kernel)) rfl (by rw [hml]; exact hl.1) rfl dX4_init_1 (Nat.le_of_ble_eq_true rfl) (Nat.le_of_ble_eq_true rfl) ?_
  refine W.eq (g2 := F0 m 4 ls ([])) rfl ?_
  refine lv_aload_n hx hb dX4_init_4 rfl (lv_at hl 0 rfl) ?_
  refine lv_bipush (v := 16) hx hb dX4_init_5 (by decide) ?_
  refine kn_a (a0 := (16, .inl (fun _ => 0))) (N' := 16) hx hb (hts (.arrayClass .int) (by decide +kernel)) hE 0 rfl rfl (fun _ h => h) hP hD hS hA (fun _ => rfl) (by decide) (rfl) (Nat.le_of_ble_eq_true rfl) (Nat.le_of_ble_eq_true rfl) (Nat.le_of_ble_eq_true rfl) dX4_init_7 (fun q_1 H hP hD hS => ?_)
  have hP : va_P D vwCl [(h0, .inr (4, [.null, .int (0), .null, .null, .null, .null])), (q_1, .inl (ak 0, 16, .inl (fun _ => 0)))] H := hP
  have hD : va_D A [(h0, .inr (4, [.null, .int (0), .null, .null, .null, .null])), (q_1, .inl (ak 0, 16, .inl (fun _ => 0)))] := hD
  refine W.widen (k := 1) (n := 16) (Nat.le_of_ble_eq_true rfl) (Nat.le_of_ble_eq_true rfl) ?_
  refine va_putF (D := D) (ci := 4) (v := .ref q_1) (ty := .array .int) (C := RX4) (T := TX4) (N := 6) hx hb hts (fun w h => List.mem_cons_of_mem _ (List.mem_append_right _ h)) tyX4 tyX4_ok nmX4 hown hE.1 hP hD hS 0 rfl rfl 2 (by decide) (hts (.fieldLink RX4 9 "WornLines$Survey" "often" "[I") (by decide +kernel)) (fun _ h9 => h9) rfl hin rfl (by decide +kernel) rfl rfl (Nat.le_of_ble_eq_true rfl) dX4_init_9 (fun H locs hP hD hS => ?_)
  have hP : va_P D vwCl [(h0, .inr (4, [.null, .int (0), .ref q_1, .null, .null, .null])), (q_1, .inl (ak 0, 16, .inl (fun _ => 0)))] H := hP
  have hD : va_D A [(h0, .inr (4, [.null, .int (0), .ref q_1, .null, .null, .null])), (q_1, .inl (ak 0, 16, .inl (fun _ => 0)))] := hD
  refine lv_aload_n hx hb dX4_init_12 rfl (lv_at hl 0 rfl) ?_
  refine lv_bipush (v := 16) hx hb dX4_init_13 (by decide) ?_
  refine kn_a (a0 := (16, .inl (fun _ => 0))) (N' := 16) hx hb (hts (.arrayClass .int) (by decide +kernel)) hE 0 rfl rfl (fun _ h => h) hP hD hS hA (fun _ => rfl) (by decide) (rfl) (Nat.le_of_ble_eq_true rfl) (Nat.le_of_ble_eq_true rfl) (Nat.le_of_ble_eq_true rfl) dX4_init_15 (fun q_2 H hP hD hS => ?_)
  have hP : va_P D vwCl [(h0, .inr (4, [.null, .int (0), .ref q_1, .null, .null, .null])), (q_1, .inl (ak 0, 16, .inl (fun _ => 0))), (q_2, .inl (ak 0, 16, .inl (fun _ => 0)))] H := hP
  have hD : va_D A [(h0, .inr (4, [.null, .int (0), .ref q_1, .null, .null, .null])), (q_1, .inl (ak 0, 16, .inl (fun _ => 0))), (q_2, .inl (ak 0, 16, .inl (fun _ => 0)))] := hD
  refine W.widen (k := 2) (n := 32) (Nat.le_of_ble_eq_true rfl) (Nat.le_of_ble_eq_true rfl) ?_
  refine va_putF (D := D) (ci := 4) (v := .ref q_2) (ty := .array .int) (C := RX4) (T := TX4) (N := 6) hx hb hts (fun w h => List.mem_cons_of_mem _ (List.mem_append_right _ h)) tyX4 tyX4_ok nmX4 hown hE.1 hP hD hS 0 rfl rfl 3 (by decide) (hts (.fieldLink RX4 15 "WornLines$Survey" "by" "[I") (by decide +kernel)) (fun _ h9 => h9) rfl hin rfl (by decide +kernel) rfl rfl (Nat.le_of_ble_eq_true rfl) dX4_init_17 (fun H locs hP hD hS => ?_)
  have hP : va_P D vwCl [(h0, .inr (4, [.null, .int (0), .ref q_1, .ref q_2, .null, .null])), (q_1, .inl (ak 0, 16, .inl (fun _ => 0))), (q_2, .inl (ak 0, 16, .inl (fun _ => 0)))] H := hP
  have hD : va_D A [(h0, .inr (4, [.null, .int (0), .ref q_1, .ref q_2, .null, .null])), (q_1, .inl (ak 0, 16, .inl (fun _ => 0))), (q_2, .inl (ak 0, 16, .inl (fun _ => 0)))] := hD
  refine lv_aload_n hx hb dX4_init_20 rfl (lv_at hl 0 rfl) ?_
  refine lv_bipush (v := 16) hx hb dX4_init_21 (by decide) ?_
  refine kn_a (a0 := (16, .inl (fun _ => 0))) (N' := 16) hx hb (hts (.arrayClass .int) (by decide +kernel)) hE 0 rfl rfl (fun _ h => h) hP hD hS hA (fun _ => rfl) (by decide) (rfl) (Nat.le_of_ble_eq_true rfl) (Nat.le_of_ble_eq_true rfl) (Nat.le_of_ble_eq_true rfl) dX4_init_23 (fun q_3 H hP hD hS => ?_)
  have hP : va_P D vwCl [(h0, .inr (4, [.null, .int (0), .ref q_1, .ref q_2, .null, .null])), (q_1, .inl (ak 0, 16, .inl (fun _ => 0))), (q_2, .inl (ak 0, 16, .inl (fun _ => 0))), (q_3, .inl (ak 0, 16, .inl (fun _ => 0)))] H := hP
  have hD : va_D A [(h0, .inr (4, [.null, .int (0), .ref q_1, .ref q_2, .null, .null])), (q_1, .inl (ak 0, 16, .inl (fun _ => 0))), (q_2, .inl (ak 0, 16, .inl (fun _ => 0))), (q_3, .inl (ak 0, 16, .inl (fun _ => 0)))] := hD
  refine W.widen (k := 3) (n := 48) (Nat.le_of_ble_eq_true rfl) (Nat.le_of_ble_eq_true rfl) ?_
  refine va_putF (D := D) (ci := 4) (v := .ref q_3) (ty := .array .int) (C := RX4) (T := TX4) (N := 6) hx hb hts (fun w h => List.mem_cons_of_mem _ (List.mem_append_right _ h)) tyX4 tyX4_ok nmX4 hown hE.1 hP hD hS 0 rfl rfl 4 (by decide) (hts (.fieldLink RX4 18 "WornLines$Survey" "peak" "[I") (by decide +kernel)) (fun _ h9 => h9) rfl hin rfl (by decide +kernel) rfl rfl (Nat.le_of_ble_eq_true rfl) dX4_init_25 (fun H locs hP hD hS => ?_)
  have hP : va_P D vwCl [(h0, .inr (4, [.null, .int (0), .ref q_1, .ref q_2, .ref q_3, .null])), (q_1, .inl (ak 0, 16, .inl (fun _ => 0))), (q_2, .inl (ak 0, 16, .inl (fun _ => 0))), (q_3, .inl (ak 0, 16, .inl (fun _ => 0)))] H := hP
  have hD : va_D A [(h0, .inr (4, [.null, .int (0), .ref q_1, .ref q_2, .ref q_3, .null])), (q_1, .inl (ak 0, 16, .inl (fun _ => 0))), (q_2, .inl (ak 0, 16, .inl (fun _ => 0))), (q_3, .inl (ak 0, 16, .inl (fun _ => 0)))] := hD
  refine lv_aload_n hx hb dX4_init_28 rfl (lv_at hl 0 rfl) ?_
  refine lv_bipush (v := 16) hx hb dX4_init_29 (by decide) ?_
  refine kn_a (a0 := (16, .inl (fun _ => 0))) (N' := 16) hx hb (hts (.arrayClass .int) (by decide +kernel)) hE 0 rfl rfl (fun _ h => h) hP hD hS hA (fun _ => rfl) (by decide) (rfl) (Nat.le_of_ble_eq_true rfl) (Nat.le_of_ble_eq_true rfl) (Nat.le_of_ble_eq_true rfl) dX4_init_31 (fun q_4 H hP hD hS => ?_)
  have hP : va_P D vwCl [(h0, .inr (4, [.null, .int (0), .ref q_1, .ref q_2, .ref q_3, .null])), (q_1, .inl (ak 0, 16, .inl (fun _ => 0))), (q_2, .inl (ak 0, 16, .inl (fun _ => 0))), (q_3, .inl (ak 0, 16, .inl (fun _ => 0))), (q_4, .inl (ak 0, 16, .inl (fun _ => 0)))] H := hP
  have hD : va_D A [(h0, .inr (4, [.null, .int (0), .ref q_1, .ref q_2, .ref q_3, .null])), (q_1, .inl (ak 0, 16, .inl (fun _ => 0))), (q_2, .inl (ak 0, 16, .inl (fun _ => 0))), (q_3, .inl (ak 0, 16, .inl (fun _ => 0))), (q_4, .inl (ak 0, 16, .inl (fun _ => 0)))] := hD
  refine W.widen (k := 4) (n := 64) (Nat.le_of_ble_eq_true rfl) (Nat.le_of_ble_eq_true rfl) ?_
  refine va_putF (D := D) (ci := 4) (v := .ref q_4) (ty := .array .int) (C := RX4) (T := TX4) (N := 6) hx hb hts (fun w h => List.mem_cons_of_mem _ (List.mem_append_right _ h)) tyX4 tyX4_ok nmX4 hown hE.1 hP hD hS 0 rfl rfl 5 (by decide) (hts (.fieldLink RX4 21 "WornLines$Survey" "over" "[I") (by decide +kernel)) (fun _ h9 => h9) rfl hin rfl (by decide +kernel) rfl rfl (Nat.le_of_ble_eq_true rfl) dX4_init_33 (fun H locs hP hD hS => ?_)
  have hP : va_P D vwCl [(h0, .inr (4, [.null, .int (0), .ref q_1, .ref q_2, .ref q_3, .ref q_4])), (q_1, .inl (ak 0, 16, .inl (fun _ => 0))), (q_2, .inl (ak 0, 16, .inl (fun _ => 0))), (q_3, .inl (ak 0, 16, .inl (fun _ => 0))), (q_4, .inl (ak 0, 16, .inl (fun _ => 0)))] H := hP
  have hD : va_D A [(h0, .inr (4, [.null, .int (0), .ref q_1, .ref q_2, .ref q_3, .ref q_4])), (q_1, .inl (ak 0, 16, .inl (fun _ => 0))), (q_2, .inl (ak 0, 16, .inl (fun _ => 0))), (q_3, .inl (ak 0, 16, .inl (fun _ => 0))), (q_4, .inl (ak 0, 16, .inl (fun _ => 0)))] := hD
  have hP9 := hP.sub (ws' := [(h0, .inr (4, [.null, .int (0), .ref q_1, .ref q_2, .ref q_3, .ref q_4])), (q_1, .inl (ak 0, 16, .inl (fun _ => 0))), (q_2, .inl (ak 0, 16, .inl (fun _ => 0))), (q_3, .inl (ak 0, 16, .inl (fun _ => 0))), (q_4, .inl (ak 0, 16, .inl (fun _ => 0)))]) [0, 1, 2, 3, 4] rfl
  have hD9 := hD.sub (ws' := [(h0, .inr (4, [.null, .int (0), .ref q_1, .ref q_2, .ref q_3, .ref q_4])), (q_1, .inl (ak 0, 16, .inl (fun _ => 0))), (q_2, .inl (ak 0, 16, .inl (fun _ => 0))), (q_3, .inl (ak 0, 16, .inl (fun _ => 0))), (q_4, .inl (ak 0, 16, .inl (fun _ => 0)))]) [0, 1, 2, 3, 4] (by decide) rfl
  refine W.widen (k := 4) (n := 64) (Nat.le_of_ble_eq_true rfl) (Nat.le_of_ble_eq_true rfl) ?_
  exact W.vret hx hb hr (fun t ht hW => ⟨⟨((fun k => match k with | 0 => q_1 | 1 => q_2 | 2 => q_3 | _ => q_4)), rfl, trivial, by rw [ht]; exact hP9, hD9⟩, hS.F ht⟩) hS.2.2 dX4_init_36

