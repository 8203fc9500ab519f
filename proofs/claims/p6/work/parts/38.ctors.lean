theorem dX5_init_0 : decode cX5_init 0 = .ok (.aload_n 0, 1) := by decide +kernel
theorem dX5_init_1 : decode cX5_init 1 = .ok (.invokespecial 3, 3) := by decide +kernel
theorem dX5_init_4 : decode cX5_init 4 = .ok (.aload_n 0, 1) := by decide +kernel
theorem dX5_init_5 : decode cX5_init 5 = .ok (.sipush 1000, 3) := by decide +kernel
theorem dX5_init_8 : decode cX5_init 8 = .ok (.newarray .char, 2) := by decide +kernel
theorem dX5_init_10 : decode cX5_init 10 = .ok (.putfield 9, 3) := by decide +kernel
theorem dX5_init_13 : decode cX5_init 13 = .ok (.aload_n 0, 1) := by decide +kernel
theorem dX5_init_14 : decode cX5_init 14 = .ok (.sipush 1001, 3) := by decide +kernel
theorem dX5_init_17 : decode cX5_init 17 = .ok (.anewarray 15, 3) := by decide +kernel
theorem dX5_init_20 : decode cX5_init 20 = .ok (.putfield 17, 3) := by decide +kernel
theorem dX5_init_23 : decode cX5_init 23 = .ok (.aload_n 0, 1) := by decide +kernel
theorem dX5_init_24 : decode cX5_init 24 = .ok (.sipush 1001, 3) := by decide +kernel
theorem dX5_init_27 : decode cX5_init 27 = .ok (.newarray .int, 2) := by decide +kernel
theorem dX5_init_29 : decode cX5_init 29 = .ok (.putfield 21, 3) := by decide +kernel
theorem dX5_init_32 : decode cX5_init 32 = .ok (.aload_n 0, 1) := by decide +kernel
theorem dX5_init_33 : decode cX5_init 33 = .ok (.sipush 1001, 3) := by decide +kernel
theorem dX5_init_36 : decode cX5_init 36 = .ok (.newarray .long, 2) := by decide +kernel
theorem dX5_init_38 : decode cX5_init 38 = .ok (.putfield 25, 3) := by decide +kernel
theorem dX5_init_41 : decode cX5_init 41 = .ok (.return_, 1) := by decide +kernel
theorem dX2_init_0 : decode cX2_init 0 = .ok (.aload_n 0, 1) := by decide +kernel
theorem dX2_init_1 : decode cX2_init 1 = .ok (.invokespecial 3, 3) := by decide +kernel
theorem dX2_init_4 : decode cX2_init 4 = .ok (.aload_n 0, 1) := by decide +kernel
theorem dX2_init_5 : decode cX2_init 5 = .ok (.iconst 4, 1) := by decide +kernel
theorem dX2_init_6 : decode cX2_init 6 = .ok (.newarray .int, 2) := by decide +kernel
theorem dX2_init_8 : decode cX2_init 8 = .ok (.putfield 9, 3) := by decide +kernel
theorem dX2_init_11 : decode cX2_init 11 = .ok (.aload_n 0, 1) := by decide +kernel
theorem dX2_init_12 : decode cX2_init 12 = .ok (.iconst 4, 1) := by decide +kernel
theorem dX2_init_13 : decode cX2_init 13 = .ok (.newarray .int, 2) := by decide +kernel
theorem dX2_init_15 : decode cX2_init 15 = .ok (.putfield 15, 3) := by decide +kernel
theorem dX2_init_18 : decode cX2_init 18 = .ok (.aload_n 0, 1) := by decide +kernel
theorem dX2_init_19 : decode cX2_init 19 = .ok (.bipush 6, 2) := by decide +kernel
theorem dX2_init_21 : decode cX2_init 21 = .ok (.newarray .int, 2) := by decide +kernel
theorem dX2_init_23 : decode cX2_init 23 = .ok (.putfield 18, 3) := by decide +kernel
theorem dX2_init_26 : decode cX2_init 26 = .ok (.aload_n 0, 1) := by decide +kernel
theorem dX2_init_27 : decode cX2_init 27 = .ok (.iconst 2, 1) := by decide +kernel
theorem dX2_init_28 : decode cX2_init 28 = .ok (.newarray .int, 2) := by decide +kernel
theorem dX2_init_30 : decode cX2_init 30 = .ok (.putfield 21, 3) := by decide +kernel
theorem dX2_init_33 : decode cX2_init 33 = .ok (.aload_n 0, 1) := by decide +kernel
theorem dX2_init_34 : decode cX2_init 34 = .ok (.iconst 2, 1) := by decide +kernel
theorem dX2_init_35 : decode cX2_init 35 = .ok (.newarray .int, 2) := by decide +kernel
theorem dX2_init_37 : decode cX2_init 37 = .ok (.putfield 24, 3) := by decide +kernel
theorem dX2_init_40 : decode cX2_init 40 = .ok (.aload_n 0, 1) := by decide +kernel
theorem dX2_init_41 : decode cX2_init 41 = .ok (.iconst 2, 1) := by decide +kernel
theorem dX2_init_42 : decode cX2_init 42 = .ok (.newarray .int, 2) := by decide +kernel
theorem dX2_init_44 : decode cX2_init 44 = .ok (.putfield 27, 3) := by decide +kernel
theorem dX2_init_47 : decode cX2_init 47 = .ok (.aload_n 0, 1) := by decide +kernel
theorem dX2_init_48 : decode cX2_init 48 = .ok (.bipush 16, 2) := by decide +kernel
theorem dX2_init_50 : decode cX2_init 50 = .ok (.newarray .int, 2) := by decide +kernel
theorem dX2_init_52 : decode cX2_init 52 = .ok (.putfield 30, 3) := by decide +kernel
theorem dX2_init_55 : decode cX2_init 55 = .ok (.aload_n 0, 1) := by decide +kernel
theorem dX2_init_56 : decode cX2_init 56 = .ok (.bipush 16, 2) := by decide +kernel
theorem dX2_init_58 : decode cX2_init 58 = .ok (.newarray .int, 2) := by decide +kernel
theorem dX2_init_60 : decode cX2_init 60 = .ok (.putfield 33, 3) := by decide +kernel
theorem dX2_init_63 : decode cX2_init 63 = .ok (.aload_n 0, 1) := by decide +kernel
theorem dX2_init_64 : decode cX2_init 64 = .ok (.bipush 16, 2) := by decide +kernel
theorem dX2_init_66 : decode cX2_init 66 = .ok (.newarray .int, 2) := by decide +kernel
theorem dX2_init_68 : decode cX2_init 68 = .ok (.putfield 36, 3) := by decide +kernel
theorem dX2_init_71 : decode cX2_init 71 = .ok (.aload_n 0, 1) := by decide +kernel
theorem dX2_init_72 : decode cX2_init 72 = .ok (.bipush 16, 2) := by decide +kernel
theorem dX2_init_74 : decode cX2_init 74 = .ok (.newarray .int, 2) := by decide +kernel
theorem dX2_init_76 : decode cX2_init 76 = .ok (.putfield 39, 3) := by decide +kernel
theorem dX2_init_79 : decode cX2_init 79 = .ok (.aload_n 0, 1) := by decide +kernel
theorem dX2_init_80 : decode cX2_init 80 = .ok (.bipush 16, 2) := by decide +kernel
theorem dX2_init_82 : decode cX2_init 82 = .ok (.newarray .int, 2) := by decide +kernel
theorem dX2_init_84 : decode cX2_init 84 = .ok (.putfield 42, 3) := by decide +kernel
theorem dX2_init_87 : decode cX2_init 87 = .ok (.aload_n 0, 1) := by decide +kernel
theorem dX2_init_88 : decode cX2_init 88 = .ok (.bipush 16, 2) := by decide +kernel
theorem dX2_init_90 : decode cX2_init 90 = .ok (.newarray .int, 2) := by decide +kernel
theorem dX2_init_92 : decode cX2_init 92 = .ok (.putfield 45, 3) := by decide +kernel
theorem dX2_init_95 : decode cX2_init 95 = .ok (.aload_n 0, 1) := by decide +kernel
theorem dX2_init_96 : decode cX2_init 96 = .ok (.iconst 0, 1) := by decide +kernel
theorem dX2_init_97 : decode cX2_init 97 = .ok (.newarray .int, 2) := by decide +kernel
theorem dX2_init_99 : decode cX2_init 99 = .ok (.putfield 48, 3) := by decide +kernel
theorem dX2_init_102 : decode cX2_init 102 = .ok (.return_, 1) := by decide +kernel
theorem dX3_init_0 : decode cX3_init 0 = .ok (.aload_n 0, 1) := by decide +kernel
theorem dX3_init_1 : decode cX3_init 1 = .ok (.invokespecial 3, 3) := by decide +kernel
theorem dX3_init_4 : decode cX3_init 4 = .ok (.aload_n 0, 1) := by decide +kernel
theorem dX3_init_5 : decode cX3_init 5 = .ok (.iconst 4, 1) := by decide +kernel
theorem dX3_init_6 : decode cX3_init 6 = .ok (.newarray .long, 2) := by decide +kernel
theorem dX3_init_8 : decode cX3_init 8 = .ok (.putfield 9, 3) := by decide +kernel
theorem dX3_init_11 : decode cX3_init 11 = .ok (.aload_n 0, 1) := by decide +kernel
theorem dX3_init_12 : decode cX3_init 12 = .ok (.bipush 6, 2) := by decide +kernel
theorem dX3_init_14 : decode cX3_init 14 = .ok (.newarray .long, 2) := by decide +kernel
theorem dX3_init_16 : decode cX3_init 16 = .ok (.putfield 15, 3) := by decide +kernel
theorem dX3_init_19 : decode cX3_init 19 = .ok (.aload_n 0, 1) := by decide +kernel
theorem dX3_init_20 : decode cX3_init 20 = .ok (.sipush 1000, 3) := by decide +kernel
theorem dX3_init_23 : decode cX3_init 23 = .ok (.newarray .int, 2) := by decide +kernel
theorem dX3_init_25 : decode cX3_init 25 = .ok (.putfield 18, 3) := by decide +kernel
theorem dX3_init_28 : decode cX3_init 28 = .ok (.aload_n 0, 1) := by decide +kernel
theorem dX3_init_29 : decode cX3_init 29 = .ok (.getstatic 22, 3) := by decide +kernel
theorem dX3_init_32 : decode cX3_init 32 = .ok (.putfield 28, 3) := by decide +kernel
theorem dX3_init_35 : decode cX3_init 35 = .ok (.aload_n 0, 1) := by decide +kernel
theorem dX3_init_36 : decode cX3_init 36 = .ok (.aload_n 1, 1) := by decide +kernel
theorem dX3_init_37 : decode cX3_init 37 = .ok (.putfield 31, 3) := by decide +kernel
theorem dX3_init_40 : decode cX3_init 40 = .ok (.aload_n 0, 1) := by decide +kernel
theorem dX3_init_41 : decode cX3_init 41 = .ok (.aload_n 2, 1) := by decide +kernel
theorem dX3_init_42 : decode cX3_init 42 = .ok (.putfield 35, 3) := by decide +kernel
theorem dX3_init_45 : decode cX3_init 45 = .ok (.return_, 1) := by decide +kernel
theorem dX1_init_0 : decode cX1_init 0 = .ok (.aload_n 0, 1) := by decide +kernel
theorem dX1_init_1 : decode cX1_init 1 = .ok (.invokespecial 3, 3) := by decide +kernel
theorem dX1_init_4 : decode cX1_init 4 = .ok (.aload_n 0, 1) := by decide +kernel
theorem dX1_init_5 : decode cX1_init 5 = .ok (.bipush 16, 2) := by decide +kernel
theorem dX1_init_7 : decode cX1_init 7 = .ok (.newarray .int, 2) := by decide +kernel
theorem dX1_init_9 : decode cX1_init 9 = .ok (.putfield 9, 3) := by decide +kernel
theorem dX1_init_12 : decode cX1_init 12 = .ok (.aload_n 0, 1) := by decide +kernel
theorem dX1_init_13 : decode cX1_init 13 = .ok (.bipush 16, 2) := by decide +kernel
theorem dX1_init_15 : decode cX1_init 15 = .ok (.newarray .int, 2) := by decide +kernel
theorem dX1_init_17 : decode cX1_init 17 = .ok (.putfield 15, 3) := by decide +kernel
theorem dX1_init_20 : decode cX1_init 20 = .ok (.aload_n 0, 1) := by decide +kernel
theorem dX1_init_21 : decode cX1_init 21 = .ok (.bipush 16, 2) := by decide +kernel
theorem dX1_init_23 : decode cX1_init 23 = .ok (.newarray .int, 2) := by decide +kernel
theorem dX1_init_25 : decode cX1_init 25 = .ok (.putfield 18, 3) := by decide +kernel
theorem dX1_init_28 : decode cX1_init 28 = .ok (.aload_n 0, 1) := by decide +kernel
theorem dX1_init_29 : decode cX1_init 29 = .ok (.bipush 6, 2) := by decide +kernel
theorem dX1_init_31 : decode cX1_init 31 = .ok (.newarray .int, 2) := by decide +kernel
theorem dX1_init_33 : decode cX1_init 33 = .ok (.putfield 21, 3) := by decide +kernel
theorem dX1_init_36 : decode cX1_init 36 = .ok (.aload_n 0, 1) := by decide +kernel
theorem dX1_init_37 : decode cX1_init 37 = .ok (.bipush 32, 2) := by decide +kernel
theorem dX1_init_39 : decode cX1_init 39 = .ok (.newarray .int, 2) := by decide +kernel
theorem dX1_init_41 : decode cX1_init 41 = .ok (.putfield 24, 3) := by decide +kernel
theorem dX1_init_44 : decode cX1_init 44 = .ok (.aload_n 0, 1) := by decide +kernel
theorem dX1_init_45 : decode cX1_init 45 = .ok (.iconst 0, 1) := by decide +kernel
theorem dX1_init_46 : decode cX1_init 46 = .ok (.putfield 27, 3) := by decide +kernel
theorem dX1_init_49 : decode cX1_init 49 = .ok (.aload_n 0, 1) := by decide +kernel
theorem dX1_init_50 : decode cX1_init 50 = .ok (.iconst 0, 1) := by decide +kernel
theorem dX1_init_51 : decode cX1_init 51 = .ok (.putfield 31, 3) := by decide +kernel
theorem dX1_init_54 : decode cX1_init 54 = .ok (.aload_n 0, 1) := by decide +kernel
theorem dX1_init_55 : decode cX1_init 55 = .ok (.aload_n 1, 1) := by decide +kernel
theorem dX1_init_56 : decode cX1_init 56 = .ok (.putfield 34, 3) := by decide +kernel
theorem dX1_init_59 : decode cX1_init 59 = .ok (.aload_n 0, 1) := by decide +kernel
theorem dX1_init_60 : decode cX1_init 60 = .ok (.iload_n 2, 1) := by decide +kernel
theorem dX1_init_61 : decode cX1_init 61 = .ok (.newarray .int, 2) := by decide +kernel
theorem dX1_init_63 : decode cX1_init 63 = .ok (.putfield 38, 3) := by decide +kernel
theorem dX1_init_66 : decode cX1_init 66 = .ok (.return_, 1) := by decide +kernel
theorem dX4_init_0 : decode cX4_init 0 = .ok (.aload_n 0, 1) := by decide +kernel
theorem dX4_init_1 : decode cX4_init 1 = .ok (.invokespecial 3, 3) := by decide +kernel
theorem dX4_init_4 : decode cX4_init 4 = .ok (.aload_n 0, 1) := by decide +kernel
theorem dX4_init_5 : decode cX4_init 5 = .ok (.bipush 16, 2) := by decide +kernel
theorem dX4_init_7 : decode cX4_init 7 = .ok (.newarray .int, 2) := by decide +kernel
theorem dX4_init_9 : decode cX4_init 9 = .ok (.putfield 9, 3) := by decide +kernel
theorem dX4_init_12 : decode cX4_init 12 = .ok (.aload_n 0, 1) := by decide +kernel
theorem dX4_init_13 : decode cX4_init 13 = .ok (.bipush 16, 2) := by decide +kernel
theorem dX4_init_15 : decode cX4_init 15 = .ok (.newarray .int, 2) := by decide +kernel
theorem dX4_init_17 : decode cX4_init 17 = .ok (.putfield 15, 3) := by decide +kernel
theorem dX4_init_20 : decode cX4_init 20 = .ok (.aload_n 0, 1) := by decide +kernel
theorem dX4_init_21 : decode cX4_init 21 = .ok (.bipush 16, 2) := by decide +kernel
theorem dX4_init_23 : decode cX4_init 23 = .ok (.newarray .int, 2) := by decide +kernel
theorem dX4_init_25 : decode cX4_init 25 = .ok (.putfield 18, 3) := by decide +kernel
theorem dX4_init_28 : decode cX4_init 28 = .ok (.aload_n 0, 1) := by decide +kernel
theorem dX4_init_29 : decode cX4_init 29 = .ok (.bipush 16, 2) := by decide +kernel
theorem dX4_init_31 : decode cX4_init 31 = .ok (.newarray .int, 2) := by decide +kernel
theorem dX4_init_33 : decode cX4_init 33 = .ok (.putfield 21, 3) := by decide +kernel
theorem dX4_init_36 : decode cX4_init 36 = .ok (.return_, 1) := by decide +kernel
theorem dX0_init_0 : decode cX0_init 0 = .ok (.aload_n 0, 1) := by decide +kernel
theorem dX0_init_1 : decode cX0_init 1 = .ok (.invokespecial 3, 3) := by decide +kernel
theorem dX0_init_4 : decode cX0_init 4 = .ok (.aload_n 0, 1) := by decide +kernel
theorem dX0_init_5 : decode cX0_init 5 = .ok (.bipush 16, 2) := by decide +kernel
theorem dX0_init_7 : decode cX0_init 7 = .ok (.newarray .int, 2) := by decide +kernel
theorem dX0_init_9 : decode cX0_init 9 = .ok (.putfield 9, 3) := by decide +kernel
theorem dX0_init_12 : decode cX0_init 12 = .ok (.aload_n 0, 1) := by decide +kernel
theorem dX0_init_13 : decode cX0_init 13 = .ok (.bipush 17, 2) := by decide +kernel
theorem dX0_init_15 : decode cX0_init 15 = .ok (.bipush 65, 2) := by decide +kernel
theorem dX0_init_17 : decode cX0_init 17 = .ok (.multianewarray 15 2, 4) := by decide +kernel
theorem dX0_init_21 : decode cX0_init 21 = .ok (.putfield 17, 3) := by decide +kernel
theorem dX0_init_24 : decode cX0_init 24 = .ok (.aload_n 0, 1) := by decide +kernel
theorem dX0_init_25 : decode cX0_init 25 = .ok (.aload_n 1, 1) := by decide +kernel
theorem dX0_init_26 : decode cX0_init 26 = .ok (.putfield 20, 3) := by decide +kernel
theorem dX0_init_29 : decode cX0_init 29 = .ok (.return_, 1) := by decide +kernel
set_option maxHeartbeats 4000000 in
set_option maxRecDepth 100000 in
theorem c_X5_init (l : Launch) (D : va_G) (ak : Nat → ClassId) (ad : Nat → Nat) (sz : Nat) (h0 : Nat)  : Met l yX5_init wsX5_init ({ frames := 1, cells := 4, slots := 4003, locals := 12 }) (cPre D ak ad [.ref h0] ([(h0, .inr (5, [.null, .int (0), .null, .null, .null, .int (0)]))]) sz) (cV D (S := (Nat → Nat)) (fun (u : (Nat → Nat)) => True) (fun u => [(h0, .inr (5, [.ref (u 0), .int (0), .ref (u 1), .ref (u 2), .ref (u 3), .int (0)])), (u 0, .inl (ak 2, 1000, .inl (fun _ => 0))), (u 1, .inl (ak 4, 1001, .inr (.inr (.inr (.inr (fun _ => none)))))), (u 2, .inl (ak 0, 1001, .inl (fun _ => 0))), (u 3, .inl (ak 1, 1001, .inr (.inl (fun _ => 0))))]) ([(h0, .inr (5, [.null, .int (0), .null, .null, .null, .int (0)]))]) sz) 4 4003 (va_A ([(h0, .inr (5, [.null, .int (0), .null, .null, .null, .int (0)]))]) sz) := by
  refine Met.ofW (cc := cX5_init) (maxL := 1) (ret := none) (by decide) rfl ?_
  intro p e s m args below meth c s₁ B hml hv
  obtain ⟨rfl, hsz, hP, hE, hD0, hT⟩ := hv
  have hx := B.exec
  have hb := B.bytes
  have hr := B.returns
  have hts := atoms_spec (ws := wsX5_init) B.pre
  have hown : s.vm.findClass RX5 = some m.cls := findClass_of_methodNamed B.named
  have hlocks := B.notSynchronized
  have hin : meth.name = "<init>" := (name_of_methodNamed B.named B.method).1
  subst hsz
  have hD := hD0.self (sz := s.heap.size)
  generalize hAe : va_A ([(h0, .inr (5, [.null, .int (0), .null, .null, .null, .int (0)]))]) s.heap.size = A at hD hT ⊢
  have hA : ∀ q : Nat, s.heap.size ≤ q → A q := fun q h => by rw [← hAe]; exact Or.inr h
  have hS : va_S A s.heap s.heap [] := va_S.rf
  have hl := lv_entry ([.ref h0]) (n := 1) (Nat.le_of_ble_eq_true rfl)
  rw [lg_entry_eq]
  generalize (lg_sl ([.ref h0]) ++ List.replicate (1 - (lg_sl ([.ref h0])).length) Slot.unset).toArray = ls at hl ⊢
  have hl : lv_has ls 1 [(0, .ref h0)] := hl
  have hP : va_P D vwCl [(h0, .inr (5, [.null, .int (0), .null, .null, .null, .int (0)]))] s.heap := hP
  refine lv_aload_n hx hb dX5_init_0 rfl (lv_at hl 0 rfl) ?_
  refine W.objInit hx hb hown (hts (.methodLink RX5 3 objectInit) (wm_c hw_260)) (hts (.instanceMethod objectInit) (wm_c hw_261)) (hts (.code objectInit ⟨#[0xb1]⟩ 1 none) (wm_c hw_262)) rfl (by rw [hml]; exact hl.1) rfl dX5_init_1 (Nat.le_of_ble_eq_true rfl) (Nat.le_of_ble_eq_true rfl) ?_
  refine W.eq (g2 := F0 m 4 ls ([])) rfl ?_
  refine lv_aload_n hx hb dX5_init_4 rfl (lv_at hl 0 rfl) ?_
  refine lv_sipush (v := 1000) hx hb dX5_init_5 (by decide) ?_
  refine kn_a (atype := .char) (ty := .char) (a0 := (1000, .inl (fun _ => 0))) (N' := 1000) hx hb (hts (.arrayClass .char) (wm_c hw_263)) hE 2 rfl rfl (fun _ h => h) hP hD hS hA (fun cA => vp_cell_i cA 1000 (fun _ => 0)) (by decide) (rfl) (by decide +kernel) (Nat.le_of_ble_eq_true rfl) (Nat.le_of_ble_eq_true rfl) dX5_init_8 (fun q_1 H hP hD hS => ?_)
  have hP : va_P D vwCl [(h0, .inr (5, [.null, .int (0), .null, .null, .null, .int (0)])), (q_1, .inl (ak 2, 1000, .inl (fun _ => 0)))] H := hP
  have hD : va_D A [(h0, .inr (5, [.null, .int (0), .null, .null, .null, .int (0)])), (q_1, .inl (ak 2, 1000, .inl (fun _ => 0)))] := hD
  refine W.widen (k := 1) (n := 1000) (Nat.le_of_ble_eq_true rfl) (Nat.le_of_ble_eq_true rfl) ?_
  refine va_putF (D := D) (ci := 5) (v := .ref q_1) (ty := .array .char) (C := RX5) (T := TX5) (N := 6) hx hb hts (fun w h => wm_c (wc_X5 w h)) tyX5 tyX5_ok nmX5 hown hE.1 hP hD hS 0 rfl rfl 0 (by decide) (hts (.fieldLink RX5 9 "WornLines$Tape" "signs" "[C") (wm_c hw_264)) (fun _ h9 => h9) rfl hin rfl (by decide +kernel) rfl rfl (Nat.le_of_ble_eq_true rfl) dX5_init_10 (fun H locs hP hD hS => ?_)
  have hP : va_P D vwCl [(h0, .inr (5, [.ref q_1, .int (0), .null, .null, .null, .int (0)])), (q_1, .inl (ak 2, 1000, .inl (fun _ => 0)))] H := hP
  have hD : va_D A [(h0, .inr (5, [.ref q_1, .int (0), .null, .null, .null, .int (0)])), (q_1, .inl (ak 2, 1000, .inl (fun _ => 0)))] := hD
  refine lv_aload_n hx hb dX5_init_13 rfl (lv_at hl 0 rfl) ?_
  refine lv_sipush (v := 1001) hx hb dX5_init_14 (by decide) ?_
  refine kn_q (C := RX6) (N' := 1001) hx hb hown (hts (.classLink RX5 15 RX6) (wm_c hw_265)) hE.2.1 hE 4 rfl hP hD hS hA (by decide) rfl (Nat.le_of_ble_eq_true rfl) (Nat.le_of_ble_eq_true rfl) (Nat.le_of_ble_eq_true rfl) dX5_init_17 (fun q_2 H hP hD hS => ?_)
  have hP : va_P D vwCl [(h0, .inr (5, [.ref q_1, .int (0), .null, .null, .null, .int (0)])), (q_1, .inl (ak 2, 1000, .inl (fun _ => 0))), (q_2, .inl (ak 4, 1001, .inr (.inr (.inr (.inr (fun _ => none))))))] H := hP
  have hD : va_D A [(h0, .inr (5, [.ref q_1, .int (0), .null, .null, .null, .int (0)])), (q_1, .inl (ak 2, 1000, .inl (fun _ => 0))), (q_2, .inl (ak 4, 1001, .inr (.inr (.inr (.inr (fun _ => none))))))] := hD
  refine W.widen (k := 2) (n := 2001) (Nat.le_of_ble_eq_true rfl) (Nat.le_of_ble_eq_true rfl) ?_
  refine va_putF (D := D) (ci := 5) (v := .ref q_2) (ty := .array (.object "WornLines$Token")) (C := RX5) (T := TX5) (N := 6) hx hb hts (fun w h => wm_c (wc_X5 w h)) tyX5 tyX5_ok nmX5 hown hE.1 hP hD hS 0 rfl rfl 2 (by decide) (hts (.fieldLink RX5 17 "WornLines$Tape" "tokens" "[LWornLines$Token;") (wm_c hw_266)) (fun _ h9 => h9) rfl hin rfl (by decide +kernel) rfl rfl (Nat.le_of_ble_eq_true rfl) dX5_init_20 (fun H locs hP hD hS => ?_)
  have hP : va_P D vwCl [(h0, .inr (5, [.ref q_1, .int (0), .ref q_2, .null, .null, .int (0)])), (q_1, .inl (ak 2, 1000, .inl (fun _ => 0))), (q_2, .inl (ak 4, 1001, .inr (.inr (.inr (.inr (fun _ => none))))))] H := hP
  have hD : va_D A [(h0, .inr (5, [.ref q_1, .int (0), .ref q_2, .null, .null, .int (0)])), (q_1, .inl (ak 2, 1000, .inl (fun _ => 0))), (q_2, .inl (ak 4, 1001, .inr (.inr (.inr (.inr (fun _ => none))))))] := hD
  refine lv_aload_n hx hb dX5_init_23 rfl (lv_at hl 0 rfl) ?_
  refine lv_sipush (v := 1001) hx hb dX5_init_24 (by decide) ?_
  refine kn_a (atype := .int) (ty := .int) (a0 := (1001, .inl (fun _ => 0))) (N' := 1001) hx hb (hts (.arrayClass .int) (wm_c hw_267)) hE 0 rfl rfl (fun _ h => h) hP hD hS hA (fun cA => vp_cell_i cA 1001 (fun _ => 0)) (by decide) (rfl) (by decide +kernel) (Nat.le_of_ble_eq_true rfl) (Nat.le_of_ble_eq_true rfl) dX5_init_27 (fun q_3 H hP hD hS => ?_)
  have hP : va_P D vwCl [(h0, .inr (5, [.ref q_1, .int (0), .ref q_2, .null, .null, .int (0)])), (q_1, .inl (ak 2, 1000, .inl (fun _ => 0))), (q_2, .inl (ak 4, 1001, .inr (.inr (.inr (.inr (fun _ => none)))))), (q_3, .inl (ak 0, 1001, .inl (fun _ => 0)))] H := hP
  have hD : va_D A [(h0, .inr (5, [.ref q_1, .int (0), .ref q_2, .null, .null, .int (0)])), (q_1, .inl (ak 2, 1000, .inl (fun _ => 0))), (q_2, .inl (ak 4, 1001, .inr (.inr (.inr (.inr (fun _ => none)))))), (q_3, .inl (ak 0, 1001, .inl (fun _ => 0)))] := hD
  refine W.widen (k := 3) (n := 3002) (Nat.le_of_ble_eq_true rfl) (Nat.le_of_ble_eq_true rfl) ?_
  refine va_putF (D := D) (ci := 5) (v := .ref q_3) (ty := .array .int) (C := RX5) (T := TX5) (N := 6) hx hb hts (fun w h => wm_c (wc_X5 w h)) tyX5 tyX5_ok nmX5 hown hE.1 hP hD hS 0 rfl rfl 3 (by decide) (hts (.fieldLink RX5 21 "WornLines$Tape" "places" "[I") (wm_c hw_268)) (fun _ h9 => h9) rfl hin rfl (by decide +kernel) rfl rfl (Nat.le_of_ble_eq_true rfl) dX5_init_29 (fun H locs hP hD hS => ?_)
  have hP : va_P D vwCl [(h0, .inr (5, [.ref q_1, .int (0), .ref q_2, .ref q_3, .null, .int (0)])), (q_1, .inl (ak 2, 1000, .inl (fun _ => 0))), (q_2, .inl (ak 4, 1001, .inr (.inr (.inr (.inr (fun _ => none)))))), (q_3, .inl (ak 0, 1001, .inl (fun _ => 0)))] H := hP
  have hD : va_D A [(h0, .inr (5, [.ref q_1, .int (0), .ref q_2, .ref q_3, .null, .int (0)])), (q_1, .inl (ak 2, 1000, .inl (fun _ => 0))), (q_2, .inl (ak 4, 1001, .inr (.inr (.inr (.inr (fun _ => none)))))), (q_3, .inl (ak 0, 1001, .inl (fun _ => 0)))] := hD
  refine lv_aload_n hx hb dX5_init_32 rfl (lv_at hl 0 rfl) ?_
  refine lv_sipush (v := 1001) hx hb dX5_init_33 (by decide) ?_
  refine kn_a (atype := .long) (ty := .long) (a0 := (1001, .inr (.inl (fun _ => 0)))) (N' := 1001) hx hb (hts (.arrayClass .long) (wm_c hw_269)) hE 1 rfl rfl (fun _ h => h) hP hD hS hA (fun cA => vp_cell_l cA 1001 (fun _ => 0)) (by decide) (rfl) (by decide +kernel) (Nat.le_of_ble_eq_true rfl) (Nat.le_of_ble_eq_true rfl) dX5_init_36 (fun q_4 H hP hD hS => ?_)
  have hP : va_P D vwCl [(h0, .inr (5, [.ref q_1, .int (0), .ref q_2, .ref q_3, .null, .int (0)])), (q_1, .inl (ak 2, 1000, .inl (fun _ => 0))), (q_2, .inl (ak 4, 1001, .inr (.inr (.inr (.inr (fun _ => none)))))), (q_3, .inl (ak 0, 1001, .inl (fun _ => 0))), (q_4, .inl (ak 1, 1001, .inr (.inl (fun _ => 0))))] H := hP
  have hD : va_D A [(h0, .inr (5, [.ref q_1, .int (0), .ref q_2, .ref q_3, .null, .int (0)])), (q_1, .inl (ak 2, 1000, .inl (fun _ => 0))), (q_2, .inl (ak 4, 1001, .inr (.inr (.inr (.inr (fun _ => none)))))), (q_3, .inl (ak 0, 1001, .inl (fun _ => 0))), (q_4, .inl (ak 1, 1001, .inr (.inl (fun _ => 0))))] := hD
  refine W.widen (k := 4) (n := 4003) (Nat.le_of_ble_eq_true rfl) (Nat.le_of_ble_eq_true rfl) ?_
  refine va_putF (D := D) (ci := 5) (v := .ref q_4) (ty := .array .long) (C := RX5) (T := TX5) (N := 6) hx hb hts (fun w h => wm_c (wc_X5 w h)) tyX5 tyX5_ok nmX5 hown hE.1 hP hD hS 0 rfl rfl 4 (by decide) (hts (.fieldLink RX5 25 "WornLines$Tape" "values" "[J") (wm_c hw_270)) (fun _ h9 => h9) rfl hin rfl (by decide +kernel) rfl rfl (Nat.le_of_ble_eq_true rfl) dX5_init_38 (fun H locs hP hD hS => ?_)
  have hP : va_P D vwCl [(h0, .inr (5, [.ref q_1, .int (0), .ref q_2, .ref q_3, .ref q_4, .int (0)])), (q_1, .inl (ak 2, 1000, .inl (fun _ => 0))), (q_2, .inl (ak 4, 1001, .inr (.inr (.inr (.inr (fun _ => none)))))), (q_3, .inl (ak 0, 1001, .inl (fun _ => 0))), (q_4, .inl (ak 1, 1001, .inr (.inl (fun _ => 0))))] H := hP
  have hD : va_D A [(h0, .inr (5, [.ref q_1, .int (0), .ref q_2, .ref q_3, .ref q_4, .int (0)])), (q_1, .inl (ak 2, 1000, .inl (fun _ => 0))), (q_2, .inl (ak 4, 1001, .inr (.inr (.inr (.inr (fun _ => none)))))), (q_3, .inl (ak 0, 1001, .inl (fun _ => 0))), (q_4, .inl (ak 1, 1001, .inr (.inl (fun _ => 0))))] := hD
  have hP9 := hP.sub (ws' := [(h0, .inr (5, [.ref q_1, .int (0), .ref q_2, .ref q_3, .ref q_4, .int (0)])), (q_1, .inl (ak 2, 1000, .inl (fun _ => 0))), (q_2, .inl (ak 4, 1001, .inr (.inr (.inr (.inr (fun _ => none)))))), (q_3, .inl (ak 0, 1001, .inl (fun _ => 0))), (q_4, .inl (ak 1, 1001, .inr (.inl (fun _ => 0))))]) [0, 1, 2, 3, 4] rfl
  have hD9 := hD.sub (ws' := [(h0, .inr (5, [.ref q_1, .int (0), .ref q_2, .ref q_3, .ref q_4, .int (0)])), (q_1, .inl (ak 2, 1000, .inl (fun _ => 0))), (q_2, .inl (ak 4, 1001, .inr (.inr (.inr (.inr (fun _ => none)))))), (q_3, .inl (ak 0, 1001, .inl (fun _ => 0))), (q_4, .inl (ak 1, 1001, .inr (.inl (fun _ => 0))))]) [0, 1, 2, 3, 4] (by decide) rfl
  refine W.widen (k := 4) (n := 4003) (Nat.le_of_ble_eq_true rfl) (Nat.le_of_ble_eq_true rfl) ?_
  exact W.vret hx hb hr (fun t ht hW => ⟨⟨((fun k => match k with | 0 => q_1 | 1 => q_2 | 2 => q_3 | _ => q_4)), rfl, trivial, by rw [ht]; exact hP9, by rw [hAe]; exact hD9⟩, by rw [hAe]; exact hS.F ht⟩) hS.2.2 dX5_init_41

set_option maxHeartbeats 4000000 in
set_option maxRecDepth 100000 in
theorem c_X2_init (l : Launch) (D : va_G) (ak : Nat → ClassId) (ad : Nat → Nat) (sz : Nat) (h0 : Nat)  : Met l yX2_init wsX2_init ({ frames := 1, cells := 13, slots := 116, locals := 12 }) (cPre D ak ad [.ref h0] ([(h0, .inr (2, [.int (0), .null, .null, .int (0), .null, .int (0), .null, .null, .null, .int (0), .null, .null, .null, .null, .null, .null, .null]))]) sz) (cV D (S := (Nat → Nat)) (fun (u : (Nat → Nat)) => True) (fun u => [(h0, .inr (2, [.int (0), .ref (u 0), .ref (u 1), .int (0), .ref (u 2), .int (0), .ref (u 3), .ref (u 4), .ref (u 5), .int (0), .ref (u 6), .ref (u 7), .ref (u 8), .ref (u 9), .ref (u 10), .ref (u 11), .ref (u 12)])), (u 0, .inl (ak 0, 4, .inl (fun _ => 0))), (u 1, .inl (ak 0, 4, .inl (fun _ => 0))), (u 2, .inl (ak 0, 6, .inl (fun _ => 0))), (u 3, .inl (ak 0, 2, .inl (fun _ => 0))), (u 4, .inl (ak 0, 2, .inl (fun _ => 0))), (u 5, .inl (ak 0, 2, .inl (fun _ => 0))), (u 6, .inl (ak 0, 16, .inl (fun _ => 0))), (u 7, .inl (ak 0, 16, .inl (fun _ => 0))), (u 8, .inl (ak 0, 16, .inl (fun _ => 0))), (u 9, .inl (ak 0, 16, .inl (fun _ => 0))), (u 10, .inl (ak 0, 16, .inl (fun _ => 0))), (u 11, .inl (ak 0, 16, .inl (fun _ => 0))), (u 12, .inl (ak 0, 0, .inl (fun _ => 0)))]) ([(h0, .inr (2, [.int (0), .null, .null, .int (0), .null, .int (0), .null, .null, .null, .int (0), .null, .null, .null, .null, .null, .null, .null]))]) sz) 13 116 (va_A ([(h0, .inr (2, [.int (0), .null, .null, .int (0), .null, .int (0), .null, .null, .null, .int (0), .null, .null, .null, .null, .null, .null, .null]))]) sz) := by
  refine Met.ofW (cc := cX2_init) (maxL := 1) (ret := none) (by decide) rfl ?_
  intro p e s m args below meth c s₁ B hml hv
  obtain ⟨rfl, hsz, hP, hE, hD0, hT⟩ := hv
  have hx := B.exec
  have hb := B.bytes
  have hr := B.returns
  have hts := atoms_spec (ws := wsX2_init) B.pre
  have hown : s.vm.findClass RX2 = some m.cls := findClass_of_methodNamed B.named
  have hlocks := B.notSynchronized
  have hin : meth.name = "<init>" := (name_of_methodNamed B.named B.method).1
  subst hsz
  have hD := hD0.self (sz := s.heap.size)
  generalize hAe : va_A ([(h0, .inr (2, [.int (0), .null, .null, .int (0), .null, .int (0), .null, .null, .null, .int (0), .null, .null, .null, .null, .null, .null, .null]))]) s.heap.size = A at hD hT ⊢
  have hA : ∀ q : Nat, s.heap.size ≤ q → A q := fun q h => by rw [← hAe]; exact Or.inr h
  have hS : va_S A s.heap s.heap [] := va_S.rf
  have hl := lv_entry ([.ref h0]) (n := 1) (Nat.le_of_ble_eq_true rfl)
  rw [lg_entry_eq]
  generalize (lg_sl ([.ref h0]) ++ List.replicate (1 - (lg_sl ([.ref h0])).length) Slot.unset).toArray = ls at hl ⊢
  have hl : lv_has ls 1 [(0, .ref h0)] := hl
  have hP : va_P D vwCl [(h0, .inr (2, [.int (0), .null, .null, .int (0), .null, .int (0), .null, .null, .null, .int (0), .null, .null, .null, .null, .null, .null, .null]))] s.heap := hP
  refine lv_aload_n hx hb dX2_init_0 rfl (lv_at hl 0 rfl) ?_
  refine W.objInit hx hb hown (hts (.methodLink RX2 3 objectInit) (wm_c hw_271)) (hts (.instanceMethod objectInit) (wm_c hw_261)) (hts (.code objectInit ⟨#[0xb1]⟩ 1 none) (wm_c hw_262)) rfl (by rw [hml]; exact hl.1) rfl dX2_init_1 (Nat.le_of_ble_eq_true rfl) (Nat.le_of_ble_eq_true rfl) ?_
  refine W.eq (g2 := F0 m 4 ls ([])) rfl ?_
  refine lv_aload_n hx hb dX2_init_4 rfl (lv_at hl 0 rfl) ?_
  refine lv_iconst (v := 4) hx hb dX2_init_5 (by decide) ?_
  refine kn_a (atype := .int) (ty := .int) (a0 := (4, .inl (fun _ => 0))) (N' := 4) hx hb (hts (.arrayClass .int) (wm_c hw_267)) hE 0 rfl rfl (fun _ h => h) hP hD hS hA (fun cA => vp_cell_i cA 4 (fun _ => 0)) (by decide) (rfl) (by decide +kernel) (Nat.le_of_ble_eq_true rfl) (Nat.le_of_ble_eq_true rfl) dX2_init_6 (fun q_1 H hP hD hS => ?_)
  have hP : va_P D vwCl [(h0, .inr (2, [.int (0), .null, .null, .int (0), .null, .int (0), .null, .null, .null, .int (0), .null, .null, .null, .null, .null, .null, .null])), (q_1, .inl (ak 0, 4, .inl (fun _ => 0)))] H := hP
  have hD : va_D A [(h0, .inr (2, [.int (0), .null, .null, .int (0), .null, .int (0), .null, .null, .null, .int (0), .null, .null, .null, .null, .null, .null, .null])), (q_1, .inl (ak 0, 4, .inl (fun _ => 0)))] := hD
  refine W.widen (k := 1) (n := 4) (Nat.le_of_ble_eq_true rfl) (Nat.le_of_ble_eq_true rfl) ?_
  refine va_putF (D := D) (ci := 2) (v := .ref q_1) (ty := .array .int) (C := RX2) (T := TX2) (N := 17) hx hb hts (fun w h => wm_c (wc_X2 w h)) tyX2 tyX2_ok nmX2 hown hE.1 hP hD hS 0 rfl rfl 1 (by decide) (hts (.fieldLink RX2 9 "WornLines$Programme" "bears" "[I") (wm_c hw_272)) (fun _ h9 => h9) rfl hin rfl (by decide +kernel) rfl rfl (Nat.le_of_ble_eq_true rfl) dX2_init_8 (fun H locs hP hD hS => ?_)
  have hP : va_P D vwCl [(h0, .inr (2, [.int (0), .ref q_1, .null, .int (0), .null, .int (0), .null, .null, .null, .int (0), .null, .null, .null, .null, .null, .null, .null])), (q_1, .inl (ak 0, 4, .inl (fun _ => 0)))] H := hP
  have hD : va_D A [(h0, .inr (2, [.int (0), .ref q_1, .null, .int (0), .null, .int (0), .null, .null, .null, .int (0), .null, .null, .null, .null, .null, .null, .null])), (q_1, .inl (ak 0, 4, .inl (fun _ => 0)))] := hD
  refine lv_aload_n hx hb dX2_init_11 rfl (lv_at hl 0 rfl) ?_
  refine lv_iconst (v := 4) hx hb dX2_init_12 (by decide) ?_
  refine kn_a (atype := .int) (ty := .int) (a0 := (4, .inl (fun _ => 0))) (N' := 4) hx hb (hts (.arrayClass .int) (wm_c hw_267)) hE 0 rfl rfl (fun _ h => h) hP hD hS hA (fun cA => vp_cell_i cA 4 (fun _ => 0)) (by decide) (rfl) (by decide +kernel) (Nat.le_of_ble_eq_true rfl) (Nat.le_of_ble_eq_true rfl) dX2_init_13 (fun q_2 H hP hD hS => ?_)
  have hP : va_P D vwCl [(h0, .inr (2, [.int (0), .ref q_1, .null, .int (0), .null, .int (0), .null, .null, .null, .int (0), .null, .null, .null, .null, .null, .null, .null])), (q_1, .inl (ak 0, 4, .inl (fun _ => 0))), (q_2, .inl (ak 0, 4, .inl (fun _ => 0)))] H := hP
  have hD : va_D A [(h0, .inr (2, [.int (0), .ref q_1, .null, .int (0), .null, .int (0), .null, .null, .null, .int (0), .null, .null, .null, .null, .null, .null, .null])), (q_1, .inl (ak 0, 4, .inl (fun _ => 0))), (q_2, .inl (ak 0, 4, .inl (fun _ => 0)))] := hD
  refine W.widen (k := 2) (n := 8) (Nat.le_of_ble_eq_true rfl) (Nat.le_of_ble_eq_true rfl) ?_
  refine va_putF (D := D) (ci := 2) (v := .ref q_2) (ty := .array .int) (C := RX2) (T := TX2) (N := 17) hx hb hts (fun w h => wm_c (wc_X2 w h)) tyX2 tyX2_ok nmX2 hown hE.1 hP hD hS 0 rfl rfl 2 (by decide) (hts (.fieldLink RX2 15 "WornLines$Programme" "costs" "[I") (wm_c hw_273)) (fun _ h9 => h9) rfl hin rfl (by decide +kernel) rfl rfl (Nat.le_of_ble_eq_true rfl) dX2_init_15 (fun H locs hP hD hS => ?_)
  have hP : va_P D vwCl [(h0, .inr (2, [.int (0), .ref q_1, .ref q_2, .int (0), .null, .int (0), .null, .null, .null, .int (0), .null, .null, .null, .null, .null, .null, .null])), (q_1, .inl (ak 0, 4, .inl (fun _ => 0))), (q_2, .inl (ak 0, 4, .inl (fun _ => 0)))] H := hP
  have hD : va_D A [(h0, .inr (2, [.int (0), .ref q_1, .ref q_2, .int (0), .null, .int (0), .null, .null, .null, .int (0), .null, .null, .null, .null, .null, .null, .null])), (q_1, .inl (ak 0, 4, .inl (fun _ => 0))), (q_2, .inl (ak 0, 4, .inl (fun _ => 0)))] := hD
  refine lv_aload_n hx hb dX2_init_18 rfl (lv_at hl 0 rfl) ?_
  refine lv_bipush (v := 6) hx hb dX2_init_19 (by decide) ?_
  refine kn_a (atype := .int) (ty := .int) (a0 := (6, .inl (fun _ => 0))) (N' := 6) hx hb (hts (.arrayClass .int) (wm_c hw_267)) hE 0 rfl rfl (fun _ h => h) hP hD hS hA (fun cA => vp_cell_i cA 6 (fun _ => 0)) (by decide) (rfl) (by decide +kernel) (Nat.le_of_ble_eq_true rfl) (Nat.le_of_ble_eq_true rfl) dX2_init_21 (fun q_3 H hP hD hS => ?_)
  have hP : va_P D vwCl [(h0, .inr (2, [.int (0), .ref q_1, .ref q_2, .int (0), .null, .int (0), .null, .null, .null, .int (0), .null, .null, .null, .null, .null, .null, .null])), (q_1, .inl (ak 0, 4, .inl (fun _ => 0))), (q_2, .inl (ak 0, 4, .inl (fun _ => 0))), (q_3, .inl (ak 0, 6, .inl (fun _ => 0)))] H := hP
  have hD : va_D A [(h0, .inr (2, [.int (0), .ref q_1, .ref q_2, .int (0), .null, .int (0), .null, .null, .null, .int (0), .null, .null, .null, .null, .null, .null, .null])), (q_1, .inl (ak 0, 4, .inl (fun _ => 0))), (q_2, .inl (ak 0, 4, .inl (fun _ => 0))), (q_3, .inl (ak 0, 6, .inl (fun _ => 0)))] := hD
  refine W.widen (k := 3) (n := 14) (Nat.le_of_ble_eq_true rfl) (Nat.le_of_ble_eq_true rfl) ?_
  refine va_putF (D := D) (ci := 2) (v := .ref q_3) (ty := .array .int) (C := RX2) (T := TX2) (N := 17) hx hb hts (fun w h => wm_c (wc_X2 w h)) tyX2 tyX2_ok nmX2 hown hE.1 hP hD hS 0 rfl rfl 4 (by decide) (hts (.fieldLink RX2 18 "WornLines$Programme" "told" "[I") (wm_c hw_274)) (fun _ h9 => h9) rfl hin rfl (by decide +kernel) rfl rfl (Nat.le_of_ble_eq_true rfl) dX2_init_23 (fun H locs hP hD hS => ?_)
  have hP : va_P D vwCl [(h0, .inr (2, [.int (0), .ref q_1, .ref q_2, .int (0), .ref q_3, .int (0), .null, .null, .null, .int (0), .null, .null, .null, .null, .null, .null, .null])), (q_1, .inl (ak 0, 4, .inl (fun _ => 0))), (q_2, .inl (ak 0, 4, .inl (fun _ => 0))), (q_3, .inl (ak 0, 6, .inl (fun _ => 0)))] H := hP
  have hD : va_D A [(h0, .inr (2, [.int (0), .ref q_1, .ref q_2, .int (0), .ref q_3, .int (0), .null, .null, .null, .int (0), .null, .null, .null, .null, .null, .null, .null])), (q_1, .inl (ak 0, 4, .inl (fun _ => 0))), (q_2, .inl (ak 0, 4, .inl (fun _ => 0))), (q_3, .inl (ak 0, 6, .inl (fun _ => 0)))] := hD
  refine lv_aload_n hx hb dX2_init_26 rfl (lv_at hl 0 rfl) ?_
  refine lv_iconst (v := 2) hx hb dX2_init_27 (by decide) ?_
  refine kn_a (atype := .int) (ty := .int) (a0 := (2, .inl (fun _ => 0))) (N' := 2) hx hb (hts (.arrayClass .int) (wm_c hw_267)) hE 0 rfl rfl (fun _ h => h) hP hD hS hA (fun cA => vp_cell_i cA 2 (fun _ => 0)) (by decide) (rfl) (by decide +kernel) (Nat.le_of_ble_eq_true rfl) (Nat.le_of_ble_eq_true rfl) dX2_init_28 (fun q_4 H hP hD hS => ?_)
  have hP : va_P D vwCl [(h0, .inr (2, [.int (0), .ref q_1, .ref q_2, .int (0), .ref q_3, .int (0), .null, .null, .null, .int (0), .null, .null, .null, .null, .null, .null, .null])), (q_1, .inl (ak 0, 4, .inl (fun _ => 0))), (q_2, .inl (ak 0, 4, .inl (fun _ => 0))), (q_3, .inl (ak 0, 6, .inl (fun _ => 0))), (q_4, .inl (ak 0, 2, .inl (fun _ => 0)))] H := hP
  have hD : va_D A [(h0, .inr (2, [.int (0), .ref q_1, .ref q_2, .int (0), .ref q_3, .int (0), .null, .null, .null, .int (0), .null, .null, .null, .null, .null, .null, .null])), (q_1, .inl (ak 0, 4, .inl (fun _ => 0))), (q_2, .inl (ak 0, 4, .inl (fun _ => 0))), (q_3, .inl (ak 0, 6, .inl (fun _ => 0))), (q_4, .inl (ak 0, 2, .inl (fun _ => 0)))] := hD
  refine W.widen (k := 4) (n := 16) (Nat.le_of_ble_eq_true rfl) (Nat.le_of_ble_eq_true rfl) ?_
  refine va_putF (D := D) (ci := 2) (v := .ref q_4) (ty := .array .int) (C := RX2) (T := TX2) (N := 17) hx hb hts (fun w h => wm_c (wc_X2 w h)) tyX2 tyX2_ok nmX2 hown hE.1 hP hD hS 0 rfl rfl 6 (by decide) (hts (.fieldLink RX2 21 "WornLines$Programme" "givenCell" "[I") (wm_c hw_275)) (fun _ h9 => h9) rfl hin rfl (by decide +kernel) rfl rfl (Nat.le_of_ble_eq_true rfl) dX2_init_30 (fun H locs hP hD hS => ?_)
  have hP : va_P D vwCl [(h0, .inr (2, [.int (0), .ref q_1, .ref q_2, .int (0), .ref q_3, .int (0), .ref q_4, .null, .null, .int (0), .null, .null, .null, .null, .null, .null, .null])), (q_1, .inl (ak 0, 4, .inl (fun _ => 0))), (q_2, .inl (ak 0, 4, .inl (fun _ => 0))), (q_3, .inl (ak 0, 6, .inl (fun _ => 0))), (q_4, .inl (ak 0, 2, .inl (fun _ => 0)))] H := hP
  have hD : va_D A [(h0, .inr (2, [.int (0), .ref q_1, .ref q_2, .int (0), .ref q_3, .int (0), .ref q_4, .null, .null, .int (0), .null, .null, .null, .null, .null, .null, .null])), (q_1, .inl (ak 0, 4, .inl (fun _ => 0))), (q_2, .inl (ak 0, 4, .inl (fun _ => 0))), (q_3, .inl (ak 0, 6, .inl (fun _ => 0))), (q_4, .inl (ak 0, 2, .inl (fun _ => 0)))] := hD
  refine lv_aload_n hx hb dX2_init_33 rfl (lv_at hl 0 rfl) ?_
  refine lv_iconst (v := 2) hx hb dX2_init_34 (by decide) ?_
  refine kn_a (atype := .int) (ty := .int) (a0 := (2, .inl (fun _ => 0))) (N' := 2) hx hb (hts (.arrayClass .int) (wm_c hw_267)) hE 0 rfl rfl (fun _ h => h) hP hD hS hA (fun cA => vp_cell_i cA 2 (fun _ => 0)) (by decide) (rfl) (by decide +kernel) (Nat.le_of_ble_eq_true rfl) (Nat.le_of_ble_eq_true rfl) dX2_init_35 (fun q_5 H hP hD hS => ?_)
  have hP : va_P D vwCl [(h0, .inr (2, [.int (0), .ref q_1, .ref q_2, .int (0), .ref q_3, .int (0), .ref q_4, .null, .null, .int (0), .null, .null, .null, .null, .null, .null, .null])), (q_1, .inl (ak 0, 4, .inl (fun _ => 0))), (q_2, .inl (ak 0, 4, .inl (fun _ => 0))), (q_3, .inl (ak 0, 6, .inl (fun _ => 0))), (q_4, .inl (ak 0, 2, .inl (fun _ => 0))), (q_5, .inl (ak 0, 2, .inl (fun _ => 0)))] H := hP
  have hD : va_D A [(h0, .inr (2, [.int (0), .ref q_1, .ref q_2, .int (0), .ref q_3, .int (0), .ref q_4, .null, .null, .int (0), .null, .null, .null, .null, .null, .null, .null])), (q_1, .inl (ak 0, 4, .inl (fun _ => 0))), (q_2, .inl (ak 0, 4, .inl (fun _ => 0))), (q_3, .inl (ak 0, 6, .inl (fun _ => 0))), (q_4, .inl (ak 0, 2, .inl (fun _ => 0))), (q_5, .inl (ak 0, 2, .inl (fun _ => 0)))] := hD
  refine W.widen (k := 5) (n := 18) (Nat.le_of_ble_eq_true rfl) (Nat.le_of_ble_eq_true rfl) ?_
  refine va_putF (D := D) (ci := 2) (v := .ref q_5) (ty := .array .int) (C := RX2) (T := TX2) (N := 17) hx hb hts (fun w h => wm_c (wc_X2 w h)) tyX2 tyX2_ok nmX2 hown hE.1 hP hD hS 0 rfl rfl 7 (by decide) (hts (.fieldLink RX2 24 "WornLines$Programme" "least" "[I") (wm_c hw_276)) (fun _ h9 => h9) rfl hin rfl (by decide +kernel) rfl rfl (Nat.le_of_ble_eq_true rfl) dX2_init_37 (fun H locs hP hD hS => ?_)
  have hP : va_P D vwCl [(h0, .inr (2, [.int (0), .ref q_1, .ref q_2, .int (0), .ref q_3, .int (0), .ref q_4, .ref q_5, .null, .int (0), .null, .null, .null, .null, .null, .null, .null])), (q_1, .inl (ak 0, 4, .inl (fun _ => 0))), (q_2, .inl (ak 0, 4, .inl (fun _ => 0))), (q_3, .inl (ak 0, 6, .inl (fun _ => 0))), (q_4, .inl (ak 0, 2, .inl (fun _ => 0))), (q_5, .inl (ak 0, 2, .inl (fun _ => 0)))] H := hP
  have hD : va_D A [(h0, .inr (2, [.int (0), .ref q_1, .ref q_2, .int (0), .ref q_3, .int (0), .ref q_4, .ref q_5, .null, .int (0), .null, .null, .null, .null, .null, .null, .null])), (q_1, .inl (ak 0, 4, .inl (fun _ => 0))), (q_2, .inl (ak 0, 4, .inl (fun _ => 0))), (q_3, .inl (ak 0, 6, .inl (fun _ => 0))), (q_4, .inl (ak 0, 2, .inl (fun _ => 0))), (q_5, .inl (ak 0, 2, .inl (fun _ => 0)))] := hD
  refine lv_aload_n hx hb dX2_init_40 rfl (lv_at hl 0 rfl) ?_
  refine lv_iconst (v := 2) hx hb dX2_init_41 (by decide) ?_
  refine kn_a (atype := .int) (ty := .int) (a0 := (2, .inl (fun _ => 0))) (N' := 2) hx hb (hts (.arrayClass .int) (wm_c hw_267)) hE 0 rfl rfl (fun _ h => h) hP hD hS hA (fun cA => vp_cell_i cA 2 (fun _ => 0)) (by decide) (rfl) (by decide +kernel) (Nat.le_of_ble_eq_true rfl) (Nat.le_of_ble_eq_true rfl) dX2_init_42 (fun q_6 H hP hD hS => ?_)
  have hP : va_P D vwCl [(h0, .inr (2, [.int (0), .ref q_1, .ref q_2, .int (0), .ref q_3, .int (0), .ref q_4, .ref q_5, .null, .int (0), .null, .null, .null, .null, .null, .null, .null])), (q_1, .inl (ak 0, 4, .inl (fun _ => 0))), (q_2, .inl (ak 0, 4, .inl (fun _ => 0))), (q_3, .inl (ak 0, 6, .inl (fun _ => 0))), (q_4, .inl (ak 0, 2, .inl (fun _ => 0))), (q_5, .inl (ak 0, 2, .inl (fun _ => 0))), (q_6, .inl (ak 0, 2, .inl (fun _ => 0)))] H := hP
  have hD : va_D A [(h0, .inr (2, [.int (0), .ref q_1, .ref q_2, .int (0), .ref q_3, .int (0), .ref q_4, .ref q_5, .null, .int (0), .null, .null, .null, .null, .null, .null, .null])), (q_1, .inl (ak 0, 4, .inl (fun _ => 0))), (q_2, .inl (ak 0, 4, .inl (fun _ => 0))), (q_3, .inl (ak 0, 6, .inl (fun _ => 0))), (q_4, .inl (ak 0, 2, .inl (fun _ => 0))), (q_5, .inl (ak 0, 2, .inl (fun _ => 0))), (q_6, .inl (ak 0, 2, .inl (fun _ => 0)))] := hD
  refine W.widen (k := 6) (n := 20) (Nat.le_of_ble_eq_true rfl) (Nat.le_of_ble_eq_true rfl) ?_
  refine va_putF (D := D) (ci := 2) (v := .ref q_6) (ty := .array .int) (C := RX2) (T := TX2) (N := 17) hx hb hts (fun w h => wm_c (wc_X2 w h)) tyX2 tyX2_ok nmX2 hown hE.1 hP hD hS 0 rfl rfl 8 (by decide) (hts (.fieldLink RX2 27 "WornLines$Programme" "greatest" "[I") (wm_c hw_277)) (fun _ h9 => h9) rfl hin rfl (by decide +kernel) rfl rfl (Nat.le_of_ble_eq_true rfl) dX2_init_44 (fun H locs hP hD hS => ?_)
  have hP : va_P D vwCl [(h0, .inr (2, [.int (0), .ref q_1, .ref q_2, .int (0), .ref q_3, .int (0), .ref q_4, .ref q_5, .ref q_6, .int (0), .null, .null, .null, .null, .null, .null, .null])), (q_1, .inl (ak 0, 4, .inl (fun _ => 0))), (q_2, .inl (ak 0, 4, .inl (fun _ => 0))), (q_3, .inl (ak 0, 6, .inl (fun _ => 0))), (q_4, .inl (ak 0, 2, .inl (fun _ => 0))), (q_5, .inl (ak 0, 2, .inl (fun _ => 0))), (q_6, .inl (ak 0, 2, .inl (fun _ => 0)))] H := hP
  have hD : va_D A [(h0, .inr (2, [.int (0), .ref q_1, .ref q_2, .int (0), .ref q_3, .int (0), .ref q_4, .ref q_5, .ref q_6, .int (0), .null, .null, .null, .null, .null, .null, .null])), (q_1, .inl (ak 0, 4, .inl (fun _ => 0))), (q_2, .inl (ak 0, 4, .inl (fun _ => 0))), (q_3, .inl (ak 0, 6, .inl (fun _ => 0))), (q_4, .inl (ak 0, 2, .inl (fun _ => 0))), (q_5, .inl (ak 0, 2, .inl (fun _ => 0))), (q_6, .inl (ak 0, 2, .inl (fun _ => 0)))] := hD
  refine lv_aload_n hx hb dX2_init_47 rfl (lv_at hl 0 rfl) ?_
  refine lv_bipush (v := 16) hx hb dX2_init_48 (by decide) ?_
  refine kn_a (atype := .int) (ty := .int) (a0 := (16, .inl (fun _ => 0))) (N' := 16) hx hb (hts (.arrayClass .int) (wm_c hw_267)) hE 0 rfl rfl (fun _ h => h) hP hD hS hA (fun cA => vp_cell_i cA 16 (fun _ => 0)) (by decide) (rfl) (by decide +kernel) (Nat.le_of_ble_eq_true rfl) (Nat.le_of_ble_eq_true rfl) dX2_init_50 (fun q_7 H hP hD hS => ?_)
  have hP : va_P D vwCl [(h0, .inr (2, [.int (0), .ref q_1, .ref q_2, .int (0), .ref q_3, .int (0), .ref q_4, .ref q_5, .ref q_6, .int (0), .null, .null, .null, .null, .null, .null, .null])), (q_1, .inl (ak 0, 4, .inl (fun _ => 0))), (q_2, .inl (ak 0, 4, .inl (fun _ => 0))), (q_3, .inl (ak 0, 6, .inl (fun _ => 0))), (q_4, .inl (ak 0, 2, .inl (fun _ => 0))), (q_5, .inl (ak 0, 2, .inl (fun _ => 0))), (q_6, .inl (ak 0, 2, .inl (fun _ => 0))), (q_7, .inl (ak 0, 16, .inl (fun _ => 0)))] H := hP
  have hD : va_D A [(h0, .inr (2, [.int (0), .ref q_1, .ref q_2, .int (0), .ref q_3, .int (0), .ref q_4, .ref q_5, .ref q_6, .int (0), .null, .null, .null, .null, .null, .null, .null])), (q_1, .inl (ak 0, 4, .inl (fun _ => 0))), (q_2, .inl (ak 0, 4, .inl (fun _ => 0))), (q_3, .inl (ak 0, 6, .inl (fun _ => 0))), (q_4, .inl (ak 0, 2, .inl (fun _ => 0))), (q_5, .inl (ak 0, 2, .inl (fun _ => 0))), (q_6, .inl (ak 0, 2, .inl (fun _ => 0))), (q_7, .inl (ak 0, 16, .inl (fun _ => 0)))] := hD
  refine W.widen (k := 7) (n := 36) (Nat.le_of_ble_eq_true rfl) (Nat.le_of_ble_eq_true rfl) ?_
  refine va_putF (D := D) (ci := 2) (v := .ref q_7) (ty := .array .int) (C := RX2) (T := TX2) (N := 17) hx hb hts (fun w h => wm_c (wc_X2 w h)) tyX2 tyX2_ok nmX2 hown hE.1 hP hD hS 0 rfl rfl 10 (by decide) (hts (.fieldLink RX2 30 "WornLines$Programme" "act" "[I") (wm_c hw_278)) (fun _ h9 => h9) rfl hin rfl (by decide +kernel) rfl rfl (Nat.le_of_ble_eq_true rfl) dX2_init_52 (fun H locs hP hD hS => ?_)
  have hP : va_P D vwCl [(h0, .inr (2, [.int (0), .ref q_1, .ref q_2, .int (0), .ref q_3, .int (0), .ref q_4, .ref q_5, .ref q_6, .int (0), .ref q_7, .null, .null, .null, .null, .null, .null])), (q_1, .inl (ak 0, 4, .inl (fun _ => 0))), (q_2, .inl (ak 0, 4, .inl (fun _ => 0))), (q_3, .inl (ak 0, 6, .inl (fun _ => 0))), (q_4, .inl (ak 0, 2, .inl (fun _ => 0))), (q_5, .inl (ak 0, 2, .inl (fun _ => 0))), (q_6, .inl (ak 0, 2, .inl (fun _ => 0))), (q_7, .inl (ak 0, 16, .inl (fun _ => 0)))] H := hP
  have hD : va_D A [(h0, .inr (2, [.int (0), .ref q_1, .ref q_2, .int (0), .ref q_3, .int (0), .ref q_4, .ref q_5, .ref q_6, .int (0), .ref q_7, .null, .null, .null, .null, .null, .null])), (q_1, .inl (ak 0, 4, .inl (fun _ => 0))), (q_2, .inl (ak 0, 4, .inl (fun _ => 0))), (q_3, .inl (ak 0, 6, .inl (fun _ => 0))), (q_4, .inl (ak 0, 2, .inl (fun _ => 0))), (q_5, .inl (ak 0, 2, .inl (fun _ => 0))), (q_6, .inl (ak 0, 2, .inl (fun _ => 0))), (q_7, .inl (ak 0, 16, .inl (fun _ => 0)))] := hD
  refine lv_aload_n hx hb dX2_init_55 rfl (lv_at hl 0 rfl) ?_
  refine lv_bipush (v := 16) hx hb dX2_init_56 (by decide) ?_
  refine kn_a (atype := .int) (ty := .int) (a0 := (16, .inl (fun _ => 0))) (N' := 16) hx hb (hts (.arrayClass .int) (wm_c hw_267)) hE 0 rfl rfl (fun _ h => h) hP hD hS hA (fun cA => vp_cell_i cA 16 (fun _ => 0)) (by decide) (rfl) (by decide +kernel) (Nat.le_of_ble_eq_true rfl) (Nat.le_of_ble_eq_true rfl) dX2_init_58 (fun q_8 H hP hD hS => ?_)
  have hP : va_P D vwCl [(h0, .inr (2, [.int (0), .ref q_1, .ref q_2, .int (0), .ref q_3, .int (0), .ref q_4, .ref q_5, .ref q_6, .int (0), .ref q_7, .null, .null, .null, .null, .null, .null])), (q_1, .inl (ak 0, 4, .inl (fun _ => 0))), (q_2, .inl (ak 0, 4, .inl (fun _ => 0))), (q_3, .inl (ak 0, 6, .inl (fun _ => 0))), (q_4, .inl (ak 0, 2, .inl (fun _ => 0))), (q_5, .inl (ak 0, 2, .inl (fun _ => 0))), (q_6, .inl (ak 0, 2, .inl (fun _ => 0))), (q_7, .inl (ak 0, 16, .inl (fun _ => 0))), (q_8, .inl (ak 0, 16, .inl (fun _ => 0)))] H := hP
  have hD : va_D A [(h0, .inr (2, [.int (0), .ref q_1, .ref q_2, .int (0), .ref q_3, .int (0), .ref q_4, .ref q_5, .ref q_6, .int (0), .ref q_7, .null, .null, .null, .null, .null, .null])), (q_1, .inl (ak 0, 4, .inl (fun _ => 0))), (q_2, .inl (ak 0, 4, .inl (fun _ => 0))), (q_3, .inl (ak 0, 6, .inl (fun _ => 0))), (q_4, .inl (ak 0, 2, .inl (fun _ => 0))), (q_5, .inl (ak 0, 2, .inl (fun _ => 0))), (q_6, .inl (ak 0, 2, .inl (fun _ => 0))), (q_7, .inl (ak 0, 16, .inl (fun _ => 0))), (q_8, .inl (ak 0, 16, .inl (fun _ => 0)))] := hD
  refine W.widen (k := 8) (n := 52) (Nat.le_of_ble_eq_true rfl) (Nat.le_of_ble_eq_true rfl) ?_
  refine va_putF (D := D) (ci := 2) (v := .ref q_8) (ty := .array .int) (C := RX2) (T := TX2) (N := 17) hx hb hts (fun w h => wm_c (wc_X2 w h)) tyX2 tyX2_ok nmX2 hown hE.1 hP hD hS 0 rfl rfl 11 (by decide) (hts (.fieldLink RX2 33 "WornLines$Programme" "stuffOf" "[I") (wm_c hw_279)) (fun _ h9 => h9) rfl hin rfl (by decide +kernel) rfl rfl (Nat.le_of_ble_eq_true rfl) dX2_init_60 (fun H locs hP hD hS => ?_)
  have hP : va_P D vwCl [(h0, .inr (2, [.int (0), .ref q_1, .ref q_2, .int (0), .ref q_3, .int (0), .ref q_4, .ref q_5, .ref q_6, .int (0), .ref q_7, .ref q_8, .null, .null, .null, .null, .null])), (q_1, .inl (ak 0, 4, .inl (fun _ => 0))), (q_2, .inl (ak 0, 4, .inl (fun _ => 0))), (q_3, .inl (ak 0, 6, .inl (fun _ => 0))), (q_4, .inl (ak 0, 2, .inl (fun _ => 0))), (q_5, .inl (ak 0, 2, .inl (fun _ => 0))), (q_6, .inl (ak 0, 2, .inl (fun _ => 0))), (q_7, .inl (ak 0, 16, .inl (fun _ => 0))), (q_8, .inl (ak 0, 16, .inl (fun _ => 0)))] H := hP
  have hD : va_D A [(h0, .inr (2, [.int (0), .ref q_1, .ref q_2, .int (0), .ref q_3, .int (0), .ref q_4, .ref q_5, .ref q_6, .int (0), .ref q_7, .ref q_8, .null, .null, .null, .null, .null])), (q_1, .inl (ak 0, 4, .inl (fun _ => 0))), (q_2, .inl (ak 0, 4, .inl (fun _ => 0))), (q_3, .inl (ak 0, 6, .inl (fun _ => 0))), (q_4, .inl (ak 0, 2, .inl (fun _ => 0))), (q_5, .inl (ak 0, 2, .inl (fun _ => 0))), (q_6, .inl (ak 0, 2, .inl (fun _ => 0))), (q_7, .inl (ak 0, 16, .inl (fun _ => 0))), (q_8, .inl (ak 0, 16, .inl (fun _ => 0)))] := hD
  refine lv_aload_n hx hb dX2_init_63 rfl (lv_at hl 0 rfl) ?_
  refine lv_bipush (v := 16) hx hb dX2_init_64 (by decide) ?_
  refine kn_a (atype := .int) (ty := .int) (a0 := (16, .inl (fun _ => 0))) (N' := 16) hx hb (hts (.arrayClass .int) (wm_c hw_267)) hE 0 rfl rfl (fun _ h => h) hP hD hS hA (fun cA => vp_cell_i cA 16 (fun _ => 0)) (by decide) (rfl) (by decide +kernel) (Nat.le_of_ble_eq_true rfl) (Nat.le_of_ble_eq_true rfl) dX2_init_66 (fun q_9 H hP hD hS => ?_)
  have hP : va_P D vwCl [(h0, .inr (2, [.int (0), .ref q_1, .ref q_2, .int (0), .ref q_3, .int (0), .ref q_4, .ref q_5, .ref q_6, .int (0), .ref q_7, .ref q_8, .null, .null, .null, .null, .null])), (q_1, .inl (ak 0, 4, .inl (fun _ => 0))), (q_2, .inl (ak 0, 4, .inl (fun _ => 0))), (q_3, .inl (ak 0, 6, .inl (fun _ => 0))), (q_4, .inl (ak 0, 2, .inl (fun _ => 0))), (q_5, .inl (ak 0, 2, .inl (fun _ => 0))), (q_6, .inl (ak 0, 2, .inl (fun _ => 0))), (q_7, .inl (ak 0, 16, .inl (fun _ => 0))), (q_8, .inl (ak 0, 16, .inl (fun _ => 0))), (q_9, .inl (ak 0, 16, .inl (fun _ => 0)))] H := hP
  have hD : va_D A [(h0, .inr (2, [.int (0), .ref q_1, .ref q_2, .int (0), .ref q_3, .int (0), .ref q_4, .ref q_5, .ref q_6, .int (0), .ref q_7, .ref q_8, .null, .null, .null, .null, .null])), (q_1, .inl (ak 0, 4, .inl (fun _ => 0))), (q_2, .inl (ak 0, 4, .inl (fun _ => 0))), (q_3, .inl (ak 0, 6, .inl (fun _ => 0))), (q_4, .inl (ak 0, 2, .inl (fun _ => 0))), (q_5, .inl (ak 0, 2, .inl (fun _ => 0))), (q_6, .inl (ak 0, 2, .inl (fun _ => 0))), (q_7, .inl (ak 0, 16, .inl (fun _ => 0))), (q_8, .inl (ak 0, 16, .inl (fun _ => 0))), (q_9, .inl (ak 0, 16, .inl (fun _ => 0)))] := hD
  refine W.widen (k := 9) (n := 68) (Nat.le_of_ble_eq_true rfl) (Nat.le_of_ble_eq_true rfl) ?_
  refine va_putF (D := D) (ci := 2) (v := .ref q_9) (ty := .array .int) (C := RX2) (T := TX2) (N := 17) hx hb hts (fun w h => wm_c (wc_X2 w h)) tyX2 tyX2_ok nmX2 hown hE.1 hP hD hS 0 rfl rfl 12 (by decide) (hts (.fieldLink RX2 36 "WornLines$Programme" "target" "[I") (wm_c hw_280)) (fun _ h9 => h9) rfl hin rfl (by decide +kernel) rfl rfl (Nat.le_of_ble_eq_true rfl) dX2_init_68 (fun H locs hP hD hS => ?_)
  have hP : va_P D vwCl [(h0, .inr (2, [.int (0), .ref q_1, .ref q_2, .int (0), .ref q_3, .int (0), .ref q_4, .ref q_5, .ref q_6, .int (0), .ref q_7, .ref q_8, .ref q_9, .null, .null, .null, .null])), (q_1, .inl (ak 0, 4, .inl (fun _ => 0))), (q_2, .inl (ak 0, 4, .inl (fun _ => 0))), (q_3, .inl (ak 0, 6, .inl (fun _ => 0))), (q_4, .inl (ak 0, 2, .inl (fun _ => 0))), (q_5, .inl (ak 0, 2, .inl (fun _ => 0))), (q_6, .inl (ak 0, 2, .inl (fun _ => 0))), (q_7, .inl (ak 0, 16, .inl (fun _ => 0))), (q_8, .inl (ak 0, 16, .inl (fun _ => 0))), (q_9, .inl (ak 0, 16, .inl (fun _ => 0)))] H := hP
  have hD : va_D A [(h0, .inr (2, [.int (0), .ref q_1, .ref q_2, .int (0), .ref q_3, .int (0), .ref q_4, .ref q_5, .ref q_6, .int (0), .ref q_7, .ref q_8, .ref q_9, .null, .null, .null, .null])), (q_1, .inl (ak 0, 4, .inl (fun _ => 0))), (q_2, .inl (ak 0, 4, .inl (fun _ => 0))), (q_3, .inl (ak 0, 6, .inl (fun _ => 0))), (q_4, .inl (ak 0, 2, .inl (fun _ => 0))), (q_5, .inl (ak 0, 2, .inl (fun _ => 0))), (q_6, .inl (ak 0, 2, .inl (fun _ => 0))), (q_7, .inl (ak 0, 16, .inl (fun _ => 0))), (q_8, .inl (ak 0, 16, .inl (fun _ => 0))), (q_9, .inl (ak 0, 16, .inl (fun _ => 0)))] := hD
  refine lv_aload_n hx hb dX2_init_71 rfl (lv_at hl 0 rfl) ?_
  refine lv_bipush (v := 16) hx hb dX2_init_72 (by decide) ?_
  refine kn_a (atype := .int) (ty := .int) (a0 := (16, .inl (fun _ => 0))) (N' := 16) hx hb (hts (.arrayClass .int) (wm_c hw_267)) hE 0 rfl rfl (fun _ h => h) hP hD hS hA (fun cA => vp_cell_i cA 16 (fun _ => 0)) (by decide) (rfl) (by decide +kernel) (Nat.le_of_ble_eq_true rfl) (Nat.le_of_ble_eq_true rfl) dX2_init_74 (fun q_10 H hP hD hS => ?_)
  have hP : va_P D vwCl [(h0, .inr (2, [.int (0), .ref q_1, .ref q_2, .int (0), .ref q_3, .int (0), .ref q_4, .ref q_5, .ref q_6, .int (0), .ref q_7, .ref q_8, .ref q_9, .null, .null, .null, .null])), (q_1, .inl (ak 0, 4, .inl (fun _ => 0))), (q_2, .inl (ak 0, 4, .inl (fun _ => 0))), (q_3, .inl (ak 0, 6, .inl (fun _ => 0))), (q_4, .inl (ak 0, 2, .inl (fun _ => 0))), (q_5, .inl (ak 0, 2, .inl (fun _ => 0))), (q_6, .inl (ak 0, 2, .inl (fun _ => 0))), (q_7, .inl (ak 0, 16, .inl (fun _ => 0))), (q_8, .inl (ak 0, 16, .inl (fun _ => 0))), (q_9, .inl (ak 0, 16, .inl (fun _ => 0))), (q_10, .inl (ak 0, 16, .inl (fun _ => 0)))] H := hP
  have hD : va_D A [(h0, .inr (2, [.int (0), .ref q_1, .ref q_2, .int (0), .ref q_3, .int (0), .ref q_4, .ref q_5, .ref q_6, .int (0), .ref q_7, .ref q_8, .ref q_9, .null, .null, .null, .null])), (q_1, .inl (ak 0, 4, .inl (fun _ => 0))), (q_2, .inl (ak 0, 4, .inl (fun _ => 0))), (q_3, .inl (ak 0, 6, .inl (fun _ => 0))), (q_4, .inl (ak 0, 2, .inl (fun _ => 0))), (q_5, .inl (ak 0, 2, .inl (fun _ => 0))), (q_6, .inl (ak 0, 2, .inl (fun _ => 0))), (q_7, .inl (ak 0, 16, .inl (fun _ => 0))), (q_8, .inl (ak 0, 16, .inl (fun _ => 0))), (q_9, .inl (ak 0, 16, .inl (fun _ => 0))), (q_10, .inl (ak 0, 16, .inl (fun _ => 0)))] := hD
  refine W.widen (k := 10) (n := 84) (Nat.le_of_ble_eq_true rfl) (Nat.le_of_ble_eq_true rfl) ?_
  refine va_putF (D := D) (ci := 2) (v := .ref q_10) (ty := .array .int) (C := RX2) (T := TX2) (N := 17) hx hb hts (fun w h => wm_c (wc_X2 w h)) tyX2 tyX2_ok nmX2 hown hE.1 hP hD hS 0 rfl rfl 13 (by decide) (hts (.fieldLink RX2 39 "WornLines$Programme" "from" "[I") (wm_c hw_281)) (fun _ h9 => h9) rfl hin rfl (by decide +kernel) rfl rfl (Nat.le_of_ble_eq_true rfl) dX2_init_76 (fun H locs hP hD hS => ?_)
  have hP : va_P D vwCl [(h0, .inr (2, [.int (0), .ref q_1, .ref q_2, .int (0), .ref q_3, .int (0), .ref q_4, .ref q_5, .ref q_6, .int (0), .ref q_7, .ref q_8, .ref q_9, .ref q_10, .null, .null, .null])), (q_1, .inl (ak 0, 4, .inl (fun _ => 0))), (q_2, .inl (ak 0, 4, .inl (fun _ => 0))), (q_3, .inl (ak 0, 6, .inl (fun _ => 0))), (q_4, .inl (ak 0, 2, .inl (fun _ => 0))), (q_5, .inl (ak 0, 2, .inl (fun _ => 0))), (q_6, .inl (ak 0, 2, .inl (fun _ => 0))), (q_7, .inl (ak 0, 16, .inl (fun _ => 0))), (q_8, .inl (ak 0, 16, .inl (fun _ => 0))), (q_9, .inl (ak 0, 16, .inl (fun _ => 0))), (q_10, .inl (ak 0, 16, .inl (fun _ => 0)))] H := hP
  have hD : va_D A [(h0, .inr (2, [.int (0), .ref q_1, .ref q_2, .int (0), .ref q_3, .int (0), .ref q_4, .ref q_5, .ref q_6, .int (0), .ref q_7, .ref q_8, .ref q_9, .ref q_10, .null, .null, .null])), (q_1, .inl (ak 0, 4, .inl (fun _ => 0))), (q_2, .inl (ak 0, 4, .inl (fun _ => 0))), (q_3, .inl (ak 0, 6, .inl (fun _ => 0))), (q_4, .inl (ak 0, 2, .inl (fun _ => 0))), (q_5, .inl (ak 0, 2, .inl (fun _ => 0))), (q_6, .inl (ak 0, 2, .inl (fun _ => 0))), (q_7, .inl (ak 0, 16, .inl (fun _ => 0))), (q_8, .inl (ak 0, 16, .inl (fun _ => 0))), (q_9, .inl (ak 0, 16, .inl (fun _ => 0))), (q_10, .inl (ak 0, 16, .inl (fun _ => 0)))] := hD
  refine lv_aload_n hx hb dX2_init_79 rfl (lv_at hl 0 rfl) ?_
  refine lv_bipush (v := 16) hx hb dX2_init_80 (by decide) ?_
  refine kn_a (atype := .int) (ty := .int) (a0 := (16, .inl (fun _ => 0))) (N' := 16) hx hb (hts (.arrayClass .int) (wm_c hw_267)) hE 0 rfl rfl (fun _ h => h) hP hD hS hA (fun cA => vp_cell_i cA 16 (fun _ => 0)) (by decide) (rfl) (by decide +kernel) (Nat.le_of_ble_eq_true rfl) (Nat.le_of_ble_eq_true rfl) dX2_init_82 (fun q_11 H hP hD hS => ?_)
  have hP : va_P D vwCl [(h0, .inr (2, [.int (0), .ref q_1, .ref q_2, .int (0), .ref q_3, .int (0), .ref q_4, .ref q_5, .ref q_6, .int (0), .ref q_7, .ref q_8, .ref q_9, .ref q_10, .null, .null, .null])), (q_1, .inl (ak 0, 4, .inl (fun _ => 0))), (q_2, .inl (ak 0, 4, .inl (fun _ => 0))), (q_3, .inl (ak 0, 6, .inl (fun _ => 0))), (q_4, .inl (ak 0, 2, .inl (fun _ => 0))), (q_5, .inl (ak 0, 2, .inl (fun _ => 0))), (q_6, .inl (ak 0, 2, .inl (fun _ => 0))), (q_7, .inl (ak 0, 16, .inl (fun _ => 0))), (q_8, .inl (ak 0, 16, .inl (fun _ => 0))), (q_9, .inl (ak 0, 16, .inl (fun _ => 0))), (q_10, .inl (ak 0, 16, .inl (fun _ => 0))), (q_11, .inl (ak 0, 16, .inl (fun _ => 0)))] H := hP
  have hD : va_D A [(h0, .inr (2, [.int (0), .ref q_1, .ref q_2, .int (0), .ref q_3, .int (0), .ref q_4, .ref q_5, .ref q_6, .int (0), .ref q_7, .ref q_8, .ref q_9, .ref q_10, .null, .null, .null])), (q_1, .inl (ak 0, 4, .inl (fun _ => 0))), (q_2, .inl (ak 0, 4, .inl (fun _ => 0))), (q_3, .inl (ak 0, 6, .inl (fun _ => 0))), (q_4, .inl (ak 0, 2, .inl (fun _ => 0))), (q_5, .inl (ak 0, 2, .inl (fun _ => 0))), (q_6, .inl (ak 0, 2, .inl (fun _ => 0))), (q_7, .inl (ak 0, 16, .inl (fun _ => 0))), (q_8, .inl (ak 0, 16, .inl (fun _ => 0))), (q_9, .inl (ak 0, 16, .inl (fun _ => 0))), (q_10, .inl (ak 0, 16, .inl (fun _ => 0))), (q_11, .inl (ak 0, 16, .inl (fun _ => 0)))] := hD
  refine W.widen (k := 11) (n := 100) (Nat.le_of_ble_eq_true rfl) (Nat.le_of_ble_eq_true rfl) ?_
  refine va_putF (D := D) (ci := 2) (v := .ref q_11) (ty := .array .int) (C := RX2) (T := TX2) (N := 17) hx hb hts (fun w h => wm_c (wc_X2 w h)) tyX2 tyX2_ok nmX2 hown hE.1 hP hD hS 0 rfl rfl 14 (by decide) (hts (.fieldLink RX2 42 "WornLines$Programme" "middle" "[I") (wm_c hw_282)) (fun _ h9 => h9) rfl hin rfl (by decide +kernel) rfl rfl (Nat.le_of_ble_eq_true rfl) dX2_init_84 (fun H locs hP hD hS => ?_)
  have hP : va_P D vwCl [(h0, .inr (2, [.int (0), .ref q_1, .ref q_2, .int (0), .ref q_3, .int (0), .ref q_4, .ref q_5, .ref q_6, .int (0), .ref q_7, .ref q_8, .ref q_9, .ref q_10, .ref q_11, .null, .null])), (q_1, .inl (ak 0, 4, .inl (fun _ => 0))), (q_2, .inl (ak 0, 4, .inl (fun _ => 0))), (q_3, .inl (ak 0, 6, .inl (fun _ => 0))), (q_4, .inl (ak 0, 2, .inl (fun _ => 0))), (q_5, .inl (ak 0, 2, .inl (fun _ => 0))), (q_6, .inl (ak 0, 2, .inl (fun _ => 0))), (q_7, .inl (ak 0, 16, .inl (fun _ => 0))), (q_8, .inl (ak 0, 16, .inl (fun _ => 0))), (q_9, .inl (ak 0, 16, .inl (fun _ => 0))), (q_10, .inl (ak 0, 16, .inl (fun _ => 0))), (q_11, .inl (ak 0, 16, .inl (fun _ => 0)))] H := hP
  have hD : va_D A [(h0, .inr (2, [.int (0), .ref q_1, .ref q_2, .int (0), .ref q_3, .int (0), .ref q_4, .ref q_5, .ref q_6, .int (0), .ref q_7, .ref q_8, .ref q_9, .ref q_10, .ref q_11, .null, .null])), (q_1, .inl (ak 0, 4, .inl (fun _ => 0))), (q_2, .inl (ak 0, 4, .inl (fun _ => 0))), (q_3, .inl (ak 0, 6, .inl (fun _ => 0))), (q_4, .inl (ak 0, 2, .inl (fun _ => 0))), (q_5, .inl (ak 0, 2, .inl (fun _ => 0))), (q_6, .inl (ak 0, 2, .inl (fun _ => 0))), (q_7, .inl (ak 0, 16, .inl (fun _ => 0))), (q_8, .inl (ak 0, 16, .inl (fun _ => 0))), (q_9, .inl (ak 0, 16, .inl (fun _ => 0))), (q_10, .inl (ak 0, 16, .inl (fun _ => 0))), (q_11, .inl (ak 0, 16, .inl (fun _ => 0)))] := hD
  refine lv_aload_n hx hb dX2_init_87 rfl (lv_at hl 0 rfl) ?_
  refine lv_bipush (v := 16) hx hb dX2_init_88 (by decide) ?_
  refine kn_a (atype := .int) (ty := .int) (a0 := (16, .inl (fun _ => 0))) (N' := 16) hx hb (hts (.arrayClass .int) (wm_c hw_267)) hE 0 rfl rfl (fun _ h => h) hP hD hS hA (fun cA => vp_cell_i cA 16 (fun _ => 0)) (by decide) (rfl) (by decide +kernel) (Nat.le_of_ble_eq_true rfl) (Nat.le_of_ble_eq_true rfl) dX2_init_90 (fun q_12 H hP hD hS => ?_)
  have hP : va_P D vwCl [(h0, .inr (2, [.int (0), .ref q_1, .ref q_2, .int (0), .ref q_3, .int (0), .ref q_4, .ref q_5, .ref q_6, .int (0), .ref q_7, .ref q_8, .ref q_9, .ref q_10, .ref q_11, .null, .null])), (q_1, .inl (ak 0, 4, .inl (fun _ => 0))), (q_2, .inl (ak 0, 4, .inl (fun _ => 0))), (q_3, .inl (ak 0, 6, .inl (fun _ => 0))), (q_4, .inl (ak 0, 2, .inl (fun _ => 0))), (q_5, .inl (ak 0, 2, .inl (fun _ => 0))), (q_6, .inl (ak 0, 2, .inl (fun _ => 0))), (q_7, .inl (ak 0, 16, .inl (fun _ => 0))), (q_8, .inl (ak 0, 16, .inl (fun _ => 0))), (q_9, .inl (ak 0, 16, .inl (fun _ => 0))), (q_10, .inl (ak 0, 16, .inl (fun _ => 0))), (q_11, .inl (ak 0, 16, .inl (fun _ => 0))), (q_12, .inl (ak 0, 16, .inl (fun _ => 0)))] H := hP
  have hD : va_D A [(h0, .inr (2, [.int (0), .ref q_1, .ref q_2, .int (0), .ref q_3, .int (0), .ref q_4, .ref q_5, .ref q_6, .int (0), .ref q_7, .ref q_8, .ref q_9, .ref q_10, .ref q_11, .null, .null])), (q_1, .inl (ak 0, 4, .inl (fun _ => 0))), (q_2, .inl (ak 0, 4, .inl (fun _ => 0))), (q_3, .inl (ak 0, 6, .inl (fun _ => 0))), (q_4, .inl (ak 0, 2, .inl (fun _ => 0))), (q_5, .inl (ak 0, 2, .inl (fun _ => 0))), (q_6, .inl (ak 0, 2, .inl (fun _ => 0))), (q_7, .inl (ak 0, 16, .inl (fun _ => 0))), (q_8, .inl (ak 0, 16, .inl (fun _ => 0))), (q_9, .inl (ak 0, 16, .inl (fun _ => 0))), (q_10, .inl (ak 0, 16, .inl (fun _ => 0))), (q_11, .inl (ak 0, 16, .inl (fun _ => 0))), (q_12, .inl (ak 0, 16, .inl (fun _ => 0)))] := hD
  refine W.widen (k := 12) (n := 116) (Nat.le_of_ble_eq_true rfl) (Nat.le_of_ble_eq_true rfl) ?_
  refine va_putF (D := D) (ci := 2) (v := .ref q_12) (ty := .array .int) (C := RX2) (T := TX2) (N := 17) hx hb hts (fun w h => wm_c (wc_X2 w h)) tyX2 tyX2_ok nmX2 hown hE.1 hP hD hS 0 rfl rfl 15 (by decide) (hts (.fieldLink RX2 45 "WornLines$Programme" "end" "[I") (wm_c hw_283)) (fun _ h9 => h9) rfl hin rfl (by decide +kernel) rfl rfl (Nat.le_of_ble_eq_true rfl) dX2_init_92 (fun H locs hP hD hS => ?_)
  have hP : va_P D vwCl [(h0, .inr (2, [.int (0), .ref q_1, .ref q_2, .int (0), .ref q_3, .int (0), .ref q_4, .ref q_5, .ref q_6, .int (0), .ref q_7, .ref q_8, .ref q_9, .ref q_10, .ref q_11, .ref q_12, .null])), (q_1, .inl (ak 0, 4, .inl (fun _ => 0))), (q_2, .inl (ak 0, 4, .inl (fun _ => 0))), (q_3, .inl (ak 0, 6, .inl (fun _ => 0))), (q_4, .inl (ak 0, 2, .inl (fun _ => 0))), (q_5, .inl (ak 0, 2, .inl (fun _ => 0))), (q_6, .inl (ak 0, 2, .inl (fun _ => 0))), (q_7, .inl (ak 0, 16, .inl (fun _ => 0))), (q_8, .inl (ak 0, 16, .inl (fun _ => 0))), (q_9, .inl (ak 0, 16, .inl (fun _ => 0))), (q_10, .inl (ak 0, 16, .inl (fun _ => 0))), (q_11, .inl (ak 0, 16, .inl (fun _ => 0))), (q_12, .inl (ak 0, 16, .inl (fun _ => 0)))] H := hP
  have hD : va_D A [(h0, .inr (2, [.int (0), .ref q_1, .ref q_2, .int (0), .ref q_3, .int (0), .ref q_4, .ref q_5, .ref q_6, .int (0), .ref q_7, .ref q_8, .ref q_9, .ref q_10, .ref q_11, .ref q_12, .null])), (q_1, .inl (ak 0, 4, .inl (fun _ => 0))), (q_2, .inl (ak 0, 4, .inl (fun _ => 0))), (q_3, .inl (ak 0, 6, .inl (fun _ => 0))), (q_4, .inl (ak 0, 2, .inl (fun _ => 0))), (q_5, .inl (ak 0, 2, .inl (fun _ => 0))), (q_6, .inl (ak 0, 2, .inl (fun _ => 0))), (q_7, .inl (ak 0, 16, .inl (fun _ => 0))), (q_8, .inl (ak 0, 16, .inl (fun _ => 0))), (q_9, .inl (ak 0, 16, .inl (fun _ => 0))), (q_10, .inl (ak 0, 16, .inl (fun _ => 0))), (q_11, .inl (ak 0, 16, .inl (fun _ => 0))), (q_12, .inl (ak 0, 16, .inl (fun _ => 0)))] := hD
  refine lv_aload_n hx hb dX2_init_95 rfl (lv_at hl 0 rfl) ?_
  refine lv_iconst (v := 0) hx hb dX2_init_96 (by decide) ?_
  refine kn_a (atype := .int) (ty := .int) (a0 := (0, .inl (fun _ => 0))) (N' := 0) hx hb (hts (.arrayClass .int) (wm_c hw_267)) hE 0 rfl rfl (fun _ h => h) hP hD hS hA (fun cA => vp_cell_i cA 0 (fun _ => 0)) (by decide) (rfl) (by decide +kernel) (Nat.le_of_ble_eq_true rfl) (Nat.le_of_ble_eq_true rfl) dX2_init_97 (fun q_13 H hP hD hS => ?_)
  have hP : va_P D vwCl [(h0, .inr (2, [.int (0), .ref q_1, .ref q_2, .int (0), .ref q_3, .int (0), .ref q_4, .ref q_5, .ref q_6, .int (0), .ref q_7, .ref q_8, .ref q_9, .ref q_10, .ref q_11, .ref q_12, .null])), (q_1, .inl (ak 0, 4, .inl (fun _ => 0))), (q_2, .inl (ak 0, 4, .inl (fun _ => 0))), (q_3, .inl (ak 0, 6, .inl (fun _ => 0))), (q_4, .inl (ak 0, 2, .inl (fun _ => 0))), (q_5, .inl (ak 0, 2, .inl (fun _ => 0))), (q_6, .inl (ak 0, 2, .inl (fun _ => 0))), (q_7, .inl (ak 0, 16, .inl (fun _ => 0))), (q_8, .inl (ak 0, 16, .inl (fun _ => 0))), (q_9, .inl (ak 0, 16, .inl (fun _ => 0))), (q_10, .inl (ak 0, 16, .inl (fun _ => 0))), (q_11, .inl (ak 0, 16, .inl (fun _ => 0))), (q_12, .inl (ak 0, 16, .inl (fun _ => 0))), (q_13, .inl (ak 0, 0, .inl (fun _ => 0)))] H := hP
  have hD : va_D A [(h0, .inr (2, [.int (0), .ref q_1, .ref q_2, .int (0), .ref q_3, .int (0), .ref q_4, .ref q_5, .ref q_6, .int (0), .ref q_7, .ref q_8, .ref q_9, .ref q_10, .ref q_11, .ref q_12, .null])), (q_1, .inl (ak 0, 4, .inl (fun _ => 0))), (q_2, .inl (ak 0, 4, .inl (fun _ => 0))), (q_3, .inl (ak 0, 6, .inl (fun _ => 0))), (q_4, .inl (ak 0, 2, .inl (fun _ => 0))), (q_5, .inl (ak 0, 2, .inl (fun _ => 0))), (q_6, .inl (ak 0, 2, .inl (fun _ => 0))), (q_7, .inl (ak 0, 16, .inl (fun _ => 0))), (q_8, .inl (ak 0, 16, .inl (fun _ => 0))), (q_9, .inl (ak 0, 16, .inl (fun _ => 0))), (q_10, .inl (ak 0, 16, .inl (fun _ => 0))), (q_11, .inl (ak 0, 16, .inl (fun _ => 0))), (q_12, .inl (ak 0, 16, .inl (fun _ => 0))), (q_13, .inl (ak 0, 0, .inl (fun _ => 0)))] := hD
  refine W.widen (k := 13) (n := 116) (Nat.le_of_ble_eq_true rfl) (Nat.le_of_ble_eq_true rfl) ?_
  refine va_put (D := D) (ci := 2) (v := .ref q_13) (ty := .array .int) (C := RX2) (T := TX2) (N := 17) hx hb hts (fun w h => wm_c (wc_X2 w h)) tyX2 tyX2_ok nmX2 hown hE.1 hP hD hS 0 rfl rfl 16 (by decide) (hts (.fieldLink RX2 48 "WornLines$Programme" "code" "[I") (wm_c hw_284)) (fun _ h9 => h9) rfl (by decide +kernel) rfl rfl (Nat.le_of_ble_eq_true rfl) dX2_init_99 (fun H locs hP hD hS => ?_)
  have hP : va_P D vwCl [(h0, .inr (2, [.int (0), .ref q_1, .ref q_2, .int (0), .ref q_3, .int (0), .ref q_4, .ref q_5, .ref q_6, .int (0), .ref q_7, .ref q_8, .ref q_9, .ref q_10, .ref q_11, .ref q_12, .ref q_13])), (q_1, .inl (ak 0, 4, .inl (fun _ => 0))), (q_2, .inl (ak 0, 4, .inl (fun _ => 0))), (q_3, .inl (ak 0, 6, .inl (fun _ => 0))), (q_4, .inl (ak 0, 2, .inl (fun _ => 0))), (q_5, .inl (ak 0, 2, .inl (fun _ => 0))), (q_6, .inl (ak 0, 2, .inl (fun _ => 0))), (q_7, .inl (ak 0, 16, .inl (fun _ => 0))), (q_8, .inl (ak 0, 16, .inl (fun _ => 0))), (q_9, .inl (ak 0, 16, .inl (fun _ => 0))), (q_10, .inl (ak 0, 16, .inl (fun _ => 0))), (q_11, .inl (ak 0, 16, .inl (fun _ => 0))), (q_12, .inl (ak 0, 16, .inl (fun _ => 0))), (q_13, .inl (ak 0, 0, .inl (fun _ => 0)))] H := hP
  have hD : va_D A [(h0, .inr (2, [.int (0), .ref q_1, .ref q_2, .int (0), .ref q_3, .int (0), .ref q_4, .ref q_5, .ref q_6, .int (0), .ref q_7, .ref q_8, .ref q_9, .ref q_10, .ref q_11, .ref q_12, .ref q_13])), (q_1, .inl (ak 0, 4, .inl (fun _ => 0))), (q_2, .inl (ak 0, 4, .inl (fun _ => 0))), (q_3, .inl (ak 0, 6, .inl (fun _ => 0))), (q_4, .inl (ak 0, 2, .inl (fun _ => 0))), (q_5, .inl (ak 0, 2, .inl (fun _ => 0))), (q_6, .inl (ak 0, 2, .inl (fun _ => 0))), (q_7, .inl (ak 0, 16, .inl (fun _ => 0))), (q_8, .inl (ak 0, 16, .inl (fun _ => 0))), (q_9, .inl (ak 0, 16, .inl (fun _ => 0))), (q_10, .inl (ak 0, 16, .inl (fun _ => 0))), (q_11, .inl (ak 0, 16, .inl (fun _ => 0))), (q_12, .inl (ak 0, 16, .inl (fun _ => 0))), (q_13, .inl (ak 0, 0, .inl (fun _ => 0)))] := hD
  have hP9 := hP.sub (ws' := [(h0, .inr (2, [.int (0), .ref q_1, .ref q_2, .int (0), .ref q_3, .int (0), .ref q_4, .ref q_5, .ref q_6, .int (0), .ref q_7, .ref q_8, .ref q_9, .ref q_10, .ref q_11, .ref q_12, .ref q_13])), (q_1, .inl (ak 0, 4, .inl (fun _ => 0))), (q_2, .inl (ak 0, 4, .inl (fun _ => 0))), (q_3, .inl (ak 0, 6, .inl (fun _ => 0))), (q_4, .inl (ak 0, 2, .inl (fun _ => 0))), (q_5, .inl (ak 0, 2, .inl (fun _ => 0))), (q_6, .inl (ak 0, 2, .inl (fun _ => 0))), (q_7, .inl (ak 0, 16, .inl (fun _ => 0))), (q_8, .inl (ak 0, 16, .inl (fun _ => 0))), (q_9, .inl (ak 0, 16, .inl (fun _ => 0))), (q_10, .inl (ak 0, 16, .inl (fun _ => 0))), (q_11, .inl (ak 0, 16, .inl (fun _ => 0))), (q_12, .inl (ak 0, 16, .inl (fun _ => 0))), (q_13, .inl (ak 0, 0, .inl (fun _ => 0)))]) [0, 1, 2, 3, 4, 5, 6, 7, 8, 9, 10, 11, 12, 13] rfl
  have hD9 := hD.sub (ws' := [(h0, .inr (2, [.int (0), .ref q_1, .ref q_2, .int (0), .ref q_3, .int (0), .ref q_4, .ref q_5, .ref q_6, .int (0), .ref q_7, .ref q_8, .ref q_9, .ref q_10, .ref q_11, .ref q_12, .ref q_13])), (q_1, .inl (ak 0, 4, .inl (fun _ => 0))), (q_2, .inl (ak 0, 4, .inl (fun _ => 0))), (q_3, .inl (ak 0, 6, .inl (fun _ => 0))), (q_4, .inl (ak 0, 2, .inl (fun _ => 0))), (q_5, .inl (ak 0, 2, .inl (fun _ => 0))), (q_6, .inl (ak 0, 2, .inl (fun _ => 0))), (q_7, .inl (ak 0, 16, .inl (fun _ => 0))), (q_8, .inl (ak 0, 16, .inl (fun _ => 0))), (q_9, .inl (ak 0, 16, .inl (fun _ => 0))), (q_10, .inl (ak 0, 16, .inl (fun _ => 0))), (q_11, .inl (ak 0, 16, .inl (fun _ => 0))), (q_12, .inl (ak 0, 16, .inl (fun _ => 0))), (q_13, .inl (ak 0, 0, .inl (fun _ => 0)))]) [0, 1, 2, 3, 4, 5, 6, 7, 8, 9, 10, 11, 12, 13] (by decide) rfl
  refine W.widen (k := 13) (n := 116) (Nat.le_of_ble_eq_true rfl) (Nat.le_of_ble_eq_true rfl) ?_
  exact W.vret hx hb hr (fun t ht hW => ⟨⟨((fun k => match k with | 0 => q_1 | 1 => q_2 | 2 => q_3 | 3 => q_4 | 4 => q_5 | 5 => q_6 | 6 => q_7 | 7 => q_8 | 8 => q_9 | 9 => q_10 | 10 => q_11 | 11 => q_12 | _ => q_13)), rfl, trivial, by rw [ht]; exact hP9, by rw [hAe]; exact hD9⟩, by rw [hAe]; exact hS.F ht⟩) hS.2.2 dX2_init_102

set_option maxHeartbeats 4000000 in
set_option maxRecDepth 100000 in
theorem c_X3_init (l : Launch) (D : va_G) (ak : Nat → ClassId) (ad : Nat → Nat) (sz : Nat) (h0 : Nat) (p0 : Nat) (p1 : Nat)  : Met l yX3_init wsX3_init ({ frames := 1, cells := 3, slots := 1010, locals := 12 }) (cPre D ak ad [.ref h0, .ref p0, .ref p1] ([(h0, .inr (3, [.null, .null, .null, .null, .int (0), .null, .int (0), .null, .int (0), .long (0), .int (0)]))]) sz) (cV D (S := (Nat → Nat)) (fun (u : (Nat → Nat)) => True) (fun u => [(h0, .inr (3, [.ref p0, .ref (u 0), .ref (u 1), .ref (u 2), .int (0), .ref p1, .int (0), .ref (ad 0), .int (0), .long (0), .int (0)])), (u 0, .inl (ak 1, 4, .inr (.inl (fun _ => 0)))), (u 1, .inl (ak 1, 6, .inr (.inl (fun _ => 0)))), (u 2, .inl (ak 0, 1000, .inl (fun _ => 0)))]) ([(h0, .inr (3, [.null, .null, .null, .null, .int (0), .null, .int (0), .null, .int (0), .long (0), .int (0)]))]) sz) 3 1010 (va_A ([(h0, .inr (3, [.null, .null, .null, .null, .int (0), .null, .int (0), .null, .int (0), .long (0), .int (0)]))]) sz) := by
  refine Met.ofW (cc := cX3_init) (maxL := 3) (ret := none) (by decide) rfl ?_
  intro p e s m args below meth c s₁ B hml hv
  obtain ⟨rfl, hsz, hP, hE, hD0, hT⟩ := hv
  have hx := B.exec
  have hb := B.bytes
  have hr := B.returns
  have hts := atoms_spec (ws := wsX3_init) B.pre
  have hown : s.vm.findClass RX3 = some m.cls := findClass_of_methodNamed B.named
  have hlocks := B.notSynchronized
  have hin : meth.name = "<init>" := (name_of_methodNamed B.named B.method).1
  subst hsz
  have hD := hD0.self (sz := s.heap.size)
  generalize hAe : va_A ([(h0, .inr (3, [.null, .null, .null, .null, .int (0), .null, .int (0), .null, .int (0), .long (0), .int (0)]))]) s.heap.size = A at hD hT ⊢
  have hA : ∀ q : Nat, s.heap.size ≤ q → A q := fun q h => by rw [← hAe]; exact Or.inr h
  have hS : va_S A s.heap s.heap [] := va_S.rf
  have hl := lv_entry ([.ref h0, .ref p0, .ref p1]) (n := 3) (Nat.le_of_ble_eq_true rfl)
  rw [lg_entry_eq]
  generalize (lg_sl ([.ref h0, .ref p0, .ref p1]) ++ List.replicate (3 - (lg_sl ([.ref h0, .ref p0, .ref p1])).length) Slot.unset).toArray = ls at hl ⊢
  have hl : lv_has ls 3 [(0, .ref h0), (1, .ref p0), (2, .ref p1)] := hl
  have hP : va_P D vwCl [(h0, .inr (3, [.null, .null, .null, .null, .int (0), .null, .int (0), .null, .int (0), .long (0), .int (0)]))] s.heap := hP
  refine lv_aload_n hx hb dX3_init_0 rfl (lv_at hl 0 rfl) ?_
  refine W.objInit hx hb hown (hts (.methodLink RX3 3 objectInit) (wm_c hw_285)) (hts (.instanceMethod objectInit) (wm_c hw_261)) (hts (.code objectInit ⟨#[0xb1]⟩ 1 none) (wm_c hw_262)) rfl (by rw [hml]; exact hl.1) rfl dX3_init_1 (Nat.le_of_ble_eq_true rfl) (Nat.le_of_ble_eq_true rfl) ?_
  refine W.eq (g2 := F0 m 4 ls ([])) rfl ?_
  refine lv_aload_n hx hb dX3_init_4 rfl (lv_at hl 0 rfl) ?_
  refine lv_iconst (v := 4) hx hb dX3_init_5 (by decide) ?_
  refine kn_a (atype := .long) (ty := .long) (a0 := (4, .inr (.inl (fun _ => 0)))) (N' := 4) hx hb (hts (.arrayClass .long) (wm_c hw_269)) hE 1 rfl rfl (fun _ h => h) hP hD hS hA (fun cA => vp_cell_l cA 4 (fun _ => 0)) (by decide) (rfl) (by decide +kernel) (Nat.le_of_ble_eq_true rfl) (Nat.le_of_ble_eq_true rfl) dX3_init_6 (fun q_1 H hP hD hS => ?_)
  have hP : va_P D vwCl [(h0, .inr (3, [.null, .null, .null, .null, .int (0), .null, .int (0), .null, .int (0), .long (0), .int (0)])), (q_1, .inl (ak 1, 4, .inr (.inl (fun _ => 0))))] H := hP
  have hD : va_D A [(h0, .inr (3, [.null, .null, .null, .null, .int (0), .null, .int (0), .null, .int (0), .long (0), .int (0)])), (q_1, .inl (ak 1, 4, .inr (.inl (fun _ => 0))))] := hD
  refine W.widen (k := 1) (n := 4) (Nat.le_of_ble_eq_true rfl) (Nat.le_of_ble_eq_true rfl) ?_
  refine va_putF (D := D) (ci := 3) (v := .ref q_1) (ty := .array .long) (C := RX3) (T := TX3) (N := 11) hx hb hts (fun w h => wm_c (wc_X3 w h)) tyX3 tyX3_ok nmX3 hown hE.1 hP hD hS 0 rfl rfl 1 (by decide) (hts (.fieldLink RX3 9 "WornLines$Reader" "stuffNames" "[J") (wm_c hw_286)) (fun _ h9 => h9) rfl hin rfl (by decide +kernel) rfl rfl (Nat.le_of_ble_eq_true rfl) dX3_init_8 (fun H locs hP hD hS => ?_)
  have hP : va_P D vwCl [(h0, .inr (3, [.null, .ref q_1, .null, .null, .int (0), .null, .int (0), .null, .int (0), .long (0), .int (0)])), (q_1, .inl (ak 1, 4, .inr (.inl (fun _ => 0))))] H := hP
  have hD : va_D A [(h0, .inr (3, [.null, .ref q_1, .null, .null, .int (0), .null, .int (0), .null, .int (0), .long (0), .int (0)])), (q_1, .inl (ak 1, 4, .inr (.inl (fun _ => 0))))] := hD
  refine lv_aload_n hx hb dX3_init_11 rfl (lv_at hl 0 rfl) ?_
  refine lv_bipush (v := 6) hx hb dX3_init_12 (by decide) ?_
  refine kn_a (atype := .long) (ty := .long) (a0 := (6, .inr (.inl (fun _ => 0)))) (N' := 6) hx hb (hts (.arrayClass .long) (wm_c hw_269)) hE 1 rfl rfl (fun _ h => h) hP hD hS hA (fun cA => vp_cell_l cA 6 (fun _ => 0)) (by decide) (rfl) (by decide +kernel) (Nat.le_of_ble_eq_true rfl) (Nat.le_of_ble_eq_true rfl) dX3_init_14 (fun q_2 H hP hD hS => ?_)
  have hP : va_P D vwCl [(h0, .inr (3, [.null, .ref q_1, .null, .null, .int (0), .null, .int (0), .null, .int (0), .long (0), .int (0)])), (q_1, .inl (ak 1, 4, .inr (.inl (fun _ => 0)))), (q_2, .inl (ak 1, 6, .inr (.inl (fun _ => 0))))] H := hP
  have hD : va_D A [(h0, .inr (3, [.null, .ref q_1, .null, .null, .int (0), .null, .int (0), .null, .int (0), .long (0), .int (0)])), (q_1, .inl (ak 1, 4, .inr (.inl (fun _ => 0)))), (q_2, .inl (ak 1, 6, .inr (.inl (fun _ => 0))))] := hD
  refine W.widen (k := 2) (n := 10) (Nat.le_of_ble_eq_true rfl) (Nat.le_of_ble_eq_true rfl) ?_
  refine va_putF (D := D) (ci := 3) (v := .ref q_2) (ty := .array .long) (C := RX3) (T := TX3) (N := 11) hx hb hts (fun w h => wm_c (wc_X3 w h)) tyX3 tyX3_ok nmX3 hown hE.1 hP hD hS 0 rfl rfl 2 (by decide) (hts (.fieldLink RX3 15 "WornLines$Reader" "cellNames" "[J") (wm_c hw_287)) (fun _ h9 => h9) rfl hin rfl (by decide +kernel) rfl rfl (Nat.le_of_ble_eq_true rfl) dX3_init_16 (fun H locs hP hD hS => ?_)
  have hP : va_P D vwCl [(h0, .inr (3, [.null, .ref q_1, .ref q_2, .null, .int (0), .null, .int (0), .null, .int (0), .long (0), .int (0)])), (q_1, .inl (ak 1, 4, .inr (.inl (fun _ => 0)))), (q_2, .inl (ak 1, 6, .inr (.inl (fun _ => 0))))] H := hP
  have hD : va_D A [(h0, .inr (3, [.null, .ref q_1, .ref q_2, .null, .int (0), .null, .int (0), .null, .int (0), .long (0), .int (0)])), (q_1, .inl (ak 1, 4, .inr (.inl (fun _ => 0)))), (q_2, .inl (ak 1, 6, .inr (.inl (fun _ => 0))))] := hD
  refine lv_aload_n hx hb dX3_init_19 rfl (lv_at hl 0 rfl) ?_
  refine lv_sipush (v := 1000) hx hb dX3_init_20 (by decide) ?_
  refine kn_a (atype := .int) (ty := .int) (a0 := (1000, .inl (fun _ => 0))) (N' := 1000) hx hb (hts (.arrayClass .int) (wm_c hw_267)) hE 0 rfl rfl (fun _ h => h) hP hD hS hA (fun cA => vp_cell_i cA 1000 (fun _ => 0)) (by decide) (rfl) (by decide +kernel) (Nat.le_of_ble_eq_true rfl) (Nat.le_of_ble_eq_true rfl) dX3_init_23 (fun q_3 H hP hD hS => ?_)
  have hP : va_P D vwCl [(h0, .inr (3, [.null, .ref q_1, .ref q_2, .null, .int (0), .null, .int (0), .null, .int (0), .long (0), .int (0)])), (q_1, .inl (ak 1, 4, .inr (.inl (fun _ => 0)))), (q_2, .inl (ak 1, 6, .inr (.inl (fun _ => 0)))), (q_3, .inl (ak 0, 1000, .inl (fun _ => 0)))] H := hP
  have hD : va_D A [(h0, .inr (3, [.null, .ref q_1, .ref q_2, .null, .int (0), .null, .int (0), .null, .int (0), .long (0), .int (0)])), (q_1, .inl (ak 1, 4, .inr (.inl (fun _ => 0)))), (q_2, .inl (ak 1, 6, .inr (.inl (fun _ => 0)))), (q_3, .inl (ak 0, 1000, .inl (fun _ => 0)))] := hD
  refine W.widen (k := 3) (n := 1010) (Nat.le_of_ble_eq_true rfl) (Nat.le_of_ble_eq_true rfl) ?_
  refine va_putF (D := D) (ci := 3) (v := .ref q_3) (ty := .array .int) (C := RX3) (T := TX3) (N := 11) hx hb hts (fun w h => wm_c (wc_X3 w h)) tyX3 tyX3_ok nmX3 hown hE.1 hP hD hS 0 rfl rfl 3 (by decide) (hts (.fieldLink RX3 18 "WornLines$Reader" "code" "[I") (wm_c hw_288)) (fun _ h9 => h9) rfl hin rfl (by decide +kernel) rfl rfl (Nat.le_of_ble_eq_true rfl) dX3_init_25 (fun H locs hP hD hS => ?_)
  have hP : va_P D vwCl [(h0, .inr (3, [.null, .ref q_1, .ref q_2, .ref q_3, .int (0), .null, .int (0), .null, .int (0), .long (0), .int (0)])), (q_1, .inl (ak 1, 4, .inr (.inl (fun _ => 0)))), (q_2, .inl (ak 1, 6, .inr (.inl (fun _ => 0)))), (q_3, .inl (ak 0, 1000, .inl (fun _ => 0)))] H := hP
  have hD : va_D A [(h0, .inr (3, [.null, .ref q_1, .ref q_2, .ref q_3, .int (0), .null, .int (0), .null, .int (0), .long (0), .int (0)])), (q_1, .inl (ak 1, 4, .inr (.inl (fun _ => 0)))), (q_2, .inl (ak 1, 6, .inr (.inl (fun _ => 0)))), (q_3, .inl (ak 0, 1000, .inl (fun _ => 0)))] := hD
  refine lv_aload_n hx hb dX3_init_28 rfl (lv_at hl 0 rfl) ?_
  refine va_gets hx hb (hT.1 0 (by decide)).1 hS hown (hts (.fieldLink RX3 22 "WornLines$Token" "END" "LWornLines$Token;") (wm_c hw_289)) (fun _ h9 => h9) dX3_init_29 ?_
  refine va_put (D := D) (ci := 3) (v := .ref (ad 0)) (ty := .object "WornLines$Token") (C := RX3) (T := TX3) (N := 11) hx hb hts (fun w h => wm_c (wc_X3 w h)) tyX3 tyX3_ok nmX3 hown hE.1 hP hD hS 0 rfl rfl 7 (by decide) (hts (.fieldLink RX3 28 "WornLines$Reader" "token" "LWornLines$Token;") (wm_c hw_290)) (fun _ h9 => h9) rfl (by decide +kernel) rfl rfl (Nat.le_of_ble_eq_true rfl) dX3_init_32 (fun H locs hP hD hS => ?_)
  have hP : va_P D vwCl [(h0, .inr (3, [.null, .ref q_1, .ref q_2, .ref q_3, .int (0), .null, .int (0), .ref (ad 0), .int (0), .long (0), .int (0)])), (q_1, .inl (ak 1, 4, .inr (.inl (fun _ => 0)))), (q_2, .inl (ak 1, 6, .inr (.inl (fun _ => 0)))), (q_3, .inl (ak 0, 1000, .inl (fun _ => 0)))] H := hP
  have hD : va_D A [(h0, .inr (3, [.null, .ref q_1, .ref q_2, .ref q_3, .int (0), .null, .int (0), .ref (ad 0), .int (0), .long (0), .int (0)])), (q_1, .inl (ak 1, 4, .inr (.inl (fun _ => 0)))), (q_2, .inl (ak 1, 6, .inr (.inl (fun _ => 0)))), (q_3, .inl (ak 0, 1000, .inl (fun _ => 0)))] := hD
  refine lv_aload_n hx hb dX3_init_35 rfl (lv_at hl 0 rfl) ?_
  refine lv_aload_n hx hb dX3_init_36 rfl (lv_at hl 1 rfl) ?_
  refine va_putF (D := D) (ci := 3) (v := .ref p0) (ty := .object "WornLines$Tape") (C := RX3) (T := TX3) (N := 11) hx hb hts (fun w h => wm_c (wc_X3 w h)) tyX3 tyX3_ok nmX3 hown hE.1 hP hD hS 0 rfl rfl 0 (by decide) (hts (.fieldLink RX3 31 "WornLines$Reader" "tape" "LWornLines$Tape;") (wm_c hw_291)) (fun _ h9 => h9) rfl hin rfl (by decide +kernel) rfl rfl (Nat.le_of_ble_eq_true rfl) dX3_init_37 (fun H locs hP hD hS => ?_)
  have hP : va_P D vwCl [(h0, .inr (3, [.ref p0, .ref q_1, .ref q_2, .ref q_3, .int (0), .null, .int (0), .ref (ad 0), .int (0), .long (0), .int (0)])), (q_1, .inl (ak 1, 4, .inr (.inl (fun _ => 0)))), (q_2, .inl (ak 1, 6, .inr (.inl (fun _ => 0)))), (q_3, .inl (ak 0, 1000, .inl (fun _ => 0)))] H := hP
  have hD : va_D A [(h0, .inr (3, [.ref p0, .ref q_1, .ref q_2, .ref q_3, .int (0), .null, .int (0), .ref (ad 0), .int (0), .long (0), .int (0)])), (q_1, .inl (ak 1, 4, .inr (.inl (fun _ => 0)))), (q_2, .inl (ak 1, 6, .inr (.inl (fun _ => 0)))), (q_3, .inl (ak 0, 1000, .inl (fun _ => 0)))] := hD
  refine lv_aload_n hx hb dX3_init_40 rfl (lv_at hl 0 rfl) ?_
  refine lv_aload_n hx hb dX3_init_41 rfl (lv_at hl 2 rfl) ?_
  refine va_put (D := D) (ci := 3) (v := .ref p1) (ty := .object "WornLines$Programme") (C := RX3) (T := TX3) (N := 11) hx hb hts (fun w h => wm_c (wc_X3 w h)) tyX3 tyX3_ok nmX3 hown hE.1 hP hD hS 0 rfl rfl 5 (by decide) (hts (.fieldLink RX3 35 "WornLines$Reader" "told" "LWornLines$Programme;") (wm_c hw_292)) (fun _ h9 => h9) rfl (by decide +kernel) rfl rfl (Nat.le_of_ble_eq_true rfl) dX3_init_42 (fun H locs hP hD hS => ?_)
  have hP : va_P D vwCl [(h0, .inr (3, [.ref p0, .ref q_1, .ref q_2, .ref q_3, .int (0), .ref p1, .int (0), .ref (ad 0), .int (0), .long (0), .int (0)])), (q_1, .inl (ak 1, 4, .inr (.inl (fun _ => 0)))), (q_2, .inl (ak 1, 6, .inr (.inl (fun _ => 0)))), (q_3, .inl (ak 0, 1000, .inl (fun _ => 0)))] H := hP
  have hD : va_D A [(h0, .inr (3, [.ref p0, .ref q_1, .ref q_2, .ref q_3, .int (0), .ref p1, .int (0), .ref (ad 0), .int (0), .long (0), .int (0)])), (q_1, .inl (ak 1, 4, .inr (.inl (fun _ => 0)))), (q_2, .inl (ak 1, 6, .inr (.inl (fun _ => 0)))), (q_3, .inl (ak 0, 1000, .inl (fun _ => 0)))] := hD
  have hP9 := hP.sub (ws' := [(h0, .inr (3, [.ref p0, .ref q_1, .ref q_2, .ref q_3, .int (0), .ref p1, .int (0), .ref (ad 0), .int (0), .long (0), .int (0)])), (q_1, .inl (ak 1, 4, .inr (.inl (fun _ => 0)))), (q_2, .inl (ak 1, 6, .inr (.inl (fun _ => 0)))), (q_3, .inl (ak 0, 1000, .inl (fun _ => 0)))]) [0, 1, 2, 3] rfl
  have hD9 := hD.sub (ws' := [(h0, .inr (3, [.ref p0, .ref q_1, .ref q_2, .ref q_3, .int (0), .ref p1, .int (0), .ref (ad 0), .int (0), .long (0), .int (0)])), (q_1, .inl (ak 1, 4, .inr (.inl (fun _ => 0)))), (q_2, .inl (ak 1, 6, .inr (.inl (fun _ => 0)))), (q_3, .inl (ak 0, 1000, .inl (fun _ => 0)))]) [0, 1, 2, 3] (by decide) rfl
  refine W.widen (k := 3) (n := 1010) (Nat.le_of_ble_eq_true rfl) (Nat.le_of_ble_eq_true rfl) ?_
  exact W.vret hx hb hr (fun t ht hW => ⟨⟨((fun k => match k with | 0 => q_1 | 1 => q_2 | _ => q_3)), rfl, trivial, by rw [ht]; exact hP9, by rw [hAe]; exact hD9⟩, by rw [hAe]; exact hS.F ht⟩) hS.2.2 dX3_init_45

set_option maxHeartbeats 4000000 in
set_option maxRecDepth 100000 in
theorem c_X1_init200 (l : Launch) (D : va_G) (ak : Nat → ClassId) (ad : Nat → Nat) (sz : Nat) (h0 : Nat) (p0 : Nat)  : Met l yX1_init wsX1_init ({ frames := 1, cells := 6, slots := 286, locals := 12 }) (cPre D ak ad [.ref h0, .ref p0, .int (200)] ([(h0, .inr (1, [.null, .null, .null, .null, .null, .null, .null, .int (0), .int (0), .int (0), .int (0), .int (0)]))]) sz) (cV D (S := (Nat → Nat)) (fun (u : (Nat → Nat)) => True) (fun u => [(h0, .inr (1, [.ref p0, .ref (u 0), .ref (u 1), .ref (u 2), .ref (u 3), .ref (u 4), .ref (u 5), .int (0), .int (0), .int (0), .int (0), .int (0)])), (u 0, .inl (ak 0, 16, .inl (fun _ => 0))), (u 1, .inl (ak 0, 16, .inl (fun _ => 0))), (u 2, .inl (ak 0, 16, .inl (fun _ => 0))), (u 3, .inl (ak 0, 6, .inl (fun _ => 0))), (u 4, .inl (ak 0, 200, .inl (fun _ => 0))), (u 5, .inl (ak 0, 32, .inl (fun _ => 0)))]) ([(h0, .inr (1, [.null, .null, .null, .null, .null, .null, .null, .int (0), .int (0), .int (0), .int (0), .int (0)]))]) sz) 6 286 (va_A ([(h0, .inr (1, [.null, .null, .null, .null, .null, .null, .null, .int (0), .int (0), .int (0), .int (0), .int (0)]))]) sz) := by
  refine Met.ofW (cc := cX1_init) (maxL := 3) (ret := none) (by decide) rfl ?_
  intro p e s m args below meth c s₁ B hml hv
  obtain ⟨rfl, hsz, hP, hE, hD0, hT⟩ := hv
  have hx := B.exec
  have hb := B.bytes
  have hr := B.returns
  have hts := atoms_spec (ws := wsX1_init) B.pre
  have hown : s.vm.findClass RX1 = some m.cls := findClass_of_methodNamed B.named
  have hlocks := B.notSynchronized
  have hin : meth.name = "<init>" := (name_of_methodNamed B.named B.method).1
  subst hsz
  have hD := hD0.self (sz := s.heap.size)
  generalize hAe : va_A ([(h0, .inr (1, [.null, .null, .null, .null, .null, .null, .null, .int (0), .int (0), .int (0), .int (0), .int (0)]))]) s.heap.size = A at hD hT ⊢
  have hA : ∀ q : Nat, s.heap.size ≤ q → A q := fun q h => by rw [← hAe]; exact Or.inr h
  have hS : va_S A s.heap s.heap [] := va_S.rf
  have hl := lv_entry ([.ref h0, .ref p0, .int (200)]) (n := 3) (Nat.le_of_ble_eq_true rfl)
  rw [lg_entry_eq]
  generalize (lg_sl ([.ref h0, .ref p0, .int (200)]) ++ List.replicate (3 - (lg_sl ([.ref h0, .ref p0, .int (200)])).length) Slot.unset).toArray = ls at hl ⊢
  have hl : lv_has ls 3 [(0, .ref h0), (1, .ref p0), (2, .int (200))] := hl
  have hP : va_P D vwCl [(h0, .inr (1, [.null, .null, .null, .null, .null, .null, .null, .int (0), .int (0), .int (0), .int (0), .int (0)]))] s.heap := hP
  refine lv_aload_n hx hb dX1_init_0 rfl (lv_at hl 0 rfl) ?_
  refine W.objInit hx hb hown (hts (.methodLink RX1 3 objectInit) (wm_c hw_293)) (hts (.instanceMethod objectInit) (wm_c hw_261)) (hts (.code objectInit ⟨#[0xb1]⟩ 1 none) (wm_c hw_262)) rfl (by rw [hml]; exact hl.1) rfl dX1_init_1 (Nat.le_of_ble_eq_true rfl) (Nat.le_of_ble_eq_true rfl) ?_
  refine W.eq (g2 := F0 m 4 ls ([])) rfl ?_
  refine lv_aload_n hx hb dX1_init_4 rfl (lv_at hl 0 rfl) ?_
  refine lv_bipush (v := 16) hx hb dX1_init_5 (by decide) ?_
  refine kn_a (atype := .int) (ty := .int) (a0 := (16, .inl (fun _ => 0))) (N' := 16) hx hb (hts (.arrayClass .int) (wm_c hw_267)) hE 0 rfl rfl (fun _ h => h) hP hD hS hA (fun cA => vp_cell_i cA 16 (fun _ => 0)) (by decide) (rfl) (by decide +kernel) (Nat.le_of_ble_eq_true rfl) (Nat.le_of_ble_eq_true rfl) dX1_init_7 (fun q_1 H hP hD hS => ?_)
  have hP : va_P D vwCl [(h0, .inr (1, [.null, .null, .null, .null, .null, .null, .null, .int (0), .int (0), .int (0), .int (0), .int (0)])), (q_1, .inl (ak 0, 16, .inl (fun _ => 0)))] H := hP
  have hD : va_D A [(h0, .inr (1, [.null, .null, .null, .null, .null, .null, .null, .int (0), .int (0), .int (0), .int (0), .int (0)])), (q_1, .inl (ak 0, 16, .inl (fun _ => 0)))] := hD
  refine W.widen (k := 1) (n := 16) (Nat.le_of_ble_eq_true rfl) (Nat.le_of_ble_eq_true rfl) ?_
  refine va_putF (D := D) (ci := 1) (v := .ref q_1) (ty := .array .int) (C := RX1) (T := TX1) (N := 12) hx hb hts (fun w h => wm_c (wc_X1 w h)) tyX1 tyX1_ok nmX1 hown hE.1 hP hD hS 0 rfl rfl 1 (by decide) (hts (.fieldLink RX1 9 "WornLines$Machine" "stuffs" "[I") (wm_c hw_294)) (fun _ h9 => h9) rfl hin rfl (by decide +kernel) rfl rfl (Nat.le_of_ble_eq_true rfl) dX1_init_9 (fun H locs hP hD hS => ?_)
  have hP : va_P D vwCl [(h0, .inr (1, [.null, .ref q_1, .null, .null, .null, .null, .null, .int (0), .int (0), .int (0), .int (0), .int (0)])), (q_1, .inl (ak 0, 16, .inl (fun _ => 0)))] H := hP
  have hD : va_D A [(h0, .inr (1, [.null, .ref q_1, .null, .null, .null, .null, .null, .int (0), .int (0), .int (0), .int (0), .int (0)])), (q_1, .inl (ak 0, 16, .inl (fun _ => 0)))] := hD
  refine lv_aload_n hx hb dX1_init_12 rfl (lv_at hl 0 rfl) ?_
  refine lv_bipush (v := 16) hx hb dX1_init_13 (by decide) ?_
  refine kn_a (atype := .int) (ty := .int) (a0 := (16, .inl (fun _ => 0))) (N' := 16) hx hb (hts (.arrayClass .int) (wm_c hw_267)) hE 0 rfl rfl (fun _ h => h) hP hD hS hA (fun cA => vp_cell_i cA 16 (fun _ => 0)) (by decide) (rfl) (by decide +kernel) (Nat.le_of_ble_eq_true rfl) (Nat.le_of_ble_eq_true rfl) dX1_init_15 (fun q_2 H hP hD hS => ?_)
  have hP : va_P D vwCl [(h0, .inr (1, [.null, .ref q_1, .null, .null, .null, .null, .null, .int (0), .int (0), .int (0), .int (0), .int (0)])), (q_1, .inl (ak 0, 16, .inl (fun _ => 0))), (q_2, .inl (ak 0, 16, .inl (fun _ => 0)))] H := hP
  have hD : va_D A [(h0, .inr (1, [.null, .ref q_1, .null, .null, .null, .null, .null, .int (0), .int (0), .int (0), .int (0), .int (0)])), (q_1, .inl (ak 0, 16, .inl (fun _ => 0))), (q_2, .inl (ak 0, 16, .inl (fun _ => 0)))] := hD
  refine W.widen (k := 2) (n := 32) (Nat.le_of_ble_eq_true rfl) (Nat.le_of_ble_eq_true rfl) ?_
  refine va_putF (D := D) (ci := 1) (v := .ref q_2) (ty := .array .int) (C := RX1) (T := TX1) (N := 12) hx hb hts (fun w h => wm_c (wc_X1 w h)) tyX1 tyX1_ok nmX1 hown hE.1 hP hD hS 0 rfl rfl 2 (by decide) (hts (.fieldLink RX1 15 "WornLines$Machine" "twins" "[I") (wm_c hw_295)) (fun _ h9 => h9) rfl hin rfl (by decide +kernel) rfl rfl (Nat.le_of_ble_eq_true rfl) dX1_init_17 (fun H locs hP hD hS => ?_)
  have hP : va_P D vwCl [(h0, .inr (1, [.null, .ref q_1, .ref q_2, .null, .null, .null, .null, .int (0), .int (0), .int (0), .int (0), .int (0)])), (q_1, .inl (ak 0, 16, .inl (fun _ => 0))), (q_2, .inl (ak 0, 16, .inl (fun _ => 0)))] H := hP
  have hD : va_D A [(h0, .inr (1, [.null, .ref q_1, .ref q_2, .null, .null, .null, .null, .int (0), .int (0), .int (0), .int (0), .int (0)])), (q_1, .inl (ak 0, 16, .inl (fun _ => 0))), (q_2, .inl (ak 0, 16, .inl (fun _ => 0)))] := hD
  refine lv_aload_n hx hb dX1_init_20 rfl (lv_at hl 0 rfl) ?_
  refine lv_bipush (v := 16) hx hb dX1_init_21 (by decide) ?_
  refine kn_a (atype := .int) (ty := .int) (a0 := (16, .inl (fun _ => 0))) (N' := 16) hx hb (hts (.arrayClass .int) (wm_c hw_267)) hE 0 rfl rfl (fun _ h => h) hP hD hS hA (fun cA => vp_cell_i cA 16 (fun _ => 0)) (by decide) (rfl) (by decide +kernel) (Nat.le_of_ble_eq_true rfl) (Nat.le_of_ble_eq_true rfl) dX1_init_23 (fun q_3 H hP hD hS => ?_)
  have hP : va_P D vwCl [(h0, .inr (1, [.null, .ref q_1, .ref q_2, .null, .null, .null, .null, .int (0), .int (0), .int (0), .int (0), .int (0)])), (q_1, .inl (ak 0, 16, .inl (fun _ => 0))), (q_2, .inl (ak 0, 16, .inl (fun _ => 0))), (q_3, .inl (ak 0, 16, .inl (fun _ => 0)))] H := hP
  have hD : va_D A [(h0, .inr (1, [.null, .ref q_1, .ref q_2, .null, .null, .null, .null, .int (0), .int (0), .int (0), .int (0), .int (0)])), (q_1, .inl (ak 0, 16, .inl (fun _ => 0))), (q_2, .inl (ak 0, 16, .inl (fun _ => 0))), (q_3, .inl (ak 0, 16, .inl (fun _ => 0)))] := hD
  refine W.widen (k := 3) (n := 48) (Nat.le_of_ble_eq_true rfl) (Nat.le_of_ble_eq_true rfl) ?_
  refine va_putF (D := D) (ci := 1) (v := .ref q_3) (ty := .array .int) (C := RX1) (T := TX1) (N := 12) hx hb hts (fun w h => wm_c (wc_X1 w h)) tyX1 tyX1_ok nmX1 hown hE.1 hP hD hS 0 rfl rfl 3 (by decide) (hts (.fieldLink RX1 18 "WornLines$Machine" "worn" "[I") (wm_c hw_296)) (fun _ h9 => h9) rfl hin rfl (by decide +kernel) rfl rfl (Nat.le_of_ble_eq_true rfl) dX1_init_25 (fun H locs hP hD hS => ?_)
  have hP : va_P D vwCl [(h0, .inr (1, [.null, .ref q_1, .ref q_2, .ref q_3, .null, .null, .null, .int (0), .int (0), .int (0), .int (0), .int (0)])), (q_1, .inl (ak 0, 16, .inl (fun _ => 0))), (q_2, .inl (ak 0, 16, .inl (fun _ => 0))), (q_3, .inl (ak 0, 16, .inl (fun _ => 0)))] H := hP
  have hD : va_D A [(h0, .inr (1, [.null, .ref q_1, .ref q_2, .ref q_3, .null, .null, .null, .int (0), .int (0), .int (0), .int (0), .int (0)])), (q_1, .inl (ak 0, 16, .inl (fun _ => 0))), (q_2, .inl (ak 0, 16, .inl (fun _ => 0))), (q_3, .inl (ak 0, 16, .inl (fun _ => 0)))] := hD
  refine lv_aload_n hx hb dX1_init_28 rfl (lv_at hl 0 rfl) ?_
  refine lv_bipush (v := 6) hx hb dX1_init_29 (by decide) ?_
  refine kn_a (atype := .int) (ty := .int) (a0 := (6, .inl (fun _ => 0))) (N' := 6) hx hb (hts (.arrayClass .int) (wm_c hw_267)) hE 0 rfl rfl (fun _ h => h) hP hD hS hA (fun cA => vp_cell_i cA 6 (fun _ => 0)) (by decide) (rfl) (by decide +kernel) (Nat.le_of_ble_eq_true rfl) (Nat.le_of_ble_eq_true rfl) dX1_init_31 (fun q_4 H hP hD hS => ?_)
  have hP : va_P D vwCl [(h0, .inr (1, [.null, .ref q_1, .ref q_2, .ref q_3, .null, .null, .null, .int (0), .int (0), .int (0), .int (0), .int (0)])), (q_1, .inl (ak 0, 16, .inl (fun _ => 0))), (q_2, .inl (ak 0, 16, .inl (fun _ => 0))), (q_3, .inl (ak 0, 16, .inl (fun _ => 0))), (q_4, .inl (ak 0, 6, .inl (fun _ => 0)))] H := hP
  have hD : va_D A [(h0, .inr (1, [.null, .ref q_1, .ref q_2, .ref q_3, .null, .null, .null, .int (0), .int (0), .int (0), .int (0), .int (0)])), (q_1, .inl (ak 0, 16, .inl (fun _ => 0))), (q_2, .inl (ak 0, 16, .inl (fun _ => 0))), (q_3, .inl (ak 0, 16, .inl (fun _ => 0))), (q_4, .inl (ak 0, 6, .inl (fun _ => 0)))] := hD
  refine W.widen (k := 4) (n := 54) (Nat.le_of_ble_eq_true rfl) (Nat.le_of_ble_eq_true rfl) ?_
  refine va_putF (D := D) (ci := 1) (v := .ref q_4) (ty := .array .int) (C := RX1) (T := TX1) (N := 12) hx hb hts (fun w h => wm_c (wc_X1 w h)) tyX1 tyX1_ok nmX1 hown hE.1 hP hD hS 0 rfl rfl 4 (by decide) (hts (.fieldLink RX1 21 "WornLines$Machine" "cells" "[I") (wm_c hw_297)) (fun _ h9 => h9) rfl hin rfl (by decide +kernel) rfl rfl (Nat.le_of_ble_eq_true rfl) dX1_init_33 (fun H locs hP hD hS => ?_)
  have hP : va_P D vwCl [(h0, .inr (1, [.null, .ref q_1, .ref q_2, .ref q_3, .ref q_4, .null, .null, .int (0), .int (0), .int (0), .int (0), .int (0)])), (q_1, .inl (ak 0, 16, .inl (fun _ => 0))), (q_2, .inl (ak 0, 16, .inl (fun _ => 0))), (q_3, .inl (ak 0, 16, .inl (fun _ => 0))), (q_4, .inl (ak 0, 6, .inl (fun _ => 0)))] H := hP
  have hD : va_D A [(h0, .inr (1, [.null, .ref q_1, .ref q_2, .ref q_3, .ref q_4, .null, .null, .int (0), .int (0), .int (0), .int (0), .int (0)])), (q_1, .inl (ak 0, 16, .inl (fun _ => 0))), (q_2, .inl (ak 0, 16, .inl (fun _ => 0))), (q_3, .inl (ak 0, 16, .inl (fun _ => 0))), (q_4, .inl (ak 0, 6, .inl (fun _ => 0)))] := hD
  refine lv_aload_n hx hb dX1_init_36 rfl (lv_at hl 0 rfl) ?_
  refine lv_bipush (v := 32) hx hb dX1_init_37 (by decide) ?_
  refine kn_a (atype := .int) (ty := .int) (a0 := (32, .inl (fun _ => 0))) (N' := 32) hx hb (hts (.arrayClass .int) (wm_c hw_267)) hE 0 rfl rfl (fun _ h => h) hP hD hS hA (fun cA => vp_cell_i cA 32 (fun _ => 0)) (by decide) (rfl) (by decide +kernel) (Nat.le_of_ble_eq_true rfl) (Nat.le_of_ble_eq_true rfl) dX1_init_39 (fun q_5 H hP hD hS => ?_)
  have hP : va_P D vwCl [(h0, .inr (1, [.null, .ref q_1, .ref q_2, .ref q_3, .ref q_4, .null, .null, .int (0), .int (0), .int (0), .int (0), .int (0)])), (q_1, .inl (ak 0, 16, .inl (fun _ => 0))), (q_2, .inl (ak 0, 16, .inl (fun _ => 0))), (q_3, .inl (ak 0, 16, .inl (fun _ => 0))), (q_4, .inl (ak 0, 6, .inl (fun _ => 0))), (q_5, .inl (ak 0, 32, .inl (fun _ => 0)))] H := hP
  have hD : va_D A [(h0, .inr (1, [.null, .ref q_1, .ref q_2, .ref q_3, .ref q_4, .null, .null, .int (0), .int (0), .int (0), .int (0), .int (0)])), (q_1, .inl (ak 0, 16, .inl (fun _ => 0))), (q_2, .inl (ak 0, 16, .inl (fun _ => 0))), (q_3, .inl (ak 0, 16, .inl (fun _ => 0))), (q_4, .inl (ak 0, 6, .inl (fun _ => 0))), (q_5, .inl (ak 0, 32, .inl (fun _ => 0)))] := hD
  refine W.widen (k := 5) (n := 86) (Nat.le_of_ble_eq_true rfl) (Nat.le_of_ble_eq_true rfl) ?_
  refine va_putF (D := D) (ci := 1) (v := .ref q_5) (ty := .array .int) (C := RX1) (T := TX1) (N := 12) hx hb hts (fun w h => wm_c (wc_X1 w h)) tyX1 tyX1_ok nmX1 hown hE.1 hP hD hS 0 rfl rfl 6 (by decide) (hts (.fieldLink RX1 24 "WornLines$Machine" "stack" "[I") (wm_c hw_298)) (fun _ h9 => h9) rfl hin rfl (by decide +kernel) rfl rfl (Nat.le_of_ble_eq_true rfl) dX1_init_41 (fun H locs hP hD hS => ?_)
  have hP : va_P D vwCl [(h0, .inr (1, [.null, .ref q_1, .ref q_2, .ref q_3, .ref q_4, .null, .ref q_5, .int (0), .int (0), .int (0), .int (0), .int (0)])), (q_1, .inl (ak 0, 16, .inl (fun _ => 0))), (q_2, .inl (ak 0, 16, .inl (fun _ => 0))), (q_3, .inl (ak 0, 16, .inl (fun _ => 0))), (q_4, .inl (ak 0, 6, .inl (fun _ => 0))), (q_5, .inl (ak 0, 32, .inl (fun _ => 0)))] H := hP
  have hD : va_D A [(h0, .inr (1, [.null, .ref q_1, .ref q_2, .ref q_3, .ref q_4, .null, .ref q_5, .int (0), .int (0), .int (0), .int (0), .int (0)])), (q_1, .inl (ak 0, 16, .inl (fun _ => 0))), (q_2, .inl (ak 0, 16, .inl (fun _ => 0))), (q_3, .inl (ak 0, 16, .inl (fun _ => 0))), (q_4, .inl (ak 0, 6, .inl (fun _ => 0))), (q_5, .inl (ak 0, 32, .inl (fun _ => 0)))] := hD
  refine lv_aload_n hx hb dX1_init_44 rfl (lv_at hl 0 rfl) ?_
  refine lv_iconst (v := 0) hx hb dX1_init_45 (by decide) ?_
  refine va_put (D := D) (ci := 1) (v := .int (0)) (ty := .int) (C := RX1) (T := TX1) (N := 12) hx hb hts (fun w h => wm_c (wc_X1 w h)) tyX1 tyX1_ok nmX1 hown hE.1 hP hD hS 0 rfl rfl 7 (by decide) (hts (.fieldLink RX1 27 "WornLines$Machine" "way" "I") (wm_c hw_299)) (fun _ h9 => h9) rfl (by decide +kernel) rfl rfl (Nat.le_of_ble_eq_true rfl) dX1_init_46 (fun H locs hP hD hS => ?_)
  have hP : va_P D vwCl [(h0, .inr (1, [.null, .ref q_1, .ref q_2, .ref q_3, .ref q_4, .null, .ref q_5, .int (0), .int (0), .int (0), .int (0), .int (0)])), (q_1, .inl (ak 0, 16, .inl (fun _ => 0))), (q_2, .inl (ak 0, 16, .inl (fun _ => 0))), (q_3, .inl (ak 0, 16, .inl (fun _ => 0))), (q_4, .inl (ak 0, 6, .inl (fun _ => 0))), (q_5, .inl (ak 0, 32, .inl (fun _ => 0)))] H := hP
  have hD : va_D A [(h0, .inr (1, [.null, .ref q_1, .ref q_2, .ref q_3, .ref q_4, .null, .ref q_5, .int (0), .int (0), .int (0), .int (0), .int (0)])), (q_1, .inl (ak 0, 16, .inl (fun _ => 0))), (q_2, .inl (ak 0, 16, .inl (fun _ => 0))), (q_3, .inl (ak 0, 16, .inl (fun _ => 0))), (q_4, .inl (ak 0, 6, .inl (fun _ => 0))), (q_5, .inl (ak 0, 32, .inl (fun _ => 0)))] := hD
  refine lv_aload_n hx hb dX1_init_49 rfl (lv_at hl 0 rfl) ?_
  refine lv_iconst (v := 0) hx hb dX1_init_50 (by decide) ?_
  refine va_put (D := D) (ci := 1) (v := .int (0)) (ty := .int) (C := RX1) (T := TX1) (N := 12) hx hb hts (fun w h => wm_c (wc_X1 w h)) tyX1 tyX1_ok nmX1 hown hE.1 hP hD hS 0 rfl rfl 8 (by decide) (hts (.fieldLink RX1 31 "WornLines$Machine" "state" "I") (wm_c hw_300)) (fun _ h9 => h9) rfl (by decide +kernel) rfl rfl (Nat.le_of_ble_eq_true rfl) dX1_init_51 (fun H locs hP hD hS => ?_)
  have hP : va_P D vwCl [(h0, .inr (1, [.null, .ref q_1, .ref q_2, .ref q_3, .ref q_4, .null, .ref q_5, .int (0), .int (0), .int (0), .int (0), .int (0)])), (q_1, .inl (ak 0, 16, .inl (fun _ => 0))), (q_2, .inl (ak 0, 16, .inl (fun _ => 0))), (q_3, .inl (ak 0, 16, .inl (fun _ => 0))), (q_4, .inl (ak 0, 6, .inl (fun _ => 0))), (q_5, .inl (ak 0, 32, .inl (fun _ => 0)))] H := hP
  have hD : va_D A [(h0, .inr (1, [.null, .ref q_1, .ref q_2, .ref q_3, .ref q_4, .null, .ref q_5, .int (0), .int (0), .int (0), .int (0), .int (0)])), (q_1, .inl (ak 0, 16, .inl (fun _ => 0))), (q_2, .inl (ak 0, 16, .inl (fun _ => 0))), (q_3, .inl (ak 0, 16, .inl (fun _ => 0))), (q_4, .inl (ak 0, 6, .inl (fun _ => 0))), (q_5, .inl (ak 0, 32, .inl (fun _ => 0)))] := hD
  refine lv_aload_n hx hb dX1_init_54 rfl (lv_at hl 0 rfl) ?_
  refine lv_aload_n hx hb dX1_init_55 rfl (lv_at hl 1 rfl) ?_
  refine va_put (D := D) (ci := 1) (v := .ref p0) (ty := .object "WornLines$Programme") (C := RX1) (T := TX1) (N := 12) hx hb hts (fun w h => wm_c (wc_X1 w h)) tyX1 tyX1_ok nmX1 hown hE.1 hP hD hS 0 rfl rfl 0 (by decide) (hts (.fieldLink RX1 34 "WornLines$Machine" "programme" "LWornLines$Programme;") (wm_c hw_301)) (fun _ h9 => h9) rfl (by decide +kernel) rfl rfl (Nat.le_of_ble_eq_true rfl) dX1_init_56 (fun H locs hP hD hS => ?_)
  have hP : va_P D vwCl [(h0, .inr (1, [.ref p0, .ref q_1, .ref q_2, .ref q_3, .ref q_4, .null, .ref q_5, .int (0), .int (0), .int (0), .int (0), .int (0)])), (q_1, .inl (ak 0, 16, .inl (fun _ => 0))), (q_2, .inl (ak 0, 16, .inl (fun _ => 0))), (q_3, .inl (ak 0, 16, .inl (fun _ => 0))), (q_4, .inl (ak 0, 6, .inl (fun _ => 0))), (q_5, .inl (ak 0, 32, .inl (fun _ => 0)))] H := hP
  have hD : va_D A [(h0, .inr (1, [.ref p0, .ref q_1, .ref q_2, .ref q_3, .ref q_4, .null, .ref q_5, .int (0), .int (0), .int (0), .int (0), .int (0)])), (q_1, .inl (ak 0, 16, .inl (fun _ => 0))), (q_2, .inl (ak 0, 16, .inl (fun _ => 0))), (q_3, .inl (ak 0, 16, .inl (fun _ => 0))), (q_4, .inl (ak 0, 6, .inl (fun _ => 0))), (q_5, .inl (ak 0, 32, .inl (fun _ => 0)))] := hD
  refine lv_aload_n hx hb dX1_init_59 rfl (lv_at hl 0 rfl) ?_
  refine lv_iload_n hx hb dX1_init_60 rfl (lv_at hl 2 rfl) ?_
  refine kn_a (atype := .int) (ty := .int) (a0 := (200, .inl (fun _ => 0))) (N' := 200) hx hb (hts (.arrayClass .int) (wm_c hw_267)) hE 0 rfl rfl (fun _ h => h) hP hD hS hA (fun cA => vp_cell_i cA 200 (fun _ => 0)) (by decide) (rfl) (by decide +kernel) (Nat.le_of_ble_eq_true rfl) (Nat.le_of_ble_eq_true rfl) dX1_init_61 (fun q_6 H hP hD hS => ?_)
  have hP : va_P D vwCl [(h0, .inr (1, [.ref p0, .ref q_1, .ref q_2, .ref q_3, .ref q_4, .null, .ref q_5, .int (0), .int (0), .int (0), .int (0), .int (0)])), (q_1, .inl (ak 0, 16, .inl (fun _ => 0))), (q_2, .inl (ak 0, 16, .inl (fun _ => 0))), (q_3, .inl (ak 0, 16, .inl (fun _ => 0))), (q_4, .inl (ak 0, 6, .inl (fun _ => 0))), (q_5, .inl (ak 0, 32, .inl (fun _ => 0))), (q_6, .inl (ak 0, 200, .inl (fun _ => 0)))] H := hP
  have hD : va_D A [(h0, .inr (1, [.ref p0, .ref q_1, .ref q_2, .ref q_3, .ref q_4, .null, .ref q_5, .int (0), .int (0), .int (0), .int (0), .int (0)])), (q_1, .inl (ak 0, 16, .inl (fun _ => 0))), (q_2, .inl (ak 0, 16, .inl (fun _ => 0))), (q_3, .inl (ak 0, 16, .inl (fun _ => 0))), (q_4, .inl (ak 0, 6, .inl (fun _ => 0))), (q_5, .inl (ak 0, 32, .inl (fun _ => 0))), (q_6, .inl (ak 0, 200, .inl (fun _ => 0)))] := hD
  refine W.widen (k := 6) (n := 286) (Nat.le_of_ble_eq_true rfl) (Nat.le_of_ble_eq_true rfl) ?_
  refine va_putF (D := D) (ci := 1) (v := .ref q_6) (ty := .array .int) (C := RX1) (T := TX1) (N := 12) hx hb hts (fun w h => wm_c (wc_X1 w h)) tyX1 tyX1_ok nmX1 hown hE.1 hP hD hS 0 rfl rfl 5 (by decide) (hts (.fieldLink RX1 38 "WornLines$Machine" "kept" "[I") (wm_c hw_302)) (fun _ h9 => h9) rfl hin rfl (by decide +kernel) rfl rfl (Nat.le_of_ble_eq_true rfl) dX1_init_63 (fun H locs hP hD hS => ?_)
  have hP : va_P D vwCl [(h0, .inr (1, [.ref p0, .ref q_1, .ref q_2, .ref q_3, .ref q_4, .ref q_6, .ref q_5, .int (0), .int (0), .int (0), .int (0), .int (0)])), (q_1, .inl (ak 0, 16, .inl (fun _ => 0))), (q_2, .inl (ak 0, 16, .inl (fun _ => 0))), (q_3, .inl (ak 0, 16, .inl (fun _ => 0))), (q_4, .inl (ak 0, 6, .inl (fun _ => 0))), (q_5, .inl (ak 0, 32, .inl (fun _ => 0))), (q_6, .inl (ak 0, 200, .inl (fun _ => 0)))] H := hP
  have hD : va_D A [(h0, .inr (1, [.ref p0, .ref q_1, .ref q_2, .ref q_3, .ref q_4, .ref q_6, .ref q_5, .int (0), .int (0), .int (0), .int (0), .int (0)])), (q_1, .inl (ak 0, 16, .inl (fun _ => 0))), (q_2, .inl (ak 0, 16, .inl (fun _ => 0))), (q_3, .inl (ak 0, 16, .inl (fun _ => 0))), (q_4, .inl (ak 0, 6, .inl (fun _ => 0))), (q_5, .inl (ak 0, 32, .inl (fun _ => 0))), (q_6, .inl (ak 0, 200, .inl (fun _ => 0)))] := hD
  have hP9 := hP.sub (ws' := [(h0, .inr (1, [.ref p0, .ref q_1, .ref q_2, .ref q_3, .ref q_4, .ref q_6, .ref q_5, .int (0), .int (0), .int (0), .int (0), .int (0)])), (q_1, .inl (ak 0, 16, .inl (fun _ => 0))), (q_2, .inl (ak 0, 16, .inl (fun _ => 0))), (q_3, .inl (ak 0, 16, .inl (fun _ => 0))), (q_4, .inl (ak 0, 6, .inl (fun _ => 0))), (q_6, .inl (ak 0, 200, .inl (fun _ => 0))), (q_5, .inl (ak 0, 32, .inl (fun _ => 0)))]) [0, 1, 2, 3, 4, 6, 5] rfl
  have hD9 := hD.sub (ws' := [(h0, .inr (1, [.ref p0, .ref q_1, .ref q_2, .ref q_3, .ref q_4, .ref q_6, .ref q_5, .int (0), .int (0), .int (0), .int (0), .int (0)])), (q_1, .inl (ak 0, 16, .inl (fun _ => 0))), (q_2, .inl (ak 0, 16, .inl (fun _ => 0))), (q_3, .inl (ak 0, 16, .inl (fun _ => 0))), (q_4, .inl (ak 0, 6, .inl (fun _ => 0))), (q_6, .inl (ak 0, 200, .inl (fun _ => 0))), (q_5, .inl (ak 0, 32, .inl (fun _ => 0)))]) [0, 1, 2, 3, 4, 6, 5] (by decide) rfl
  refine W.widen (k := 6) (n := 286) (Nat.le_of_ble_eq_true rfl) (Nat.le_of_ble_eq_true rfl) ?_
  exact W.vret hx hb hr (fun t ht hW => ⟨⟨((fun k => match k with | 0 => q_1 | 1 => q_2 | 2 => q_3 | 3 => q_4 | 4 => q_6 | _ => q_5)), rfl, trivial, by rw [ht]; exact hP9, by rw [hAe]; exact hD9⟩, by rw [hAe]; exact hS.F ht⟩) hS.2.2 dX1_init_66

set_option maxHeartbeats 4000000 in
set_option maxRecDepth 100000 in
theorem c_X1_init1000 (l : Launch) (D : va_G) (ak : Nat → ClassId) (ad : Nat → Nat) (sz : Nat) (h0 : Nat) (p0 : Nat)  : Met l yX1_init wsX1_init ({ frames := 1, cells := 6, slots := 1086, locals := 12 }) (cPre D ak ad [.ref h0, .ref p0, .int (1000)] ([(h0, .inr (1, [.null, .null, .null, .null, .null, .null, .null, .int (0), .int (0), .int (0), .int (0), .int (0)]))]) sz) (cV D (S := (Nat → Nat)) (fun (u : (Nat → Nat)) => True) (fun u => [(h0, .inr (1, [.ref p0, .ref (u 0), .ref (u 1), .ref (u 2), .ref (u 3), .ref (u 4), .ref (u 5), .int (0), .int (0), .int (0), .int (0), .int (0)])), (u 0, .inl (ak 0, 16, .inl (fun _ => 0))), (u 1, .inl (ak 0, 16, .inl (fun _ => 0))), (u 2, .inl (ak 0, 16, .inl (fun _ => 0))), (u 3, .inl (ak 0, 6, .inl (fun _ => 0))), (u 4, .inl (ak 0, 1000, .inl (fun _ => 0))), (u 5, .inl (ak 0, 32, .inl (fun _ => 0)))]) ([(h0, .inr (1, [.null, .null, .null, .null, .null, .null, .null, .int (0), .int (0), .int (0), .int (0), .int (0)]))]) sz) 6 1086 (va_A ([(h0, .inr (1, [.null, .null, .null, .null, .null, .null, .null, .int (0), .int (0), .int (0), .int (0), .int (0)]))]) sz) := by
  refine Met.ofW (cc := cX1_init) (maxL := 3) (ret := none) (by decide) rfl ?_
  intro p e s m args below meth c s₁ B hml hv
  obtain ⟨rfl, hsz, hP, hE, hD0, hT⟩ := hv
  have hx := B.exec
  have hb := B.bytes
  have hr := B.returns
  have hts := atoms_spec (ws := wsX1_init) B.pre
  have hown : s.vm.findClass RX1 = some m.cls := findClass_of_methodNamed B.named
  have hlocks := B.notSynchronized
  have hin : meth.name = "<init>" := (name_of_methodNamed B.named B.method).1
  subst hsz
  have hD := hD0.self (sz := s.heap.size)
  generalize hAe : va_A ([(h0, .inr (1, [.null, .null, .null, .null, .null, .null, .null, .int (0), .int (0), .int (0), .int (0), .int (0)]))]) s.heap.size = A at hD hT ⊢
  have hA : ∀ q : Nat, s.heap.size ≤ q → A q := fun q h => by rw [← hAe]; exact Or.inr h
  have hS : va_S A s.heap s.heap [] := va_S.rf
  have hl := lv_entry ([.ref h0, .ref p0, .int (1000)]) (n := 3) (Nat.le_of_ble_eq_true rfl)
  rw [lg_entry_eq]
  generalize (lg_sl ([.ref h0, .ref p0, .int (1000)]) ++ List.replicate (3 - (lg_sl ([.ref h0, .ref p0, .int (1000)])).length) Slot.unset).toArray = ls at hl ⊢
  have hl : lv_has ls 3 [(0, .ref h0), (1, .ref p0), (2, .int (1000))] := hl
  have hP : va_P D vwCl [(h0, .inr (1, [.null, .null, .null, .null, .null, .null, .null, .int (0), .int (0), .int (0), .int (0), .int (0)]))] s.heap := hP
  refine lv_aload_n hx hb dX1_init_0 rfl (lv_at hl 0 rfl) ?_
  refine W.objInit hx hb hown (hts (.methodLink RX1 3 objectInit) (wm_c hw_293)) (hts (.instanceMethod objectInit) (wm_c hw_261)) (hts (.code objectInit ⟨#[0xb1]⟩ 1 none) (wm_c hw_262)) rfl (by rw [hml]; exact hl.1) rfl dX1_init_1 (Nat.le_of_ble_eq_true rfl) (Nat.le_of_ble_eq_true rfl) ?_
  refine W.eq (g2 := F0 m 4 ls ([])) rfl ?_
  refine lv_aload_n hx hb dX1_init_4 rfl (lv_at hl 0 rfl) ?_
  refine lv_bipush (v := 16) hx hb dX1_init_5 (by decide) ?_
  refine kn_a (atype := .int) (ty := .int) (a0 := (16, .inl (fun _ => 0))) (N' := 16) hx hb (hts (.arrayClass .int) (wm_c hw_267)) hE 0 rfl rfl (fun _ h => h) hP hD hS hA (fun cA => vp_cell_i cA 16 (fun _ => 0)) (by decide) (rfl) (by decide +kernel) (Nat.le_of_ble_eq_true rfl) (Nat.le_of_ble_eq_true rfl) dX1_init_7 (fun q_1 H hP hD hS => ?_)
  have hP : va_P D vwCl [(h0, .inr (1, [.null, .null, .null, .null, .null, .null, .null, .int (0), .int (0), .int (0), .int (0), .int (0)])), (q_1, .inl (ak 0, 16, .inl (fun _ => 0)))] H := hP
  have hD : va_D A [(h0, .inr (1, [.null, .null, .null, .null, .null, .null, .null, .int (0), .int (0), .int (0), .int (0), .int (0)])), (q_1, .inl (ak 0, 16, .inl (fun _ => 0)))] := hD
  refine W.widen (k := 1) (n := 16) (Nat.le_of_ble_eq_true rfl) (Nat.le_of_ble_eq_true rfl) ?_
  refine va_putF (D := D) (ci := 1) (v := .ref q_1) (ty := .array .int) (C := RX1) (T := TX1) (N := 12) hx hb hts (fun w h => wm_c (wc_X1 w h)) tyX1 tyX1_ok nmX1 hown hE.1 hP hD hS 0 rfl rfl 1 (by decide) (hts (.fieldLink RX1 9 "WornLines$Machine" "stuffs" "[I") (wm_c hw_294)) (fun _ h9 => h9) rfl hin rfl (by decide +kernel) rfl rfl (Nat.le_of_ble_eq_true rfl) dX1_init_9 (fun H locs hP hD hS => ?_)
  have hP : va_P D vwCl [(h0, .inr (1, [.null, .ref q_1, .null, .null, .null, .null, .null, .int (0), .int (0), .int (0), .int (0), .int (0)])), (q_1, .inl (ak 0, 16, .inl (fun _ => 0)))] H := hP
  have hD : va_D A [(h0, .inr (1, [.null, .ref q_1, .null, .null, .null, .null, .null, .int (0), .int (0), .int (0), .int (0), .int (0)])), (q_1, .inl (ak 0, 16, .inl (fun _ => 0)))] := hD
  refine lv_aload_n hx hb dX1_init_12 rfl (lv_at hl 0 rfl) ?_
  refine lv_bipush (v := 16) hx hb dX1_init_13 (by decide) ?_
  refine kn_a (atype := .int) (ty := .int) (a0 := (16, .inl (fun _ => 0))) (N' := 16) hx hb (hts (.arrayClass .int) (wm_c hw_267)) hE 0 rfl rfl (fun _ h => h) hP hD hS hA (fun cA => vp_cell_i cA 16 (fun _ => 0)) (by decide) (rfl) (by decide +kernel) (Nat.le_of_ble_eq_true rfl) (Nat.le_of_ble_eq_true rfl) dX1_init_15 (fun q_2 H hP hD hS => ?_)
  have hP : va_P D vwCl [(h0, .inr (1, [.null, .ref q_1, .null, .null, .null, .null, .null, .int (0), .int (0), .int (0), .int (0), .int (0)])), (q_1, .inl (ak 0, 16, .inl (fun _ => 0))), (q_2, .inl (ak 0, 16, .inl (fun _ => 0)))] H := hP
  have hD : va_D A [(h0, .inr (1, [.null, .ref q_1, .null, .null, .null, .null, .null, .int (0), .int (0), .int (0), .int (0), .int (0)])), (q_1, .inl (ak 0, 16, .inl (fun _ => 0))), (q_2, .inl (ak 0, 16, .inl (fun _ => 0)))] := hD
  refine W.widen (k := 2) (n := 32) (Nat.le_of_ble_eq_true rfl) (Nat.le_of_ble_eq_true rfl) ?_
  refine va_putF (D := D) (ci := 1) (v := .ref q_2) (ty := .array .int) (C := RX1) (T := TX1) (N := 12) hx hb hts (fun w h => wm_c (wc_X1 w h)) tyX1 tyX1_ok nmX1 hown hE.1 hP hD hS 0 rfl rfl 2 (by decide) (hts (.fieldLink RX1 15 "WornLines$Machine" "twins" "[I") (wm_c hw_295)) (fun _ h9 => h9) rfl hin rfl (by decide +kernel) rfl rfl (Nat.le_of_ble_eq_true rfl) dX1_init_17 (fun H locs hP hD hS => ?_)
  have hP : va_P D vwCl [(h0, .inr (1, [.null, .ref q_1, .ref q_2, .null, .null, .null, .null, .int (0), .int (0), .int (0), .int (0), .int (0)])), (q_1, .inl (ak 0, 16, .inl (fun _ => 0))), (q_2, .inl (ak 0, 16, .inl (fun _ => 0)))] H := hP
  have hD : va_D A [(h0, .inr (1, [.null, .ref q_1, .ref q_2, .null, .null, .null, .null, .int (0), .int (0), .int (0), .int (0), .int (0)])), (q_1, .inl (ak 0, 16, .inl (fun _ => 0))), (q_2, .inl (ak 0, 16, .inl (fun _ => 0)))] := hD
  refine lv_aload_n hx hb dX1_init_20 rfl (lv_at hl 0 rfl) ?_
  refine lv_bipush (v := 16) hx hb dX1_init_21 (by decide) ?_
  refine kn_a (atype := .int) (ty := .int) (a0 := (16, .inl (fun _ => 0))) (N' := 16) hx hb (hts (.arrayClass .int) (wm_c hw_267)) hE 0 rfl rfl (fun _ h => h) hP hD hS hA (fun cA => vp_cell_i cA 16 (fun _ => 0)) (by decide) (rfl) (by decide +kernel) (Nat.le_of_ble_eq_true rfl) (Nat.le_of_ble_eq_true rfl) dX1_init_23 (fun q_3 H hP hD hS => ?_)
  have hP : va_P D vwCl [(h0, .inr (1, [.null, .ref q_1, .ref q_2, .null, .null, .null, .null, .int (0), .int (0), .int (0), .int (0), .int (0)])), (q_1, .inl (ak 0, 16, .inl (fun _ => 0))), (q_2, .inl (ak 0, 16, .inl (fun _ => 0))), (q_3, .inl (ak 0, 16, .inl (fun _ => 0)))] H := hP
  have hD : va_D A [(h0, .inr (1, [.null, .ref q_1, .ref q_2, .null, .null, .null, .null, .int (0), .int (0), .int (0), .int (0), .int (0)])), (q_1, .inl (ak 0, 16, .inl (fun _ => 0))), (q_2, .inl (ak 0, 16, .inl (fun _ => 0))), (q_3, .inl (ak 0, 16, .inl (fun _ => 0)))] := hD
  refine W.widen (k := 3) (n := 48) (Nat.le_of_ble_eq_true rfl) (Nat.le_of_ble_eq_true rfl) ?_
  refine va_putF (D := D) (ci := 1) (v := .ref q_3) (ty := .array .int) (C := RX1) (T := TX1) (N := 12) hx hb hts (fun w h => wm_c (wc_X1 w h)) tyX1 tyX1_ok nmX1 hown hE.1 hP hD hS 0 rfl rfl 3 (by decide) (hts (.fieldLink RX1 18 "WornLines$Machine" "worn" "[I") (wm_c hw_296)) (fun _ h9 => h9) rfl hin rfl (by decide +kernel) rfl rfl (Nat.le_of_ble_eq_true rfl) dX1_init_25 (fun H locs hP hD hS => ?_)
  have hP : va_P D vwCl [(h0, .inr (1, [.null, .ref q_1, .ref q_2, .ref q_3, .null, .null, .null, .int (0), .int (0), .int (0), .int (0), .int (0)])), (q_1, .inl (ak 0, 16, .inl (fun _ => 0))), (q_2, .inl (ak 0, 16, .inl (fun _ => 0))), (q_3, .inl (ak 0, 16, .inl (fun _ => 0)))] H := hP
  have hD : va_D A [(h0, .inr (1, [.null, .ref q_1, .ref q_2, .ref q_3, .null, .null, .null, .int (0), .int (0), .int (0), .int (0), .int (0)])), (q_1, .inl (ak 0, 16, .inl (fun _ => 0))), (q_2, .inl (ak 0, 16, .inl (fun _ => 0))), (q_3, .inl (ak 0, 16, .inl (fun _ => 0)))] := hD
  refine lv_aload_n hx hb dX1_init_28 rfl (lv_at hl 0 rfl) ?_
  refine lv_bipush (v := 6) hx hb dX1_init_29 (by decide) ?_
  refine kn_a (atype := .int) (ty := .int) (a0 := (6, .inl (fun _ => 0))) (N' := 6) hx hb (hts (.arrayClass .int) (wm_c hw_267)) hE 0 rfl rfl (fun _ h => h) hP hD hS hA (fun cA => vp_cell_i cA 6 (fun _ => 0)) (by decide) (rfl) (by decide +kernel) (Nat.le_of_ble_eq_true rfl) (Nat.le_of_ble_eq_true rfl) dX1_init_31 (fun q_4 H hP hD hS => ?_)
  have hP : va_P D vwCl [(h0, .inr (1, [.null, .ref q_1, .ref q_2, .ref q_3, .null, .null, .null, .int (0), .int (0), .int (0), .int (0), .int (0)])), (q_1, .inl (ak 0, 16, .inl (fun _ => 0))), (q_2, .inl (ak 0, 16, .inl (fun _ => 0))), (q_3, .inl (ak 0, 16, .inl (fun _ => 0))), (q_4, .inl (ak 0, 6, .inl (fun _ => 0)))] H := hP
  have hD : va_D A [(h0, .inr (1, [.null, .ref q_1, .ref q_2, .ref q_3, .null, .null, .null, .int (0), .int (0), .int (0), .int (0), .int (0)])), (q_1, .inl (ak 0, 16, .inl (fun _ => 0))), (q_2, .inl (ak 0, 16, .inl (fun _ => 0))), (q_3, .inl (ak 0, 16, .inl (fun _ => 0))), (q_4, .inl (ak 0, 6, .inl (fun _ => 0)))] := hD
  refine W.widen (k := 4) (n := 54) (Nat.le_of_ble_eq_true rfl) (Nat.le_of_ble_eq_true rfl) ?_
  refine va_putF (D := D) (ci := 1) (v := .ref q_4) (ty := .array .int) (C := RX1) (T := TX1) (N := 12) hx hb hts (fun w h => wm_c (wc_X1 w h)) tyX1 tyX1_ok nmX1 hown hE.1 hP hD hS 0 rfl rfl 4 (by decide) (hts (.fieldLink RX1 21 "WornLines$Machine" "cells" "[I") (wm_c hw_297)) (fun _ h9 => h9) rfl hin rfl (by decide +kernel) rfl rfl (Nat.le_of_ble_eq_true rfl) dX1_init_33 (fun H locs hP hD hS => ?_)
  have hP : va_P D vwCl [(h0, .inr (1, [.null, .ref q_1, .ref q_2, .ref q_3, .ref q_4, .null, .null, .int (0), .int (0), .int (0), .int (0), .int (0)])), (q_1, .inl (ak 0, 16, .inl (fun _ => 0))), (q_2, .inl (ak 0, 16, .inl (fun _ => 0))), (q_3, .inl (ak 0, 16, .inl (fun _ => 0))), (q_4, .inl (ak 0, 6, .inl (fun _ => 0)))] H := hP
  have hD : va_D A [(h0, .inr (1, [.null, .ref q_1, .ref q_2, .ref q_3, .ref q_4, .null, .null, .int (0), .int (0), .int (0), .int (0), .int (0)])), (q_1, .inl (ak 0, 16, .inl (fun _ => 0))), (q_2, .inl (ak 0, 16, .inl (fun _ => 0))), (q_3, .inl (ak 0, 16, .inl (fun _ => 0))), (q_4, .inl (ak 0, 6, .inl (fun _ => 0)))] := hD
  refine lv_aload_n hx hb dX1_init_36 rfl (lv_at hl 0 rfl) ?_
  refine lv_bipush (v := 32) hx hb dX1_init_37 (by decide) ?_
  refine kn_a (atype := .int) (ty := .int) (a0 := (32, .inl (fun _ => 0))) (N' := 32) hx hb (hts (.arrayClass .int) (wm_c hw_267)) hE 0 rfl rfl (fun _ h => h) hP hD hS hA (fun cA => vp_cell_i cA 32 (fun _ => 0)) (by decide) (rfl) (by decide +kernel) (Nat.le_of_ble_eq_true rfl) (Nat.le_of_ble_eq_true rfl) dX1_init_39 (fun q_5 H hP hD hS => ?_)
  have hP : va_P D vwCl [(h0, .inr (1, [.null, .ref q_1, .ref q_2, .ref q_3, .ref q_4, .null, .null, .int (0), .int (0), .int (0), .int (0), .int (0)])), (q_1, .inl (ak 0, 16, .inl (fun _ => 0))), (q_2, .inl (ak 0, 16, .inl (fun _ => 0))), (q_3, .inl (ak 0, 16, .inl (fun _ => 0))), (q_4, .inl (ak 0, 6, .inl (fun _ => 0))), (q_5, .inl (ak 0, 32, .inl (fun _ => 0)))] H := hP
  have hD : va_D A [(h0, .inr (1, [.null, .ref q_1, .ref q_2, .ref q_3, .ref q_4, .null, .null, .int (0), .int (0), .int (0), .int (0), .int (0)])), (q_1, .inl (ak 0, 16, .inl (fun _ => 0))), (q_2, .inl (ak 0, 16, .inl (fun _ => 0))), (q_3, .inl (ak 0, 16, .inl (fun _ => 0))), (q_4, .inl (ak 0, 6, .inl (fun _ => 0))), (q_5, .inl (ak 0, 32, .inl (fun _ => 0)))] := hD
  refine W.widen (k := 5) (n := 86) (Nat.le_of_ble_eq_true rfl) (Nat.le_of_ble_eq_true rfl) ?_
  refine va_putF (D := D) (ci := 1) (v := .ref q_5) (ty := .array .int) (C := RX1) (T := TX1) (N := 12) hx hb hts (fun w h => wm_c (wc_X1 w h)) tyX1 tyX1_ok nmX1 hown hE.1 hP hD hS 0 rfl rfl 6 (by decide) (hts (.fieldLink RX1 24 "WornLines$Machine" "stack" "[I") (wm_c hw_298)) (fun _ h9 => h9) rfl hin rfl (by decide +kernel) rfl rfl (Nat.le_of_ble_eq_true rfl) dX1_init_41 (fun H locs hP hD hS => ?_)
  have hP : va_P D vwCl [(h0, .inr (1, [.null, .ref q_1, .ref q_2, .ref q_3, .ref q_4, .null, .ref q_5, .int (0), .int (0), .int (0), .int (0), .int (0)])), (q_1, .inl (ak 0, 16, .inl (fun _ => 0))), (q_2, .inl (ak 0, 16, .inl (fun _ => 0))), (q_3, .inl (ak 0, 16, .inl (fun _ => 0))), (q_4, .inl (ak 0, 6, .inl (fun _ => 0))), (q_5, .inl (ak 0, 32, .inl (fun _ => 0)))] H := hP
  have hD : va_D A [(h0, .inr (1, [.null, .ref q_1, .ref q_2, .ref q_3, .ref q_4, .null, .ref q_5, .int (0), .int (0), .int (0), .int (0), .int (0)])), (q_1, .inl (ak 0, 16, .inl (fun _ => 0))), (q_2, .inl (ak 0, 16, .inl (fun _ => 0))), (q_3, .inl (ak 0, 16, .inl (fun _ => 0))), (q_4, .inl (ak 0, 6, .inl (fun _ => 0))), (q_5, .inl (ak 0, 32, .inl (fun _ => 0)))] := hD
  refine lv_aload_n hx hb dX1_init_44 rfl (lv_at hl 0 rfl) ?_
  refine lv_iconst (v := 0) hx hb dX1_init_45 (by decide) ?_
  refine va_put (D := D) (ci := 1) (v := .int (0)) (ty := .int) (C := RX1) (T := TX1) (N := 12) hx hb hts (fun w h => wm_c (wc_X1 w h)) tyX1 tyX1_ok nmX1 hown hE.1 hP hD hS 0 rfl rfl 7 (by decide) (hts (.fieldLink RX1 27 "WornLines$Machine" "way" "I") (wm_c hw_299)) (fun _ h9 => h9) rfl (by decide +kernel) rfl rfl (Nat.le_of_ble_eq_true rfl) dX1_init_46 (fun H locs hP hD hS => ?_)
  have hP : va_P D vwCl [(h0, .inr (1, [.null, .ref q_1, .ref q_2, .ref q_3, .ref q_4, .null, .ref q_5, .int (0), .int (0), .int (0), .int (0), .int (0)])), (q_1, .inl (ak 0, 16, .inl (fun _ => 0))), (q_2, .inl (ak 0, 16, .inl (fun _ => 0))), (q_3, .inl (ak 0, 16, .inl (fun _ => 0))), (q_4, .inl (ak 0, 6, .inl (fun _ => 0))), (q_5, .inl (ak 0, 32, .inl (fun _ => 0)))] H := hP
  have hD : va_D A [(h0, .inr (1, [.null, .ref q_1, .ref q_2, .ref q_3, .ref q_4, .null, .ref q_5, .int (0), .int (0), .int (0), .int (0), .int (0)])), (q_1, .inl (ak 0, 16, .inl (fun _ => 0))), (q_2, .inl (ak 0, 16, .inl (fun _ => 0))), (q_3, .inl (ak 0, 16, .inl (fun _ => 0))), (q_4, .inl (ak 0, 6, .inl (fun _ => 0))), (q_5, .inl (ak 0, 32, .inl (fun _ => 0)))] := hD
  refine lv_aload_n hx hb dX1_init_49 rfl (lv_at hl 0 rfl) ?_
  refine lv_iconst (v := 0) hx hb dX1_init_50 (by decide) ?_
  refine va_put (D := D) (ci := 1) (v := .int (0)) (ty := .int) (C := RX1) (T := TX1) (N := 12) hx hb hts (fun w h => wm_c (wc_X1 w h)) tyX1 tyX1_ok nmX1 hown hE.1 hP hD hS 0 rfl rfl 8 (by decide) (hts (.fieldLink RX1 31 "WornLines$Machine" "state" "I") (wm_c hw_300)) (fun _ h9 => h9) rfl (by decide +kernel) rfl rfl (Nat.le_of_ble_eq_true rfl) dX1_init_51 (fun H locs hP hD hS => ?_)
  have hP : va_P D vwCl [(h0, .inr (1, [.null, .ref q_1, .ref q_2, .ref q_3, .ref q_4, .null, .ref q_5, .int (0), .int (0), .int (0), .int (0), .int (0)])), (q_1, .inl (ak 0, 16, .inl (fun _ => 0))), (q_2, .inl (ak 0, 16, .inl (fun _ => 0))), (q_3, .inl (ak 0, 16, .inl (fun _ => 0))), (q_4, .inl (ak 0, 6, .inl (fun _ => 0))), (q_5, .inl (ak 0, 32, .inl (fun _ => 0)))] H := hP
  have hD : va_D A [(h0, .inr (1, [.null, .ref q_1, .ref q_2, .ref q_3, .ref q_4, .null, .ref q_5, .int (0), .int (0), .int (0), .int (0), .int (0)])), (q_1, .inl (ak 0, 16, .inl (fun _ => 0))), (q_2, .inl (ak 0, 16, .inl (fun _ => 0))), (q_3, .inl (ak 0, 16, .inl (fun _ => 0))), (q_4, .inl (ak 0, 6, .inl (fun _ => 0))), (q_5, .inl (ak 0, 32, .inl (fun _ => 0)))] := hD
  refine lv_aload_n hx hb dX1_init_54 rfl (lv_at hl 0 rfl) ?_
  refine lv_aload_n hx hb dX1_init_55 rfl (lv_at hl 1 rfl) ?_
  refine va_put (D := D) (ci := 1) (v := .ref p0) (ty := .object "WornLines$Programme") (C := RX1) (T := TX1) (N := 12) hx hb hts (fun w h => wm_c (wc_X1 w h)) tyX1 tyX1_ok nmX1 hown hE.1 hP hD hS 0 rfl rfl 0 (by decide) (hts (.fieldLink RX1 34 "WornLines$Machine" "programme" "LWornLines$Programme;") (wm_c hw_301)) (fun _ h9 => h9) rfl (by decide +kernel) rfl rfl (Nat.le_of_ble_eq_true rfl) dX1_init_56 (fun H locs hP hD hS => ?_)
  have hP : va_P D vwCl [(h0, .inr (1, [.ref p0, .ref q_1, .ref q_2, .ref q_3, .ref q_4, .null, .ref q_5, .int (0), .int (0), .int (0), .int (0), .int (0)])), (q_1, .inl (ak 0, 16, .inl (fun _ => 0))), (q_2, .inl (ak 0, 16, .inl (fun _ => 0))), (q_3, .inl (ak 0, 16, .inl (fun _ => 0))), (q_4, .inl (ak 0, 6, .inl (fun _ => 0))), (q_5, .inl (ak 0, 32, .inl (fun _ => 0)))] H := hP
  have hD : va_D A [(h0, .inr (1, [.ref p0, .ref q_1, .ref q_2, .ref q_3, .ref q_4, .null, .ref q_5, .int (0), .int (0), .int (0), .int (0), .int (0)])), (q_1, .inl (ak 0, 16, .inl (fun _ => 0))), (q_2, .inl (ak 0, 16, .inl (fun _ => 0))), (q_3, .inl (ak 0, 16, .inl (fun _ => 0))), (q_4, .inl (ak 0, 6, .inl (fun _ => 0))), (q_5, .inl (ak 0, 32, .inl (fun _ => 0)))] := hD
  refine lv_aload_n hx hb dX1_init_59 rfl (lv_at hl 0 rfl) ?_
  refine lv_iload_n hx hb dX1_init_60 rfl (lv_at hl 2 rfl) ?_
  refine kn_a (atype := .int) (ty := .int) (a0 := (1000, .inl (fun _ => 0))) (N' := 1000) hx hb (hts (.arrayClass .int) (wm_c hw_267)) hE 0 rfl rfl (fun _ h => h) hP hD hS hA (fun cA => vp_cell_i cA 1000 (fun _ => 0)) (by decide) (rfl) (by decide +kernel) (Nat.le_of_ble_eq_true rfl) (Nat.le_of_ble_eq_true rfl) dX1_init_61 (fun q_6 H hP hD hS => ?_)
  have hP : va_P D vwCl [(h0, .inr (1, [.ref p0, .ref q_1, .ref q_2, .ref q_3, .ref q_4, .null, .ref q_5, .int (0), .int (0), .int (0), .int (0), .int (0)])), (q_1, .inl (ak 0, 16, .inl (fun _ => 0))), (q_2, .inl (ak 0, 16, .inl (fun _ => 0))), (q_3, .inl (ak 0, 16, .inl (fun _ => 0))), (q_4, .inl (ak 0, 6, .inl (fun _ => 0))), (q_5, .inl (ak 0, 32, .inl (fun _ => 0))), (q_6, .inl (ak 0, 1000, .inl (fun _ => 0)))] H := hP
  have hD : va_D A [(h0, .inr (1, [.ref p0, .ref q_1, .ref q_2, .ref q_3, .ref q_4, .null, .ref q_5, .int (0), .int (0), .int (0), .int (0), .int (0)])), (q_1, .inl (ak 0, 16, .inl (fun _ => 0))), (q_2, .inl (ak 0, 16, .inl (fun _ => 0))), (q_3, .inl (ak 0, 16, .inl (fun _ => 0))), (q_4, .inl (ak 0, 6, .inl (fun _ => 0))), (q_5, .inl (ak 0, 32, .inl (fun _ => 0))), (q_6, .inl (ak 0, 1000, .inl (fun _ => 0)))] := hD
  refine W.widen (k := 6) (n := 1086) (Nat.le_of_ble_eq_true rfl) (Nat.le_of_ble_eq_true rfl) ?_
  refine va_putF (D := D) (ci := 1) (v := .ref q_6) (ty := .array .int) (C := RX1) (T := TX1) (N := 12) hx hb hts (fun w h => wm_c (wc_X1 w h)) tyX1 tyX1_ok nmX1 hown hE.1 hP hD hS 0 rfl rfl 5 (by decide) (hts (.fieldLink RX1 38 "WornLines$Machine" "kept" "[I") (wm_c hw_302)) (fun _ h9 => h9) rfl hin rfl (by decide +kernel) rfl rfl (Nat.le_of_ble_eq_true rfl) dX1_init_63 (fun H locs hP hD hS => ?_)
  have hP : va_P D vwCl [(h0, .inr (1, [.ref p0, .ref q_1, .ref q_2, .ref q_3, .ref q_4, .ref q_6, .ref q_5, .int (0), .int (0), .int (0), .int (0), .int (0)])), (q_1, .inl (ak 0, 16, .inl (fun _ => 0))), (q_2, .inl (ak 0, 16, .inl (fun _ => 0))), (q_3, .inl (ak 0, 16, .inl (fun _ => 0))), (q_4, .inl (ak 0, 6, .inl (fun _ => 0))), (q_5, .inl (ak 0, 32, .inl (fun _ => 0))), (q_6, .inl (ak 0, 1000, .inl (fun _ => 0)))] H := hP
  have hD : va_D A [(h0, .inr (1, [.ref p0, .ref q_1, .ref q_2, .ref q_3, .ref q_4, .ref q_6, .ref q_5, .int (0), .int (0), .int (0), .int (0), .int (0)])), (q_1, .inl (ak 0, 16, .inl (fun _ => 0))), (q_2, .inl (ak 0, 16, .inl (fun _ => 0))), (q_3, .inl (ak 0, 16, .inl (fun _ => 0))), (q_4, .inl (ak 0, 6, .inl (fun _ => 0))), (q_5, .inl (ak 0, 32, .inl (fun _ => 0))), (q_6, .inl (ak 0, 1000, .inl (fun _ => 0)))] := hD
  have hP9 := hP.sub (ws' := [(h0, .inr (1, [.ref p0, .ref q_1, .ref q_2, .ref q_3, .ref q_4, .ref q_6, .ref q_5, .int (0), .int (0), .int (0), .int (0), .int (0)])), (q_1, .inl (ak 0, 16, .inl (fun _ => 0))), (q_2, .inl (ak 0, 16, .inl (fun _ => 0))), (q_3, .inl (ak 0, 16, .inl (fun _ => 0))), (q_4, .inl (ak 0, 6, .inl (fun _ => 0))), (q_6, .inl (ak 0, 1000, .inl (fun _ => 0))), (q_5, .inl (ak 0, 32, .inl (fun _ => 0)))]) [0, 1, 2, 3, 4, 6, 5] rfl
  have hD9 := hD.sub (ws' := [(h0, .inr (1, [.ref p0, .ref q_1, .ref q_2, .ref q_3, .ref q_4, .ref q_6, .ref q_5, .int (0), .int (0), .int (0), .int (0), .int (0)])), (q_1, .inl (ak 0, 16, .inl (fun _ => 0))), (q_2, .inl (ak 0, 16, .inl (fun _ => 0))), (q_3, .inl (ak 0, 16, .inl (fun _ => 0))), (q_4, .inl (ak 0, 6, .inl (fun _ => 0))), (q_6, .inl (ak 0, 1000, .inl (fun _ => 0))), (q_5, .inl (ak 0, 32, .inl (fun _ => 0)))]) [0, 1, 2, 3, 4, 6, 5] (by decide) rfl
  refine W.widen (k := 6) (n := 1086) (Nat.le_of_ble_eq_true rfl) (Nat.le_of_ble_eq_true rfl) ?_
  exact W.vret hx hb hr (fun t ht hW => ⟨⟨((fun k => match k with | 0 => q_1 | 1 => q_2 | 2 => q_3 | 3 => q_4 | 4 => q_6 | _ => q_5)), rfl, trivial, by rw [ht]; exact hP9, by rw [hAe]; exact hD9⟩, by rw [hAe]; exact hS.F ht⟩) hS.2.2 dX1_init_66

set_option maxHeartbeats 4000000 in
set_option maxRecDepth 100000 in
theorem c_X4_init (l : Launch) (D : va_G) (ak : Nat → ClassId) (ad : Nat → Nat) (sz : Nat) (h0 : Nat)  : Met l yX4_init wsX4_init ({ frames := 1, cells := 4, slots := 64, locals := 12 }) (cPre D ak ad [.ref h0] ([(h0, .inr (4, [.null, .int (0), .null, .null, .null, .null]))]) sz) (cV D (S := (Nat → Nat)) (fun (u : (Nat → Nat)) => True) (fun u => [(h0, .inr (4, [.null, .int (0), .ref (u 0), .ref (u 1), .ref (u 2), .ref (u 3)])), (u 0, .inl (ak 0, 16, .inl (fun _ => 0))), (u 1, .inl (ak 0, 16, .inl (fun _ => 0))), (u 2, .inl (ak 0, 16, .inl (fun _ => 0))), (u 3, .inl (ak 0, 16, .inl (fun _ => 0)))]) ([(h0, .inr (4, [.null, .int (0), .null, .null, .null, .null]))]) sz) 4 64 (va_A ([(h0, .inr (4, [.null, .int (0), .null, .null, .null, .null]))]) sz) := by
  refine Met.ofW (cc := cX4_init) (maxL := 1) (ret := none) (by decide) rfl ?_
  intro p e s m args below meth c s₁ B hml hv
  obtain ⟨rfl, hsz, hP, hE, hD0, hT⟩ := hv
  have hx := B.exec
  have hb := B.bytes
  have hr := B.returns
  have hts := atoms_spec (ws := wsX4_init) B.pre
  have hown : s.vm.findClass RX4 = some m.cls := findClass_of_methodNamed B.named
  have hlocks := B.notSynchronized
  have hin : meth.name = "<init>" := (name_of_methodNamed B.named B.method).1
  subst hsz
  have hD := hD0.self (sz := s.heap.size)
  generalize hAe : va_A ([(h0, .inr (4, [.null, .int (0), .null, .null, .null, .null]))]) s.heap.size = A at hD hT ⊢
  have hA : ∀ q : Nat, s.heap.size ≤ q → A q := fun q h => by rw [← hAe]; exact Or.inr h
  have hS : va_S A s.heap s.heap [] := va_S.rf
  have hl := lv_entry ([.ref h0]) (n := 1) (Nat.le_of_ble_eq_true rfl)
  rw [lg_entry_eq]
  generalize (lg_sl ([.ref h0]) ++ List.replicate (1 - (lg_sl ([.ref h0])).length) Slot.unset).toArray = ls at hl ⊢
  have hl : lv_has ls 1 [(0, .ref h0)] := hl
  have hP : va_P D vwCl [(h0, .inr (4, [.null, .int (0), .null, .null, .null, .null]))] s.heap := hP
  refine lv_aload_n hx hb dX4_init_0 rfl (lv_at hl 0 rfl) ?_
  refine W.objInit hx hb hown (hts (.methodLink RX4 3 objectInit) (wm_c hw_303)) (hts (.instanceMethod objectInit) (wm_c hw_261)) (hts (.code objectInit ⟨#[0xb1]⟩ 1 none) (wm_c hw_262)) rfl (by rw [hml]; exact hl.1) rfl dX4_init_1 (Nat.le_of_ble_eq_true rfl) (Nat.le_of_ble_eq_true rfl) ?_
  refine W.eq (g2 := F0 m 4 ls ([])) rfl ?_
  refine lv_aload_n hx hb dX4_init_4 rfl (lv_at hl 0 rfl) ?_
  refine lv_bipush (v := 16) hx hb dX4_init_5 (by decide) ?_
  refine kn_a (atype := .int) (ty := .int) (a0 := (16, .inl (fun _ => 0))) (N' := 16) hx hb (hts (.arrayClass .int) (wm_c hw_267)) hE 0 rfl rfl (fun _ h => h) hP hD hS hA (fun cA => vp_cell_i cA 16 (fun _ => 0)) (by decide) (rfl) (by decide +kernel) (Nat.le_of_ble_eq_true rfl) (Nat.le_of_ble_eq_true rfl) dX4_init_7 (fun q_1 H hP hD hS => ?_)
  have hP : va_P D vwCl [(h0, .inr (4, [.null, .int (0), .null, .null, .null, .null])), (q_1, .inl (ak 0, 16, .inl (fun _ => 0)))] H := hP
  have hD : va_D A [(h0, .inr (4, [.null, .int (0), .null, .null, .null, .null])), (q_1, .inl (ak 0, 16, .inl (fun _ => 0)))] := hD
  refine W.widen (k := 1) (n := 16) (Nat.le_of_ble_eq_true rfl) (Nat.le_of_ble_eq_true rfl) ?_
  refine va_putF (D := D) (ci := 4) (v := .ref q_1) (ty := .array .int) (C := RX4) (T := TX4) (N := 6) hx hb hts (fun w h => wm_c (wc_X4 w h)) tyX4 tyX4_ok nmX4 hown hE.1 hP hD hS 0 rfl rfl 2 (by decide) (hts (.fieldLink RX4 9 "WornLines$Survey" "often" "[I") (wm_c hw_304)) (fun _ h9 => h9) rfl hin rfl (by decide +kernel) rfl rfl (Nat.le_of_ble_eq_true rfl) dX4_init_9 (fun H locs hP hD hS => ?_)
  have hP : va_P D vwCl [(h0, .inr (4, [.null, .int (0), .ref q_1, .null, .null, .null])), (q_1, .inl (ak 0, 16, .inl (fun _ => 0)))] H := hP
  have hD : va_D A [(h0, .inr (4, [.null, .int (0), .ref q_1, .null, .null, .null])), (q_1, .inl (ak 0, 16, .inl (fun _ => 0)))] := hD
  refine lv_aload_n hx hb dX4_init_12 rfl (lv_at hl 0 rfl) ?_
  refine lv_bipush (v := 16) hx hb dX4_init_13 (by decide) ?_
  refine kn_a (atype := .int) (ty := .int) (a0 := (16, .inl (fun _ => 0))) (N' := 16) hx hb (hts (.arrayClass .int) (wm_c hw_267)) hE 0 rfl rfl (fun _ h => h) hP hD hS hA (fun cA => vp_cell_i cA 16 (fun _ => 0)) (by decide) (rfl) (by decide +kernel) (Nat.le_of_ble_eq_true rfl) (Nat.le_of_ble_eq_true rfl) dX4_init_15 (fun q_2 H hP hD hS => ?_)
  have hP : va_P D vwCl [(h0, .inr (4, [.null, .int (0), .ref q_1, .null, .null, .null])), (q_1, .inl (ak 0, 16, .inl (fun _ => 0))), (q_2, .inl (ak 0, 16, .inl (fun _ => 0)))] H := hP
  have hD : va_D A [(h0, .inr (4, [.null, .int (0), .ref q_1, .null, .null, .null])), (q_1, .inl (ak 0, 16, .inl (fun _ => 0))), (q_2, .inl (ak 0, 16, .inl (fun _ => 0)))] := hD
  refine W.widen (k := 2) (n := 32) (Nat.le_of_ble_eq_true rfl) (Nat.le_of_ble_eq_true rfl) ?_
  refine va_putF (D := D) (ci := 4) (v := .ref q_2) (ty := .array .int) (C := RX4) (T := TX4) (N := 6) hx hb hts (fun w h => wm_c (wc_X4 w h)) tyX4 tyX4_ok nmX4 hown hE.1 hP hD hS 0 rfl rfl 3 (by decide) (hts (.fieldLink RX4 15 "WornLines$Survey" "by" "[I") (wm_c hw_305)) (fun _ h9 => h9) rfl hin rfl (by decide +kernel) rfl rfl (Nat.le_of_ble_eq_true rfl) dX4_init_17 (fun H locs hP hD hS => ?_)
  have hP : va_P D vwCl [(h0, .inr (4, [.null, .int (0), .ref q_1, .ref q_2, .null, .null])), (q_1, .inl (ak 0, 16, .inl (fun _ => 0))), (q_2, .inl (ak 0, 16, .inl (fun _ => 0)))] H := hP
  have hD : va_D A [(h0, .inr (4, [.null, .int (0), .ref q_1, .ref q_2, .null, .null])), (q_1, .inl (ak 0, 16, .inl (fun _ => 0))), (q_2, .inl (ak 0, 16, .inl (fun _ => 0)))] := hD
  refine lv_aload_n hx hb dX4_init_20 rfl (lv_at hl 0 rfl) ?_
  refine lv_bipush (v := 16) hx hb dX4_init_21 (by decide) ?_
  refine kn_a (atype := .int) (ty := .int) (a0 := (16, .inl (fun _ => 0))) (N' := 16) hx hb (hts (.arrayClass .int) (wm_c hw_267)) hE 0 rfl rfl (fun _ h => h) hP hD hS hA (fun cA => vp_cell_i cA 16 (fun _ => 0)) (by decide) (rfl) (by decide +kernel) (Nat.le_of_ble_eq_true rfl) (Nat.le_of_ble_eq_true rfl) dX4_init_23 (fun q_3 H hP hD hS => ?_)
  have hP : va_P D vwCl [(h0, .inr (4, [.null, .int (0), .ref q_1, .ref q_2, .null, .null])), (q_1, .inl (ak 0, 16, .inl (fun _ => 0))), (q_2, .inl (ak 0, 16, .inl (fun _ => 0))), (q_3, .inl (ak 0, 16, .inl (fun _ => 0)))] H := hP
  have hD : va_D A [(h0, .inr (4, [.null, .int (0), .ref q_1, .ref q_2, .null, .null])), (q_1, .inl (ak 0, 16, .inl (fun _ => 0))), (q_2, .inl (ak 0, 16, .inl (fun _ => 0))), (q_3, .inl (ak 0, 16, .inl (fun _ => 0)))] := hD
  refine W.widen (k := 3) (n := 48) (Nat.le_of_ble_eq_true rfl) (Nat.le_of_ble_eq_true rfl) ?_
  refine va_putF (D := D) (ci := 4) (v := .ref q_3) (ty := .array .int) (C := RX4) (T := TX4) (N := 6) hx hb hts (fun w h => wm_c (wc_X4 w h)) tyX4 tyX4_ok nmX4 hown hE.1 hP hD hS 0 rfl rfl 4 (by decide) (hts (.fieldLink RX4 18 "WornLines$Survey" "peak" "[I") (wm_c hw_306)) (fun _ h9 => h9) rfl hin rfl (by decide +kernel) rfl rfl (Nat.le_of_ble_eq_true rfl) dX4_init_25 (fun H locs hP hD hS => ?_)
  have hP : va_P D vwCl [(h0, .inr (4, [.null, .int (0), .ref q_1, .ref q_2, .ref q_3, .null])), (q_1, .inl (ak 0, 16, .inl (fun _ => 0))), (q_2, .inl (ak 0, 16, .inl (fun _ => 0))), (q_3, .inl (ak 0, 16, .inl (fun _ => 0)))] H := hP
  have hD : va_D A [(h0, .inr (4, [.null, .int (0), .ref q_1, .ref q_2, .ref q_3, .null])), (q_1, .inl (ak 0, 16, .inl (fun _ => 0))), (q_2, .inl (ak 0, 16, .inl (fun _ => 0))), (q_3, .inl (ak 0, 16, .inl (fun _ => 0)))] := hD
  refine lv_aload_n hx hb dX4_init_28 rfl (lv_at hl 0 rfl) ?_
  refine lv_bipush (v := 16) hx hb dX4_init_29 (by decide) ?_
  refine kn_a (atype := .int) (ty := .int) (a0 := (16, .inl (fun _ => 0))) (N' := 16) hx hb (hts (.arrayClass .int) (wm_c hw_267)) hE 0 rfl rfl (fun _ h => h) hP hD hS hA (fun cA => vp_cell_i cA 16 (fun _ => 0)) (by decide) (rfl) (by decide +kernel) (Nat.le_of_ble_eq_true rfl) (Nat.le_of_ble_eq_true rfl) dX4_init_31 (fun q_4 H hP hD hS => ?_)
  have hP : va_P D vwCl [(h0, .inr (4, [.null, .int (0), .ref q_1, .ref q_2, .ref q_3, .null])), (q_1, .inl (ak 0, 16, .inl (fun _ => 0))), (q_2, .inl (ak 0, 16, .inl (fun _ => 0))), (q_3, .inl (ak 0, 16, .inl (fun _ => 0))), (q_4, .inl (ak 0, 16, .inl (fun _ => 0)))] H := hP
  have hD : va_D A [(h0, .inr (4, [.null, .int (0), .ref q_1, .ref q_2, .ref q_3, .null])), (q_1, .inl (ak 0, 16, .inl (fun _ => 0))), (q_2, .inl (ak 0, 16, .inl (fun _ => 0))), (q_3, .inl (ak 0, 16, .inl (fun _ => 0))), (q_4, .inl (ak 0, 16, .inl (fun _ => 0)))] := hD
  refine W.widen (k := 4) (n := 64) (Nat.le_of_ble_eq_true rfl) (Nat.le_of_ble_eq_true rfl) ?_
  refine va_putF (D := D) (ci := 4) (v := .ref q_4) (ty := .array .int) (C := RX4) (T := TX4) (N := 6) hx hb hts (fun w h => wm_c (wc_X4 w h)) tyX4 tyX4_ok nmX4 hown hE.1 hP hD hS 0 rfl rfl 5 (by decide) (hts (.fieldLink RX4 21 "WornLines$Survey" "over" "[I") (wm_c hw_307)) (fun _ h9 => h9) rfl hin rfl (by decide +kernel) rfl rfl (Nat.le_of_ble_eq_true rfl) dX4_init_33 (fun H locs hP hD hS => ?_)
  have hP : va_P D vwCl [(h0, .inr (4, [.null, .int (0), .ref q_1, .ref q_2, .ref q_3, .ref q_4])), (q_1, .inl (ak 0, 16, .inl (fun _ => 0))), (q_2, .inl (ak 0, 16, .inl (fun _ => 0))), (q_3, .inl (ak 0, 16, .inl (fun _ => 0))), (q_4, .inl (ak 0, 16, .inl (fun _ => 0)))] H := hP
  have hD : va_D A [(h0, .inr (4, [.null, .int (0), .ref q_1, .ref q_2, .ref q_3, .ref q_4])), (q_1, .inl (ak 0, 16, .inl (fun _ => 0))), (q_2, .inl (ak 0, 16, .inl (fun _ => 0))), (q_3, .inl (ak 0, 16, .inl (fun _ => 0))), (q_4, .inl (ak 0, 16, .inl (fun _ => 0)))] := hD
  have hP9 := hP.sub (ws' := [(h0, .inr (4, [.null, .int (0), .ref q_1, .ref q_2, .ref q_3, .ref q_4])), (q_1, .inl (ak 0, 16, .inl (fun _ => 0))), (q_2, .inl (ak 0, 16, .inl (fun _ => 0))), (q_3, .inl (ak 0, 16, .inl (fun _ => 0))), (q_4, .inl (ak 0, 16, .inl (fun _ => 0)))]) [0, 1, 2, 3, 4] rfl
  have hD9 := hD.sub (ws' := [(h0, .inr (4, [.null, .int (0), .ref q_1, .ref q_2, .ref q_3, .ref q_4])), (q_1, .inl (ak 0, 16, .inl (fun _ => 0))), (q_2, .inl (ak 0, 16, .inl (fun _ => 0))), (q_3, .inl (ak 0, 16, .inl (fun _ => 0))), (q_4, .inl (ak 0, 16, .inl (fun _ => 0)))]) [0, 1, 2, 3, 4] (by decide) rfl
  refine W.widen (k := 4) (n := 64) (Nat.le_of_ble_eq_true rfl) (Nat.le_of_ble_eq_true rfl) ?_
  exact W.vret hx hb hr (fun t ht hW => ⟨⟨((fun k => match k with | 0 => q_1 | 1 => q_2 | 2 => q_3 | _ => q_4)), rfl, trivial, by rw [ht]; exact hP9, by rw [hAe]; exact hD9⟩, by rw [hAe]; exact hS.F ht⟩) hS.2.2 dX4_init_36

set_option maxHeartbeats 4000000 in
set_option maxRecDepth 100000 in
theorem c_X0_init (l : Launch) (D : va_G) (ak : Nat → ClassId) (ad : Nat → Nat) (sz : Nat) (h0 : Nat) (p0 : Nat)  : Met l yX0_init wsX0_init ({ frames := 1, cells := 19, slots := 1138, locals := 12 }) (cPre D ak ad [.ref h0, .ref p0] ([(h0, .inr (0, [.null, .null, .null, .int (0), .int (0)]))]) sz) (cV D (S := (Nat → Nat)) (fun (u : (Nat → Nat)) => True) (fun u => [(h0, .inr (0, [.ref p0, .ref (u 0), .ref (u 1), .int (0), .int (0)])), (u 0, .inl (ak 0, 16, .inl (fun _ => 0))), (u 1, .inl (ak 6, 17, .inr (.inr (.inr (.inr (fun i => if i < 17 then some (u 1 + 1 + i) else none))))))]) ([(h0, .inr (0, [.null, .null, .null, .int (0), .int (0)]))]) sz) 19 1138 (va_A ([(h0, .inr (0, [.null, .null, .null, .int (0), .int (0)]))]) sz) := by
  refine Met.ofW (cc := cX0_init) (maxL := 2) (ret := none) (by decide) rfl ?_
  intro p e s m args below meth c s₁ B hml hv
  obtain ⟨rfl, hsz, hP, hE, hD0, hT⟩ := hv
  have hx := B.exec
  have hb := B.bytes
  have hr := B.returns
  have hts := atoms_spec (ws := wsX0_init) B.pre
  have hown : s.vm.findClass RX0 = some m.cls := findClass_of_methodNamed B.named
  have hlocks := B.notSynchronized
  have hin : meth.name = "<init>" := (name_of_methodNamed B.named B.method).1
  subst hsz
  have hD := hD0.self (sz := s.heap.size)
  generalize hAe : va_A ([(h0, .inr (0, [.null, .null, .null, .int (0), .int (0)]))]) s.heap.size = A at hD hT ⊢
  have hA : ∀ q : Nat, s.heap.size ≤ q → A q := fun q h => by rw [← hAe]; exact Or.inr h
  have hS : va_S A s.heap s.heap [] := va_S.rf
  have hl := lv_entry ([.ref h0, .ref p0]) (n := 2) (Nat.le_of_ble_eq_true rfl)
  rw [lg_entry_eq]
  generalize (lg_sl ([.ref h0, .ref p0]) ++ List.replicate (2 - (lg_sl ([.ref h0, .ref p0])).length) Slot.unset).toArray = ls at hl ⊢
  have hl : lv_has ls 2 [(0, .ref h0), (1, .ref p0)] := hl
  have hP : va_P D vwCl [(h0, .inr (0, [.null, .null, .null, .int (0), .int (0)]))] s.heap := hP
  refine lv_aload_n hx hb dX0_init_0 rfl (lv_at hl 0 rfl) ?_
  refine W.objInit hx hb hown (hts (.methodLink RX0 3 objectInit) (wm_c hw_308)) (hts (.instanceMethod objectInit) (wm_c hw_261)) (hts (.code objectInit ⟨#[0xb1]⟩ 1 none) (wm_c hw_262)) rfl (by rw [hml]; exact hl.1) rfl dX0_init_1 (Nat.le_of_ble_eq_true rfl) (Nat.le_of_ble_eq_true rfl) ?_
  refine W.eq (g2 := F0 m 4 ls ([])) rfl ?_
  refine lv_aload_n hx hb dX0_init_4 rfl (lv_at hl 0 rfl) ?_
  refine lv_bipush (v := 16) hx hb dX0_init_5 (by decide) ?_
  refine kn_a (atype := .int) (ty := .int) (a0 := (16, .inl (fun _ => 0))) (N' := 16) hx hb (hts (.arrayClass .int) (wm_c hw_267)) hE 0 rfl rfl (fun _ h => h) hP hD hS hA (fun cA => vp_cell_i cA 16 (fun _ => 0)) (by decide) (rfl) (by decide +kernel) (Nat.le_of_ble_eq_true rfl) (Nat.le_of_ble_eq_true rfl) dX0_init_7 (fun q_1 H hP hD hS => ?_)
  have hP : va_P D vwCl [(h0, .inr (0, [.null, .null, .null, .int (0), .int (0)])), (q_1, .inl (ak 0, 16, .inl (fun _ => 0)))] H := hP
  have hD : va_D A [(h0, .inr (0, [.null, .null, .null, .int (0), .int (0)])), (q_1, .inl (ak 0, 16, .inl (fun _ => 0)))] := hD
  refine W.widen (k := 1) (n := 16) (Nat.le_of_ble_eq_true rfl) (Nat.le_of_ble_eq_true rfl) ?_
  refine va_putF (D := D) (ci := 0) (v := .ref q_1) (ty := .array .int) (C := RX0) (T := TX0) (N := 5) hx hb hts (fun w h => wm_c (wc_X0 w h)) tyX0 tyX0_ok nmX0 hown hE.1 hP hD hS 0 rfl rfl 1 (by decide) (hts (.fieldLink RX0 9 "WornLines$Layout" "peak" "[I") (wm_c hw_309)) (fun _ h9 => h9) rfl hin rfl (by decide +kernel) rfl rfl (Nat.le_of_ble_eq_true rfl) dX0_init_9 (fun H locs hP hD hS => ?_)
  have hP : va_P D vwCl [(h0, .inr (0, [.null, .ref q_1, .null, .int (0), .int (0)])), (q_1, .inl (ak 0, 16, .inl (fun _ => 0)))] H := hP
  have hD : va_D A [(h0, .inr (0, [.null, .ref q_1, .null, .int (0), .int (0)])), (q_1, .inl (ak 0, 16, .inl (fun _ => 0)))] := hD
  refine lv_aload_n hx hb dX0_init_12 rfl (lv_at hl 0 rfl) ?_
  refine lv_bipush (v := 17) hx hb dX0_init_13 (by decide) ?_
  refine lv_bipush (v := 65) hx hb dX0_init_15 (by decide) ?_
  refine kn_g (N := 17) (M := 65) hx hb hown (hts (.classLink RX0 15 "[[I") (wm_c hw_310)) (hts (.arrayClass .int) (wm_c hw_267)) hE hP hD hS hA (by decide) (by decide) rfl rfl (Nat.le_of_ble_eq_true rfl) (Nat.le_of_ble_eq_true rfl) (Nat.le_of_ble_eq_true rfl) (Nat.le_of_ble_eq_true rfl) dX0_init_17 (fun q_2 H hP hD hS => ?_)
  have hP : va_P D vwCl [(h0, .inr (0, [.null, .ref q_1, .null, .int (0), .int (0)])), (q_1, .inl (ak 0, 16, .inl (fun _ => 0))), (q_2, .inl (ak 6, 17, .inr (.inr (.inr (.inr (fun i => if i < 17 then some (q_2 + 1 + i) else none)))))), (q_2 + 1 + 0, .inl (ak 0, 65, .inl (fun _ => 0))), (q_2 + 1 + 1, .inl (ak 0, 65, .inl (fun _ => 0))), (q_2 + 1 + 2, .inl (ak 0, 65, .inl (fun _ => 0))), (q_2 + 1 + 3, .inl (ak 0, 65, .inl (fun _ => 0))), (q_2 + 1 + 4, .inl (ak 0, 65, .inl (fun _ => 0))), (q_2 + 1 + 5, .inl (ak 0, 65, .inl (fun _ => 0))), (q_2 + 1 + 6, .inl (ak 0, 65, .inl (fun _ => 0))), (q_2 + 1 + 7, .inl (ak 0, 65, .inl (fun _ => 0))), (q_2 + 1 + 8, .inl (ak 0, 65, .inl (fun _ => 0))), (q_2 + 1 + 9, .inl (ak 0, 65, .inl (fun _ => 0))), (q_2 + 1 + 10, .inl (ak 0, 65, .inl (fun _ => 0))), (q_2 + 1 + 11, .inl (ak 0, 65, .inl (fun _ => 0))), (q_2 + 1 + 12, .inl (ak 0, 65, .inl (fun _ => 0))), (q_2 + 1 + 13, .inl (ak 0, 65, .inl (fun _ => 0))), (q_2 + 1 + 14, .inl (ak 0, 65, .inl (fun _ => 0))), (q_2 + 1 + 15, .inl (ak 0, 65, .inl (fun _ => 0))), (q_2 + 1 + 16, .inl (ak 0, 65, .inl (fun _ => 0)))] H := hP
  have hD : va_D A [(h0, .inr (0, [.null, .ref q_1, .null, .int (0), .int (0)])), (q_1, .inl (ak 0, 16, .inl (fun _ => 0))), (q_2, .inl (ak 6, 17, .inr (.inr (.inr (.inr (fun i => if i < 17 then some (q_2 + 1 + i) else none)))))), (q_2 + 1 + 0, .inl (ak 0, 65, .inl (fun _ => 0))), (q_2 + 1 + 1, .inl (ak 0, 65, .inl (fun _ => 0))), (q_2 + 1 + 2, .inl (ak 0, 65, .inl (fun _ => 0))), (q_2 + 1 + 3, .inl (ak 0, 65, .inl (fun _ => 0))), (q_2 + 1 + 4, .inl (ak 0, 65, .inl (fun _ => 0))), (q_2 + 1 + 5, .inl (ak 0, 65, .inl (fun _ => 0))), (q_2 + 1 + 6, .inl (ak 0, 65, .inl (fun _ => 0))), (q_2 + 1 + 7, .inl (ak 0, 65, .inl (fun _ => 0))), (q_2 + 1 + 8, .inl (ak 0, 65, .inl (fun _ => 0))), (q_2 + 1 + 9, .inl (ak 0, 65, .inl (fun _ => 0))), (q_2 + 1 + 10, .inl (ak 0, 65, .inl (fun _ => 0))), (q_2 + 1 + 11, .inl (ak 0, 65, .inl (fun _ => 0))), (q_2 + 1 + 12, .inl (ak 0, 65, .inl (fun _ => 0))), (q_2 + 1 + 13, .inl (ak 0, 65, .inl (fun _ => 0))), (q_2 + 1 + 14, .inl (ak 0, 65, .inl (fun _ => 0))), (q_2 + 1 + 15, .inl (ak 0, 65, .inl (fun _ => 0))), (q_2 + 1 + 16, .inl (ak 0, 65, .inl (fun _ => 0)))] := hD
  refine W.widen (k := 19) (n := 1138) (Nat.le_of_ble_eq_true rfl) (Nat.le_of_ble_eq_true rfl) ?_
  have hP := hP.sub (ws' := [(h0, .inr (0, [.null, .ref q_1, .null, .int (0), .int (0)])), (q_1, .inl (ak 0, 16, .inl (fun _ => 0))), (q_2, .inl (ak 6, 17, .inr (.inr (.inr (.inr (fun i => if i < 17 then some (q_2 + 1 + i) else none))))))]) [0, 1, 2] rfl
  have hD := hD.sub (ws' := [(h0, .inr (0, [.null, .ref q_1, .null, .int (0), .int (0)])), (q_1, .inl (ak 0, 16, .inl (fun _ => 0))), (q_2, .inl (ak 6, 17, .inr (.inr (.inr (.inr (fun i => if i < 17 then some (q_2 + 1 + i) else none))))))]) [0, 1, 2] (by decide) rfl
  refine va_putF (D := D) (ci := 0) (v := .ref q_2) (ty := .array (.array .int)) (C := RX0) (T := TX0) (N := 5) hx hb hts (fun w h => wm_c (wc_X0 w h)) tyX0 tyX0_ok nmX0 hown hE.1 hP hD hS 0 rfl rfl 2 (by decide) (hts (.fieldLink RX0 17 "WornLines$Layout" "least" "[[I") (wm_c hw_311)) (fun _ h9 => h9) rfl hin rfl (by decide +kernel) rfl rfl (Nat.le_of_ble_eq_true rfl) dX0_init_21 (fun H locs hP hD hS => ?_)
  have hP : va_P D vwCl [(h0, .inr (0, [.null, .ref q_1, .ref q_2, .int (0), .int (0)])), (q_1, .inl (ak 0, 16, .inl (fun _ => 0))), (q_2, .inl (ak 6, 17, .inr (.inr (.inr (.inr (fun i => if i < 17 then some (q_2 + 1 + i) else none))))))] H := hP
  have hD : va_D A [(h0, .inr (0, [.null, .ref q_1, .ref q_2, .int (0), .int (0)])), (q_1, .inl (ak 0, 16, .inl (fun _ => 0))), (q_2, .inl (ak 6, 17, .inr (.inr (.inr (.inr (fun i => if i < 17 then some (q_2 + 1 + i) else none))))))] := hD
  refine lv_aload_n hx hb dX0_init_24 rfl (lv_at hl 0 rfl) ?_
  refine lv_aload_n hx hb dX0_init_25 rfl (lv_at hl 1 rfl) ?_
  refine va_put (D := D) (ci := 0) (v := .ref p0) (ty := .object "WornLines$Programme") (C := RX0) (T := TX0) (N := 5) hx hb hts (fun w h => wm_c (wc_X0 w h)) tyX0 tyX0_ok nmX0 hown hE.1 hP hD hS 0 rfl rfl 0 (by decide) (hts (.fieldLink RX0 20 "WornLines$Layout" "programme" "LWornLines$Programme;") (wm_c hw_312)) (fun _ h9 => h9) rfl (by decide +kernel) rfl rfl (Nat.le_of_ble_eq_true rfl) dX0_init_26 (fun H locs hP hD hS => ?_)
  have hP : va_P D vwCl [(h0, .inr (0, [.ref p0, .ref q_1, .ref q_2, .int (0), .int (0)])), (q_1, .inl (ak 0, 16, .inl (fun _ => 0))), (q_2, .inl (ak 6, 17, .inr (.inr (.inr (.inr (fun i => if i < 17 then some (q_2 + 1 + i) else none))))))] H := hP
  have hD : va_D A [(h0, .inr (0, [.ref p0, .ref q_1, .ref q_2, .int (0), .int (0)])), (q_1, .inl (ak 0, 16, .inl (fun _ => 0))), (q_2, .inl (ak 6, 17, .inr (.inr (.inr (.inr (fun i => if i < 17 then some (q_2 + 1 + i) else none))))))] := hD
  have hP9 := hP.sub (ws' := [(h0, .inr (0, [.ref p0, .ref q_1, .ref q_2, .int (0), .int (0)])), (q_1, .inl (ak 0, 16, .inl (fun _ => 0))), (q_2, .inl (ak 6, 17, .inr (.inr (.inr (.inr (fun i => if i < 17 then some (q_2 + 1 + i) else none))))))]) [0, 1, 2] rfl
  have hD9 := hD.sub (ws' := [(h0, .inr (0, [.ref p0, .ref q_1, .ref q_2, .int (0), .int (0)])), (q_1, .inl (ak 0, 16, .inl (fun _ => 0))), (q_2, .inl (ak 6, 17, .inr (.inr (.inr (.inr (fun i => if i < 17 then some (q_2 + 1 + i) else none))))))]) [0, 1, 2] (by decide) rfl
  refine W.widen (k := 19) (n := 1138) (Nat.le_of_ble_eq_true rfl) (Nat.le_of_ble_eq_true rfl) ?_
  exact W.vret hx hb hr (fun t ht hW => ⟨⟨((fun k => match k with | 0 => q_1 | _ => q_2)), rfl, trivial, by rw [ht]; exact hP9, by rw [hAe]; exact hD9⟩, by rw [hAe]; exact hS.F ht⟩) hS.2.2 dX0_init_29
