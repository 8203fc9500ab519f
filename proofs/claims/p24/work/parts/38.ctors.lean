section
theorem dX5_init_0 : decode cX5_init 0 = .ok (.aload_n 0, 1) := by decide +kernel
theorem dX5_init_1 : decode cX5_init 1 = .ok (.invokespecial 3, 3) := by decide +kernel
theorem dX5_init_4 : decode cX5_init 4 = .ok (.aload_n 0, 1) := by decide +kernel
theorem dX5_init_5 : decode cX5_init 5 = .ok (.sipush 1000, 3) := by decide +kernel
theorem dX5_init_8 : decode cX5_init 8 = .ok (.newarray .char, 2) := by decide +kernel
theorem dX5_init_10 : decode cX5_init 10 = .ok (.putfield 9, 3) := by decide +kernel
theorem dX5_init_13 : decode cX5_init 13 = .ok (.aload_n 0, 1) := by decide +kernel
theorem dX5_init_14 : decode cX5_init 14 = .ok (.sipush 1001, 3) := by decide +kernel
theorem dX5_init_17 : decode cX5_init 17 = .ok (.anewarray 15, 3) := by decide +kernel
theorem dX5_init_20 : decode cX5_init 20 = .ok (.putfield 17, 3) := by decide +kernel
theorem dX5_init_23 : decode cX5_init 23 = .ok (.aload_n 0, 1) := by decide +kernel
theorem dX5_init_24 : decode cX5_init 24 = .ok (.sipush 1001, 3) := by decide +kernel
theorem dX5_init_27 : decode cX5_init 27 = .ok (.newarray .int, 2) := by decide +kernel
theorem dX5_init_29 : decode cX5_init 29 = .ok (.putfield 21, 3) := by decide +kernel
theorem dX5_init_32 : decode cX5_init 32 = .ok (.aload_n 0, 1) := by decide +kernel
theorem dX5_init_33 : decode cX5_init 33 = .ok (.sipush 1001, 3) := by decide +kernel
theorem dX5_init_36 : decode cX5_init 36 = .ok (.newarray .long, 2) := by decide +kernel
theorem dX5_init_38 : decode cX5_init 38 = .ok (.putfield 25, 3) := by decide +kernel
theorem dX5_init_41 : decode cX5_init 41 = .ok (.return_, 1) := by decide +kernel
theorem dX2_init_0 : decode cX2_init 0 = .ok (.aload_n 0, 1) := by decide +kernel
theorem dX2_init_1 : decode cX2_init 1 = .ok (.invokespecial 3, 3) := by decide +kernel
theorem dX2_init_4 : decode cX2_init 4 = .ok (.aload_n 0, 1) := by decide +kernel
theorem dX2_init_5 : decode cX2_init 5 = .ok (.iconst 4, 1) := by decide +kernel
theorem dX2_init_6 : decode cX2_init 6 = .ok (.newarray .int, 2) := by decide +kernel
theorem dX2_init_8 : decode cX2_init 8 = .ok (.putfield 9, 3) := by decide +kernel
theorem dX2_init_11 : decode cX2_init 11 = .ok (.aload_n 0, 1) := by decide +kernel
theorem dX2_init_12 : decode cX2_init 12 = .ok (.iconst 4, 1) := by decide +kernel
theorem dX2_init_13 : decode cX2_init 13 = .ok (.newarray .int, 2) := by decide +kernel
theorem dX2_init_15 : decode cX2_init 15 = .ok (.putfield 15, 3) := by decide +kernel
theorem dX2_init_18 : decode cX2_init 18 = .ok (.aload_n 0, 1) := by decide +kernel
theorem dX2_init_19 : decode cX2_init 19 = .ok (.bipush 6, 2) := by decide +kernel
theorem dX2_init_21 : decode cX2_init 21 = .ok (.newarray .int, 2) := by decide +kernel
theorem dX2_init_23 : decode cX2_init 23 = .ok (.putfield 18, 3) := by decide +kernel
theorem dX2_init_26 : decode cX2_init 26 = .ok (.aload_n 0, 1) := by decide +kernel
theorem dX2_init_27 : decode cX2_init 27 = .ok (.iconst 2, 1) := by decide +kernel
theorem dX2_init_28 : decode cX2_init 28 = .ok (.newarray .int, 2) := by decide +kernel
theorem dX2_init_30 : decode cX2_init 30 = .ok (.putfield 21, 3) := by decide +kernel
theorem dX2_init_33 : decode cX2_init 33 = .ok (.aload_n 0, 1) := by decide +kernel
theorem dX2_init_34 : decode cX2_init 34 = .ok (.iconst 2, 1) := by decide +kernel
theorem dX2_init_35 : decode cX2_init 35 = .ok (.newarray .int, 2) := by decide +kernel
theorem dX2_init_37 : decode cX2_init 37 = .ok (.putfield 24, 3) := by decide +kernel
theorem dX2_init_40 : decode cX2_init 40 = .ok (.aload_n 0, 1) := by decide +kernel
theorem dX2_init_41 : decode cX2_init 41 = .ok (.iconst 2, 1) := by decide +kernel
theorem dX2_init_42 : decode cX2_init 42 = .ok (.newarray .int, 2) := by decide +kernel
theorem dX2_init_44 : decode cX2_init 44 = .ok (.putfield 27, 3) := by decide +kernel
theorem dX2_init_47 : decode cX2_init 47 = .ok (.aload_n 0, 1) := by decide +kernel
theorem dX2_init_48 : decode cX2_init 48 = .ok (.bipush 16, 2) := by decide +kernel
theorem dX2_init_50 : decode cX2_init 50 = .ok (.newarray .int, 2) := by decide +kernel
theorem dX2_init_52 : decode cX2_init 52 = .ok (.putfield 30, 3) := by decide +kernel
theorem dX2_init_55 : decode cX2_init 55 = .ok (.aload_n 0, 1) := by decide +kernel
theorem dX2_init_56 : decode cX2_init 56 = .ok (.bipush 16, 2) := by decide +kernel
theorem dX2_init_58 : decode cX2_init 58 = .ok (.newarray .int, 2) := by decide +kernel
theorem dX2_init_60 : decode cX2_init 60 = .ok (.putfield 33, 3) := by decide +kernel
theorem dX2_init_63 : decode cX2_init 63 = .ok (.aload_n 0, 1) := by decide +kernel
theorem dX2_init_64 : decode cX2_init 64 = .ok (.bipush 16, 2) := by decide +kernel
theorem dX2_init_66 : decode cX2_init 66 = .ok (.newarray .int, 2) := by decide +kernel
theorem dX2_init_68 : decode cX2_init 68 = .ok (.putfield 36, 3) := by decide +kernel
theorem dX2_init_71 : decode cX2_init 71 = .ok (.aload_n 0, 1) := by decide +kernel
theorem dX2_init_72 : decode cX2_init 72 = .ok (.bipush 16, 2) := by decide +kernel
theorem dX2_init_74 : decode cX2_init 74 = .ok (.newarray .int, 2) := by decide +kernel
theorem dX2_init_76 : decode cX2_init 76 = .ok (.putfield 39, 3) := by decide +kernel
theorem dX2_init_79 : decode cX2_init 79 = .ok (.aload_n 0, 1) := by decide +kernel
theorem dX2_init_80 : decode cX2_init 80 = .ok (.bipush 16, 2) := by decide +kernel
theorem dX2_init_82 : decode cX2_init 82 = .ok (.newarray .int, 2) := by decide +kernel
theorem dX2_init_84 : decode cX2_init 84 = .ok (.putfield 42, 3) := by decide +kernel
theorem dX2_init_87 : decode cX2_init 87 = .ok (.aload_n 0, 1) := by decide +kernel
theorem dX2_init_88 : decode cX2_init 88 = .ok (.bipush 16, 2) := by decide +kernel
theorem dX2_init_90 : decode cX2_init 90 = .ok (.newarray .int, 2) := by decide +kernel
theorem dX2_init_92 : decode cX2_init 92 = .ok (.putfield 45, 3) := by decide +kernel
theorem dX2_init_95 : decode cX2_init 95 = .ok (.aload_n 0, 1) := by decide +kernel
theorem dX2_init_96 : decode cX2_init 96 = .ok (.iconst 0, 1) := by decide +kernel
theorem dX2_init_97 : decode cX2_init 97 = .ok (.newarray .int, 2) := by decide +kernel
theorem dX2_init_99 : decode cX2_init 99 = .ok (.putfield 48, 3) := by decide +kernel
theorem dX2_init_102 : decode cX2_init 102 = .ok (.return_, 1) := by decide +kernel
theorem dX3_init_0 : decode cX3_init 0 = .ok (.aload_n 0, 1) := by decide +kernel
theorem dX3_init_1 : decode cX3_init 1 = .ok (.invokespecial 3, 3) := by decide +kernel
theorem dX3_init_4 : decode cX3_init 4 = .ok (.aload_n 0, 1) := by decide +kernel
theorem dX3_init_5 : decode cX3_init 5 = .ok (.iconst 4, 1) := by decide +kernel
theorem dX3_init_6 : decode cX3_init 6 = .ok (.newarray .long, 2) := by decide +kernel
theorem dX3_init_8 : decode cX3_init 8 = .ok (.putfield 9, 3) := by decide +kernel
theorem dX3_init_11 : decode cX3_init 11 = .ok (.aload_n 0, 1) := by decide +kernel
theorem dX3_init_12 : decode cX3_init 12 = .ok (.bipush 6, 2) := by decide +kernel
theorem dX3_init_14 : decode cX3_init 14 = .ok (.newarray .long, 2) := by decide +kernel
theorem dX3_init_16 : decode cX3_init 16 = .ok (.putfield 15, 3) := by decide +kernel
theorem dX3_init_19 : decode cX3_init 19 = .ok (.aload_n 0, 1) := by decide +kernel
theorem dX3_init_20 : decode cX3_init 20 = .ok (.sipush 1000, 3) := by decide +kernel
theorem dX3_init_23 : decode cX3_init 23 = .ok (.newarray .int, 2) := by decide +kernel
theorem dX3_init_25 : decode cX3_init 25 = .ok (.putfield 18, 3) := by decide +kernel
theorem dX3_init_28 : decode cX3_init 28 = .ok (.aload_n 0, 1) := by decide +kernel
theorem dX3_init_29 : decode cX3_init 29 = .ok (.getstatic 22, 3) := by decide +kernel
theorem dX3_init_32 : decode cX3_init 32 = .ok (.putfield 28, 3) := by decide +kernel
theorem dX3_init_35 : decode cX3_init 35 = .ok (.aload_n 0, 1) := by decide +kernel
theorem dX3_init_36 : decode cX3_init 36 = .ok (.aload_n 1, 1) := by decide +kernel
theorem dX3_init_37 : decode cX3_init 37 = .ok (.putfield 31, 3) := by decide +kernel
theorem dX3_init_40 : decode cX3_init 40 = .ok (.aload_n 0, 1) := by decide +kernel
theorem dX3_init_41 : decode cX3_init 41 = .ok (.aload_n 2, 1) := by decide +kernel
theorem dX3_init_42 : decode cX3_init 42 = .ok (.putfield 35, 3) := by decide +kernel
theorem dX3_init_45 : decode cX3_init 45 = .ok (.return_, 1) := by decide +kernel
theorem dX1_init_0 : decode cX1_init 0 = .ok (.aload_n 0, 1) := by decide +kernel
theorem dX1_init_1 : decode cX1_init 1 = .ok (.invokespecial 3, 3) := by decide +kernel
theorem dX1_init_4 : decode cX1_init 4 = .ok (.aload_n 0, 1) := by decide +kernel
theorem dX1_init_5 : decode cX1_init 5 = .ok (.bipush 16, 2) := by decide +kernel
theorem dX1_init_7 : decode cX1_init 7 = .ok (.newarray .int, 2) := by decide +kernel
theorem dX1_init_9 : decode cX1_init 9 = .ok (.putfield 9, 3) := by decide +kernel
theorem dX1_init_12 : decode cX1_init 12 = .ok (.aload_n 0, 1) := by decide +kernel
theorem dX1_init_13 : decode cX1_init 13 = .ok (.bipush 16, 2) := by decide +kernel
theorem dX1_init_15 : decode cX1_init 15 = .ok (.newarray .int, 2) := by decide +kernel
theorem dX1_init_17 : decode cX1_init 17 = .ok (.putfield 15, 3) := by decide +kernel
theorem dX1_init_20 : decode cX1_init 20 = .ok (.aload_n 0, 1) := by decide +kernel
theorem dX1_init_21 : decode cX1_init 21 = .ok (.bipush 16, 2) := by decide +kernel
theorem dX1_init_23 : decode cX1_init 23 = .ok (.newarray .int, 2) := by decide +kernel
theorem dX1_init_25 : decode cX1_init 25 = .ok (.putfield 18, 3) := by decide +kernel
theorem dX1_init_28 : decode cX1_init 28 = .ok (.aload_n 0, 1) := by decide +kernel
theorem dX1_init_29 : decode cX1_init 29 = .ok (.bipush 6, 2) := by decide +kernel
theorem dX1_init_31 : decode cX1_init 31 = .ok (.newarray .int, 2) := by decide +kernel
theorem dX1_init_33 : decode cX1_init 33 = .ok (.putfield 21, 3) := by decide +kernel
theorem dX1_init_36 : decode cX1_init 36 = .ok (.aload_n 0, 1) := by decide +kernel
theorem dX1_init_37 : decode cX1_init 37 = .ok (.bipush 32, 2) := by decide +kernel
theorem dX1_init_39 : decode cX1_init 39 = .ok (.newarray .int, 2) := by decide +kernel
theorem dX1_init_41 : decode cX1_init 41 = .ok (.putfield 24, 3) := by decide +kernel
theorem dX1_init_44 : decode cX1_init 44 = .ok (.aload_n 0, 1) := by decide +kernel
theorem dX1_init_45 : decode cX1_init 45 = .ok (.iconst 0, 1) := by decide +kernel
theorem dX1_init_46 : decode cX1_init 46 = .ok (.putfield 27, 3) := by decide +kernel
theorem dX1_init_49 : decode cX1_init 49 = .ok (.aload_n 0, 1) := by decide +kernel
theorem dX1_init_50 : decode cX1_init 50 = .ok (.iconst 0, 1) := by decide +kernel
theorem dX1_init_51 : decode cX1_init 51 = .ok (.putfield 31, 3) := by decide +kernel
theorem dX1_init_54 : decode cX1_init 54 = .ok (.aload_n 0, 1) := by decide +kernel
theorem dX1_init_55 : decode cX1_init 55 = .ok (.aload_n 1, 1) := by decide +kernel
theorem dX1_init_56 : decode cX1_init 56 = .ok (.putfield 34, 3) := by decide +kernel
theorem dX1_init_59 : decode cX1_init 59 = .ok (.aload_n 0, 1) := by decide +kernel
theorem dX1_init_60 : decode cX1_init 60 = .ok (.iload_n 2, 1) := by decide +kernel
theorem dX1_init_61 : decode cX1_init 61 = .ok (.newarray .int, 2) := by decide +kernel
theorem dX1_init_63 : decode cX1_init 63 = .ok (.putfield 38, 3) := by decide +kernel
theorem dX1_init_66 : decode cX1_init 66 = .ok (.return_, 1) := by decide +kernel
theorem dX4_init_0 : decode cX4_init 0 = .ok (.aload_n 0, 1) := by decide +kernel
theorem dX4_init_1 : decode cX4_init 1 = .ok (.invokespecial 3, 3) := by decide +kernel
theorem dX4_init_4 : decode cX4_init 4 = .ok (.aload_n 0, 1) := by decide +kernel
theorem dX4_init_5 : decode cX4_init 5 = .ok (.bipush 16, 2) := by decide +kernel
theorem dX4_init_7 : decode cX4_init 7 = .ok (.newarray .int, 2) := by decide +kernel
theorem dX4_init_9 : decode cX4_init 9 = .ok (.putfield 9, 3) := by decide +kernel
theorem dX4_init_12 : decode cX4_init 12 = .ok (.aload_n 0, 1) := by decide +kernel
theorem dX4_init_13 : decode cX4_init 13 = .ok (.bipush 16, 2) := by decide +kernel
theorem dX4_init_15 : decode cX4_init 15 = .ok (.newarray .int, 2) := by decide +kernel
theorem dX4_init_17 : decode cX4_init 17 = .ok (.putfield 15, 3) := by decide +kernel
theorem dX4_init_20 : decode cX4_init 20 = .ok (.aload_n 0, 1) := by decide +kernel
theorem dX4_init_21 : decode cX4_init 21 = .ok (.bipush 16, 2) := by decide +kernel
theorem dX4_init_23 : decode cX4_init 23 = .ok (.newarray .int, 2) := by decide +kernel
theorem dX4_init_25 : decode cX4_init 25 = .ok (.putfield 18, 3) := by decide +kernel
theorem dX4_init_28 : decode cX4_init 28 = .ok (.aload_n 0, 1) := by decide +kernel
theorem dX4_init_29 : decode cX4_init 29 = .ok (.bipush 16, 2) := by decide +kernel
theorem dX4_init_31 : decode cX4_init 31 = .ok (.newarray .int, 2) := by decide +kernel
theorem dX4_init_33 : decode cX4_init 33 = .ok (.putfield 21, 3) := by decide +kernel
theorem dX4_init_36 : decode cX4_init 36 = .ok (.return_, 1) := by decide +kernel
theorem dX0_init_0 : decode cX0_init 0 = .ok (.aload_n 0, 1) := by decide +kernel
theorem dX0_init_1 : decode cX0_init 1 = .ok (.invokespecial 3, 3) := by decide +kernel
theorem dX0_init_4 : decode cX0_init 4 = .ok (.aload_n 0, 1) := by decide +kernel
theorem dX0_init_5 : decode cX0_init 5 = .ok (.bipush 16, 2) := by decide +kernel
theorem dX0_init_7 : decode cX0_init 7 = .ok (.newarray .int, 2) := by decide +kernel
theorem dX0_init_9 : decode cX0_init 9 = .ok (.putfield 9, 3) := by decide +kernel
theorem dX0_init_12 : decode cX0_init 12 = .ok (.aload_n 0, 1) := by decide +kernel
theorem dX0_init_13 : decode cX0_init 13 = .ok (.bipush 17, 2) := by decide +kernel
theorem dX0_init_15 : decode cX0_init 15 = .ok (.bipush 65, 2) := by decide +kernel
theorem dX0_init_17 : decode cX0_init 17 = .ok (.multianewarray 15 2, 4) := by decide +kernel
theorem dX0_init_21 : decode cX0_init 21 = .ok (.putfield 17, 3) := by decide +kernel
theorem dX0_init_24 : decode cX0_init 24 = .ok (.aload_n 0, 1) := by decide +kernel
theorem dX0_init_25 : decode cX0_init 25 = .ok (.aload_n 1, 1) := by decide +kernel
theorem dX0_init_26 : decode cX0_init 26 = .ok (.putfield 20, 3) := by decide +kernel
theorem dX0_init_29 : decode cX0_init 29 = .ok (.return_, 1) := by decide +kernel
set_option maxHeartbeats 4000000 in
set_option maxRecDepth 100000 in
theorem c_X5_init (l : Launch) (D : va_G) (ak : Nat → ClassId) (ad : Nat → Nat) (sz : Nat) (h0 : Nat)  : Met l yX5_init wsX5_init ({ frames := 1, cells := 4, slots := 4003, locals := 12 }) (cPre D ak ad [.ref h0] ([(h0, .inr (5, [.null, .int (0), .null, .null, .null, .int (0)]))]) sz) (cV D (S := (Nat → Nat)) (fun (u : (Nat → Nat)) => True) (fun u => [(h0, .inr (5, [.ref (u 0), .int (0), .ref (u 1), .ref (u 2), .ref (u 3), .int (0)])), (u 0, .inl (ak 2, 1000, .inl (fun _ => 0))), (u 1, .inl (ak 4, 1001, .inr (.inr (.inr (.inr (fun _ => none)))))), (u 2, .inl (ak 0, 1001, .inl (fun _ => 0))), (u 3, .inl (ak 1, 1001, .inr (.inl (fun _ => 0))))]) ([(h0, .inr (5, [.null, .int (0), .null, .null, .null, .int (0)]))]) sz) 4 4003 (va_A ([(h0, .inr (5, [.null, .int (0), .null, .null, .null, .int (0)]))]) sz) := by
  refine Met.ofW (cc := cX5_init) (maxL := 1) (ret := none) (by decide) rfl ?_
  intro p e s m args below meth c s₁ B hml hv
  obtain ⟨rfl, hsz, hP, hE, hD0, hT⟩ := hv
  have hx := B.exec
  have hb := B.bytes
  have hr := B.returns
  have hts := atoms_spec (ws := wsX5_init) B.pre
  have hown : s.vm.findClass RX5 = some m.cls := findClass_of_methodNamed B.named
  have hlocks := B.notSynchronized
  have hin : meth.name = "<init>" := (name_of_methodNamed B.named B.method).1
  subst hsz
  have hD := hD0.self (sz := s.heap.size)
  generalize hAe : va_A ([(h0, .inr (5, [.null, .int (0), .null, .null, .null, .int (0)]))]) s.heap.size = A at hD hT ⊢
  have hA : ∀ q : Nat, s.heap.size ≤ q → A q := fun q h => by rw [← hAe]; exact Or.inr h
  have hS : va_S A s.heap s.heap [] := va_S.rf
  have hl := lv_entry ([.ref h0]) (n := 1) (Nat.le_of_ble_eq_true rfl)
  rw [lg_entry_eq]
  generalize (lg_sl ([.ref h0]) ++ List.replicate (1 - (lg_sl ([.ref h0])).length) Slot.unset).toArray = ls at hl ⊢
  have hl : lv_has ls 1 [(0, .ref h0)] := hl
  have hP : va_P D vwCl [(h0, .inr (5, [.null, .int (0), .null, .null, .null, .int (0)]))] s.heap := hP
  refine lv_aload_n hx hb dX5_init_0 rfl (lv_at hl 0 rfl) ?_
  refine W.objInit hx hb hown (hts (.methodLink RX5 3 objectInit) (wm_c hw_260)) (hts (.instanceMethod objectInit) (wm_c hw_261)) (hts (.code objectInit ⟨#[0xb1]⟩ 1 none) (wm_c hw_262)) rfl (by rw [hml]; exact hl.1) rfl dX5_init_1 (Nat.le_of_ble_eq_true rfl) (Nat.le_of_ble_eq_true rfl) ?_
  refine W.eq (g2 := F0 m 4 ls ([])) rfl ?_
  refine lv_aload_n hx hb dX5_init_4 rfl (lv_at hl 0 rfl) ?_
  refine lv_sipush (v := 1000) hx hb dX5_init_5 (by decide) ?_
  refine kn_a (atype := .char) (ty := .char) (a0 := (1000, .inl (fun _ => 0))) (N' := 1000) hx hb (hts (.arrayClass .char) (wm_c hw_263)) hE 2 rfl rfl (fun _ h => h) hP hD hS hA (fun cA => vp_cell_i cA 1000 (fun _ => 0)) (by decide) (rfl) (by decide +kernel) (Nat.le_of_ble_eq_true rfl) (Nat.le_of_ble_eq_true rfl) dX5_init_8 (fun q_1 H hP hD hS => ?_)
  have hP : va_P D vwCl [(h0, .inr (5, [.null, .int (0), .null, .null, .null, .int (0)])), (q_1, .inl (ak 2, 1000, .inl (fun _ => 0)))] H := hP
  have hD : va_D A [(h0, .inr (5, [.null, .int (0), .null, .null, .null, .int (0)])), (q_1, .inl (ak 2, 1000, .inl (fun _ => 0)))] := hD
  refine W.widen (k := 1) (n := 1000) (Nat.le_of_ble_eq_true rfl) (Nat.le_of_ble_eq_true rfl) ?_
  refine vt_putF (D := D) (ci := 5) (v := .ref q_1) (ty := .array .char) (C := RX5) (T := TX5) (N := 6) hx hb hts (fun w h => wm_c (wc_X5 w h)) tyX5 tyX5_ok nmX5 hown hE.1 hP hD hS 0 rfl rfl 0 (by decide) tX5_0 (hts (.fieldLink RX5 9 "WornLines$Tape" "signs" "[C") (wm_c hw_264)) (fun _ h9 => h9) rfl hin rfl pf_3 rfl rfl (Nat.le_of_ble_eq_true rfl) dX5_init_10 (fun H locs hP hD hS => ?_)
  have hP : va_P D vwCl [(h0, .inr (5, [.ref q_1, .int (0), .null, .null, .null, .int (0)])), (q_1, .inl (ak 2, 1000, .inl (fun _ => 0)))] H := hP
  have hD : va_D A [(h0, .inr (5, [.ref q_1, .int (0), .null, .null, .null, .int (0)])), (q_1, .inl (ak 2, 1000, .inl (fun _ => 0)))] := hD
  refine lv_aload_n hx hb dX5_init_13 rfl (lv_at hl 0 rfl) ?_
  refine lv_sipush (v := 1001) hx hb dX5_init_14 (by decide) ?_
  refine kn_q (C := RX6) (N' := 1001) hx hb hown (hts (.classLink RX5 15 RX6) (wm_c hw_265)) hE.2.1 hE 4 rfl hP hD hS hA (by decide) rfl (Nat.le_of_ble_eq_true rfl) (Nat.le_of_ble_eq_true rfl) (Nat.le_of_ble_eq_true rfl) dX5_init_17 (fun q_2 H hP hD hS => ?_)
  have hP : va_P D vwCl [(h0, .inr (5, [.ref q_1, .int (0), .null, .null, .null, .int (0)])), (q_1, .inl (ak 2, 1000, .inl (fun _ => 0))), (q_2, .inl (ak 4, 1001, .inr (.inr (.inr (.inr (fun _ => none))))))] H := hP
  have hD : va_D A [(h0, .inr (5, [.ref q_1, .int (0), .null, .null, .null, .int (0)])), (q_1, .inl (ak 2, 1000, .inl (fun _ => 0))), (q_2, .inl (ak 4, 1001, .inr (.inr (.inr (.inr (fun _ => none))))))] := hD
  refine W.widen (k := 2) (n := 2001) (Nat.le_of_ble_eq_true rfl) (Nat.le_of_ble_eq_true rfl) ?_
  refine vt_putF (D := D) (ci := 5) (v := .ref q_2) (ty := .array (.object "WornLines$Token")) (C := RX5) (T := TX5) (N := 6) hx hb hts (fun w h => wm_c (wc_X5 w h)) tyX5 tyX5_ok nmX5 hown hE.1 hP hD hS 0 rfl rfl 2 (by decide) tX5_2 (hts (.fieldLink RX5 17 "WornLines$Tape" "tokens" "[LWornLines$Token;") (wm_c hw_266)) (fun _ h9 => h9) rfl hin rfl pf_4 rfl rfl (Nat.le_of_ble_eq_true rfl) dX5_init_20 (fun H locs hP hD hS => ?_)
  have hP : va_P D vwCl [(h0, .inr (5, [.ref q_1, .int (0), .ref q_2, .null, .null, .int (0)])), (q_1, .inl (ak 2, 1000, .inl (fun _ => 0))), (q_2, .inl (ak 4, 1001, .inr (.inr (.inr (.inr (fun _ => none))))))] H := hP
  have hD : va_D A [(h0, .inr (5, [.ref q_1, .int (0), .ref q_2, .null, .null, .int (0)])), (q_1, .inl (ak 2, 1000, .inl (fun _ => 0))), (q_2, .inl (ak 4, 1001, .inr (.inr (.inr (.inr (fun _ => none))))))] := hD
  refine lv_aload_n hx hb dX5_init_23 rfl (lv_at hl 0 rfl) ?_
  refine lv_sipush (v := 1001) hx hb dX5_init_24 (by decide) ?_
  refine kn_a (atype := .int) (ty := .int) (a0 := (1001, .inl (fun _ => 0))) (N' := 1001) hx hb (hts (.arrayClass .int) (wm_c hw_267)) hE 0 rfl rfl (fun _ h => h) hP hD hS hA (fun cA => vp_cell_i cA 1001 (fun _ => 0)) (by decide) (rfl) (by decide +kernel) (Nat.le_of_ble_eq_true rfl) (Nat.le_of_ble_eq_true rfl) dX5_init_27 (fun q_3 H hP hD hS => ?_)
  have hP : va_P D vwCl [(h0, .inr (5, [.ref q_1, .int (0), .ref q_2, .null, .null, .int (0)])), (q_1, .inl (ak 2, 1000, .inl (fun _ => 0))), (q_2, .inl (ak 4, 1001, .inr (.inr (.inr (.inr (fun _ => none)))))), (q_3, .inl (ak 0, 1001, .inl (fun _ => 0)))] H := hP
  have hD : va_D A [(h0, .inr (5, [.ref q_1, .int (0), .ref q_2, .null, .null, .int (0)])), (q_1, .inl (ak 2, 1000, .inl (fun _ => 0))), (q_2, .inl (ak 4, 1001, .inr (.inr (.inr (.inr (fun _ => none)))))), (q_3, .inl (ak 0, 1001, .inl (fun _ => 0)))] := hD
  refine W.widen (k := 3) (n := 3002) (Nat.le_of_ble_eq_true rfl) (Nat.le_of_ble_eq_true rfl) ?_
  refine vt_putF (D := D) (ci := 5) (v := .ref q_3) (ty := .array .int) (C := RX5) (T := TX5) (N := 6) hx hb hts (fun w h => wm_c (wc_X5 w h)) tyX5 tyX5_ok nmX5 hown hE.1 hP hD hS 0 rfl rfl 3 (by decide) tX5_3 (hts (.fieldLink RX5 21 "WornLines$Tape" "places" "[I") (wm_c hw_268)) (fun _ h9 => h9) rfl hin rfl pf_5 rfl rfl (Nat.le_of_ble_eq_true rfl) dX5_init_29 (fun H locs hP hD hS => ?_)
  have hP : va_P D vwCl [(h0, .inr (5, [.ref q_1, .int (0), .ref q_2, .ref q_3, .null, .int (0)])), (q_1, .inl (ak 2, 1000, .inl (fun _ => 0))), (q_2, .inl (ak 4, 1001, .inr (.inr (.inr (.inr (fun _ => none)))))), (q_3, .inl (ak 0, 1001, .inl (fun _ => 0)))] H := hP
  have hD : va_D A [(h0, .inr (5, [.ref q_1, .int (0), .ref q_2, .ref q_3, .null, .int (0)])), (q_1, .inl (ak 2, 1000, .inl (fun _ => 0))), (q_2, .inl (ak 4, 1001, .inr (.inr (.inr (.inr (fun _ => none)))))), (q_3, .inl (ak 0, 1001, .inl (fun _ => 0)))] := hD
  refine lv_aload_n hx hb dX5_init_32 rfl (lv_at hl 0 rfl) ?_
  refine lv_sipush (v := 1001) hx hb dX5_init_33 (by decide) ?_
  refine kn_a (atype := .long) (ty := .long) (a0 := (1001, .inr (.inl (fun _ => 0)))) (N' := 1001) hx hb (hts (.arrayClass .long) (wm_c hw_269)) hE 1 rfl rfl (fun _ h => h) hP hD hS hA (fun cA => vp_cell_l cA 1001 (fun _ => 0)) (by decide) (rfl) (by decide +kernel) (Nat.le_of_ble_eq_true rfl) (Nat.le_of_ble_eq_true rfl) dX5_init_36 (fun q_4 H hP hD hS => ?_)
  have hP : va_P D vwCl [(h0, .inr (5, [.ref q_1, .int (0), .ref q_2, .ref q_3, .null, .int (0)])), (q_1, .inl (ak 2, 1000, .inl (fun _ => 0))), (q_2, .inl (ak 4, 1001, .inr (.inr (.inr (.inr (fun _ => none)))))), (q_3, .inl (ak 0, 1001, .inl (fun _ => 0))), (q_4, .inl (ak 1, 1001, .inr (.inl (fun _ => 0))))] H := hP
  have hD : va_D A [(h0, .inr (5, [.ref q_1, .int (0), .ref q_2, .ref q_3, .null, .int (0)])), (q_1, .inl (ak 2, 1000, .inl (fun _ => 0))), (q_2, .inl (ak 4, 1001, .inr (.inr (.inr (.inr (fun _ => none)))))), (q_3, .inl (ak 0, 1001, .inl (fun _ => 0))), (q_4, .inl (ak 1, 1001, .inr (.inl (fun _ => 0))))] := hD
  refine W.widen (k := 4) (n := 4003) (Nat.le_of_ble_eq_true rfl) (Nat.le_of_ble_eq_true rfl) ?_
  refine vt_putF (D := D) (ci := 5) (v := .ref q_4) (ty := .array .long) (C := RX5) (T := TX5) (N := 6) hx hb hts (fun w h => wm_c (wc_X5 w h)) tyX5 tyX5_ok nmX5 hown hE.1 hP hD hS 0 rfl rfl 4 (by decide) tX5_4 (hts (.fieldLink RX5 25 "WornLines$Tape" "values" "[J") (wm_c hw_270)) (fun _ h9 => h9) rfl hin rfl pf_6 rfl rfl (Nat.le_of_ble_eq_true rfl) dX5_init_38 (fun H locs hP hD hS => ?_)
  have hP : va_P D vwCl [(h0, .inr (5, [.ref q_1, .int (0), .ref q_2, .ref q_3, .ref q_4, .int (0)])), (q_1, .inl (ak 2, 1000, .inl (fun _ => 0))), (q_2, .inl (ak 4, 1001, .inr (.inr (.inr (.inr (fun _ => none)))))), (q_3, .inl (ak 0, 1001, .inl (fun _ => 0))), (q_4, .inl (ak 1, 1001, .inr (.inl (fun _ => 0))))] H := hP
  have hD : va_D A [(h0, .inr (5, [.ref q_1, .int (0), .ref q_2, .ref q_3, .ref q_4, .int (0)])), (q_1, .inl (ak 2, 1000, .inl (fun _ => 0))), (q_2, .inl (ak 4, 1001, .inr (.inr (.inr (.inr (fun _ => none)))))), (q_3, .inl (ak 0, 1001, .inl (fun _ => 0))), (q_4, .inl (ak 1, 1001, .inr (.inl (fun _ => 0))))] := hD
  have hP9 := hP.sub (ws' := [(h0, .inr (5, [.ref q_1, .int (0), .ref q_2, .ref q_3, .ref q_4, .int (0)])), (q_1, .inl (ak 2, 1000, .inl (fun _ => 0))), (q_2, .inl (ak 4, 1001, .inr (.inr (.inr (.inr (fun _ => none)))))), (q_3, .inl (ak 0, 1001, .inl (fun _ => 0))), (q_4, .inl (ak 1, 1001, .inr (.inl (fun _ => 0))))]) [0, 1, 2, 3, 4] rfl
  have hD9 := hD.sub (ws' := [(h0, .inr (5, [.ref q_1, .int (0), .ref q_2, .ref q_3, .ref q_4, .int (0)])), (q_1, .inl (ak 2, 1000, .inl (fun _ => 0))), (q_2, .inl (ak 4, 1001, .inr (.inr (.inr (.inr (fun _ => none)))))), (q_3, .inl (ak 0, 1001, .inl (fun _ => 0))), (q_4, .inl (ak 1, 1001, .inr (.inl (fun _ => 0))))]) [0, 1, 2, 3, 4] (by decide) rfl
  refine W.widen (k := 4) (n := 4003) (Nat.le_of_ble_eq_true rfl) (Nat.le_of_ble_eq_true rfl) ?_
  exact W.vret hx hb hr (fun t ht hW => ⟨⟨((fun k => match k with | 0 => q_1 | 1 => q_2 | 2 => q_3 | _ => q_4)), rfl, trivial, by rw [ht]; exact hP9, by rw [hAe]; exact hD9⟩, by rw [hAe]; exact hS.F ht⟩) hS.2.2 dX5_init_41

set_option maxHeartbeats 4000000 in
set_option maxRecDepth 100000 in
theorem c_X2_init (l : Launch) (D : va_G) (ak : Nat → ClassId) (ad : Nat → Nat) (sz : Nat) (h0 : Nat)  : Met l yX2_init wsX2_init ({ frames := 1, cells := 13, slots := 116, locals := 12 }) (cPre D ak ad [.ref h0] ([(h0, .inr (2, [.int (0), .null, .null, .int (0), .null, .int (0), .null, .null, .null, .int (0), .null, .null, .null, .null, .null, .null, .null]))]) sz) (cV D (S := (Nat → Nat)) (fun (u : (Nat → Nat)) => True) (fun u => [(h0, .inr (2, [.int (0), .ref (u 0), .ref (u 1), .int (0), .ref (u 2), .int (0), .ref (u 3), .ref (u 4), .ref (u 5), .int (0), .ref (u 6), .ref (u 7), .ref (u 8), .ref (u 9), .ref (u 10), .ref (u 11), .ref (u 12)])), (u 0, .inl (ak 0, 4, .inl (fun _ => 0))), (u 1, .inl (ak 0, 4, .inl (fun _ => 0))), (u 2, .inl (ak 0, 6, .inl (fun _ => 0))), (u 3, .inl (ak 0, 2, .inl (fun _ => 0))), (u 4, .inl (ak 0, 2, .inl (fun _ => 0))), (u 5, .inl (ak 0, 2, .inl (fun _ => 0))), (u 6, .inl (ak 0, 16, .inl (fun _ => 0))), (u 7, .inl (ak 0, 16, .inl (fun _ => 0))), (u 8, .inl (ak 0, 16, .inl (fun _ => 0))), (u 9, .inl (ak 0, 16, .inl (fun _ => 0))), (u 10, .inl (ak 0, 16, .inl (fun _ => 0))), (u 11, .inl (ak 0, 16, .inl (fun _ => 0))), (u 12, .inl (ak 0, 0, .inl (fun _ => 0)))]) ([(h0, .inr (2, [.int (0), .null, .null, .int (0), .null, .int (0), .null, .null, .null, .int (0), .null, .null, .null, .null, .null, .null, .null]))]) sz) 13 116 (va_A ([(h0, .inr (2, [.int (0), .null, .null, .int (0), .null, .int (0), .null, .null, .null, .int (0), .null, .null, .null, .null, .null, .null, .null]))]) sz) := by
  refine Met.ofW (cc := cX2_init) (maxL := 1) (ret := none) (by decide) rfl ?_
  intro p e s m args below meth c s₁ B hml hv
  obtain ⟨rfl, hsz, hP, hE, hD0, hT⟩ := hv
  have hx := B.exec
  have hb := B.bytes
  have hr := B.returns
  have hts := atoms_spec (ws := wsX2_init) B.pre
  have hown : s.vm.findClass RX2 = some m.cls := findClass_of_methodNamed B.named
  have hlocks := B.notSynchronized
  have hin : meth.name = "<init>" := (name_of_methodNamed B.named B.method).1
  subst hsz
  have hD := hD0.self (sz := s.heap.size)
  generalize hAe : va_A ([(h0, .inr (2, [.int (0), .null, .null, .int (0), .null, .int (0), .null, .null, .null, .int (0), .null, .null, .null, .null, .null, .null, .null]))]) s.heap.size = A at hD hT ⊢
  have hA : ∀ q : Nat, s.heap.size ≤ q → A q := fun q h => by rw [← hAe]; exact Or.inr h
  have hS : va_S A s.heap s.heap [] := va_S.rf
  have hl := lv_entry ([.ref h0]) (n := 1) (Nat.le_of_ble_eq_true rfl)
  rw [lg_entry_eq]
  generalize (lg_sl ([.ref h0]) ++ List.replicate (1 - (lg_sl ([.ref h0])).length) Slot.unset).toArray = ls at hl ⊢
  have hl : lv_has ls 1 [(0, .ref h0)] := hl
  have hP : va_P D vwCl [(h0, .inr (2, [.int (0), .null, .null, .int (0), .null, .int (0), .null, .null, .null, .int (0), .null, .null, .null, .null, .null, .null, .null]))] s.heap := hP
  refine lv_aload_n hx hb dX2_init_0 rfl (lv_at hl 0 rfl) ?_
  refine W.objInit hx hb hown (hts (.methodLink RX2 3 objectInit) (wm_c hw_271)) (hts (.instanceMethod objectInit) (wm_c hw_261)) (hts (.code objectInit ⟨#[0xb1]⟩ 1 none) (wm_c hw_262)) rfl (by rw [hml]; exact hl.1) rfl dX2_init_1 (Nat.le_of_ble_eq_true rfl) (Nat.le_of_ble_eq_true rfl) ?_
  refine W.eq (g2 := F0 m 4 ls ([])) rfl ?_
  refine lv_aload_n hx hb dX2_init_4 rfl (lv_at hl 0 rfl) ?_
  refine lv_iconst (v := 4) hx hb dX2_init_5 (by decide) ?_
  refine kn_a (atype := .int) (ty := .int) (a0 := (4, .inl (fun _ => 0))) (N' := 4) hx hb (hts (.arrayClass .int) (wm_c hw_267)) hE 0 rfl rfl (fun _ h => h) hP hD hS hA (fun cA => vp_cell_i cA 4 (fun _ => 0)) (by decide) (rfl) (by decide +kernel) (Nat.le_of_ble_eq_true rfl) (Nat.le_of_ble_eq_true rfl) dX2_init_6 (fun q_1 H hP hD hS => ?_)
  have hP : va_P D vwCl [(h0, .inr (2, [.int (0), .null, .null, .int (0), .null, .int (0), .null, .null, .null, .int (0), .null, .null, .null, .null, .null, .null, .null])), (q_1, .inl (ak 0, 4, .inl (fun _ => 0)))] H := hP
  have hD : va_D A [(h0, .inr (2, [.int (0), .null, .null, .int (0), .null, .int (0), .null, .null, .null, .int (0), .null, .null, .null, .null, .null, .null, .null])), (q_1, .inl (ak 0, 4, .inl (fun _ => 0)))] := hD
  refine W.widen (k := 1) (n := 4) (Nat.le_of_ble_eq_true rfl) (Nat.le_of_ble_eq_true rfl) ?_
  refine vt_putF (D := D) (ci := 2) (v := .ref q_1) (ty := .array .int) (C := RX2) (T := TX2) (N := 17) hx hb hts (fun w h => wm_c (wc_X2 w h)) tyX2 tyX2_ok nmX2 hown hE.1 hP hD hS 0 rfl rfl 1 (by decide) tX2_1 (hts (.fieldLink RX2 9 "WornLines$Programme" "bears" "[I") (wm_c hw_272)) (fun _ h9 => h9) rfl hin rfl pf_5 rfl rfl (Nat.le_of_ble_eq_true rfl) dX2_init_8 (fun H locs hP hD hS => ?_)
  have hP : va_P D vwCl [(h0, .inr (2, [.int (0), .ref q_1, .null, .int (0), .null, .int (0), .null, .null, .null, .int (0), .null, .null, .null, .null, .null, .null, .null])), (q_1, .inl (ak 0, 4, .inl (fun _ => 0)))] H := hP
  have hD : va_D A [(h0, .inr (2, [.int (0), .ref q_1, .null, .int (0), .null, .int (0), .null, .null, .null, .int (0), .null, .null, .null, .null, .null, .null, .null])), (q_1, .inl (ak 0, 4, .inl (fun _ => 0)))] := hD
  refine lv_aload_n hx hb dX2_init_11 rfl (lv_at hl 0 rfl) ?_
  refine lv_iconst (v := 4) hx hb dX2_init_12 (by decide) ?_
  refine kn_a (atype := .int) (ty := .int) (a0 := (4, .inl (fun _ => 0))) (N' := 4) hx hb (hts (.arrayClass .int) (wm_c hw_267)) hE 0 rfl rfl (fun _ h => h) hP hD hS hA (fun cA => vp_cell_i cA 4 (fun _ => 0)) (by decide) (rfl) (by decide +kernel) (Nat.le_of_ble_eq_true rfl) (Nat.le_of_ble_eq_true rfl) dX2_init_13 (fun q_2 H hP hD hS => ?_)
  have hP : va_P D vwCl [(h0, .inr (2, [.int (0), .ref q_1, .null, .int (0), .null, .int (0), .null, .null, .null, .int (0), .null, .null, .null, .null, .null, .null, .null])), (q_1, .inl (ak 0, 4, .inl (fun _ => 0))), (q_2, .inl (ak 0, 4, .inl (fun _ => 0)))] H := hP
  have hD : va_D A [(h0, .inr (2, [.int (0), .ref q_1, .null, .int (0), .null, .int (0), .null, .null, .null, .int (0), .null, .null, .null, .null, .null, .null, .null])), (q_1, .inl (ak 0, 4, .inl (fun _ => 0))), (q_2, .inl (ak 0, 4, .inl (fun _ => 0)))] := hD
  refine W.widen (k := 2) (n := 8) (Nat.le_of_ble_eq_true rfl) (Nat.le_of_ble_eq_true rfl) ?_
  refine vt_putF (D := D) (ci := 2) (v := .ref q_2) (ty := .array .int) (C := RX2) (T := TX2) (N := 17) hx hb hts (fun w h => wm_c (wc_X2 w h)) tyX2 tyX2_ok nmX2 hown hE.1 hP hD hS 0 rfl rfl 2 (by decide) tX2_2 (hts (.fieldLink RX2 15 "WornLines$Programme" "costs" "[I") (wm_c hw_273)) (fun _ h9 => h9) rfl hin rfl pf_5 rfl rfl (Nat.le_of_ble_eq_true rfl) dX2_init_15 (fun H locs hP hD hS => ?_)
  have hP : va_P D vwCl [(h0, .inr (2, [.int (0), .ref q_1, .ref q_2, .int (0), .null, .int (0), .null, .null, .null, .int (0), .null, .null, .null, .null, .null, .null, .null])), (q_1, .inl (ak 0, 4, .inl (fun _ => 0))), (q_2, .inl (ak 0, 4, .inl (fun _ => 0)))] H := hP
  have hD : va_D A [(h0, .inr (2, [.int (0), .ref q_1, .ref q_2, .int (0), .null, .int (0), .null, .null, .null, .int (0), .null, .null, .null, .null, .null, .null, .null])), (q_1, .inl (ak 0, 4, .inl (fun _ => 0))), (q_2, .inl (ak 0, 4, .inl (fun _ => 0)))] := hD
  refine lv_aload_n hx hb dX2_init_18 rfl (lv_at hl 0 rfl) ?_
  refine lv_bipush (v := 6) hx hb dX2_init_19 (by decide) ?_
  refine kn_a (atype := .int) (ty := .int) (a0 := (6, .inl (fun _ => 0))) (N' := 6) hx hb (hts (.arrayClass .int) (wm_c hw_267)) hE 0 rfl rfl (fun _ h => h) hP hD hS hA (fun cA => vp_cell_i cA 6 (fun _ => 0)) (by decide) (rfl) (by decide +kernel) (Nat.le_of_ble_eq_true rfl) (Nat.le_of_ble_eq_true rfl) dX2_init_21 (fun q_3 H hP hD hS => ?_)
  have hP : va_P D vwCl [(h0, .inr (2, [.int (0), .ref q_1, .ref q_2, .int (0), .null, .int (0), .null, .null, .null, .int (0), .null, .null, .null, .null, .null, .null, .null])), (q_1, .inl (ak 0, 4, .inl (fun _ => 0))), (q_2, .inl (ak 0, 4, .inl (fun _ => 0))), (q_3, .inl (ak 0, 6, .inl (fun _ => 0)))] H := hP
  have hD : va_D A [(h0, .inr (2, [.int (0), .ref q_1, .ref q_2, .int (0), .null, .int (0), .null, .null, .null, .int (0), .null, .null, .null, .null, .null, .null, .null])), (q_1, .inl (ak 0, 4, .inl (fun _ => 0))), (q_2, .inl (ak 0, 4, .inl (fun _ => 0))), (q_3, .inl (ak 0, 6, .inl (fun _ => 0)))] := hD
  refine W.widen (k := 3) (n := 14) (Nat.le_of_ble_eq_true rfl) (Nat.le_of_ble_eq_true rfl) ?_
  refine vt_putF (D := D) (ci := 2) (v := .ref q_3) (ty := .array .int) (C := RX2) (T := TX2) (N := 17) hx hb hts (fun w h => wm_c (wc_X2 w h)) tyX2 tyX2_ok nmX2 hown hE.1 hP hD hS 0 rfl rfl 4 (by decide) tX2_4 (hts (.fieldLink RX2 18 "WornLines$Programme" "told" "[I") (wm_c hw_274)) (fun _ h9 => h9) rfl hin rfl pf_5 rfl rfl (Nat.le_of_ble_eq_true rfl) dX2_init_23 (fun H locs hP hD hS => ?_)
  have hP : va_P D vwCl [(h0, .inr (2, [.int (0), .ref q_1, .ref q_2, .int (0), .ref q_3, .int (0), .null, .null, .null, .int (0), .null, .null, .null, .null, .null, .null, .null])), (q_1, .inl (ak 0, 4, .inl (fun _ => 0))), (q_2, .inl (ak 0, 4, .inl (fun _ => 0))), (q_3, .inl (ak 0, 6, .inl (fun _ => 0)))] H := hP
  have hD : va_D A [(h0, .inr (2, [.int (0), .ref q_1, .ref q_2, .int (0), .ref q_3, .int (0), .null, .null, .null, .int (0), .null, .null, .null, .null, .null, .null, .null])), (q_1, .inl (ak 0, 4, .inl (fun _ => 0))), (q_2, .inl (ak 0, 4, .inl (fun _ => 0))), (q_3, .inl (ak 0, 6, .inl (fun _ => 0)))] := hD
  refine lv_aload_n hx hb dX2_init_26 rfl (lv_at hl 0 rfl) ?_
  refine lv_iconst (v := 2) hx hb dX2_init_27 (by decide) ?_
  refine kn_a (atype := .int) (ty := .int) (a0 := (2, .inl (fun _ => 0))) (N' := 2) hx hb (hts (.arrayClass .int) (wm_c hw_267)) hE 0 rfl rfl (fun _ h => h) hP hD hS hA (fun cA => vp_cell_i cA 2 (fun _ => 0)) (by decide) (rfl) (by decide +kernel) (Nat.le_of_ble_eq_true rfl) (Nat.le_of_ble_eq_true rfl) dX2_init_28 (fun q_4 H hP hD hS => ?_)
  have hP : va_P D vwCl [(h0, .inr (2, [.int (0), .ref q_1, .ref q_2, .int (0), .ref q_3, .int (0), .null, .null, .null, .int (0), .null, .null, .null, .null, .null, .null, .null])), (q_1, .inl (ak 0, 4, .inl (fun _ => 0))), (q_2, .inl (ak 0, 4, .inl (fun _ => 0))), (q_3, .inl (ak 0, 6, .inl (fun _ => 0))), (q_4, .inl (ak 0, 2, .inl (fun _ => 0)))] H := hP
  have hD : va_D A [(h0, .inr (2, [.int (0), .ref q_1, .ref q_2, .int (0), .ref q_3, .int (0), .null, .null, .null, .int (0), .null, .null, .null, .null, .null, .null, .null])), (q_1, .inl (ak 0, 4, .inl (fun _ => 0))), (q_2, .inl (ak 0, 4, .inl (fun _ => 0))), (q_3, .inl (ak 0, 6, .inl (fun _ => 0))), (q_4, .inl (ak 0, 2, .inl (fun _ => 0)))] := hD
  refine W.widen (k := 4) (n := 16) (Nat.le_of_ble_eq_true rfl) (Nat.le_of_ble_eq_true rfl) ?_
  refine vt_putF (D := D) (ci := 2) (v := .ref q_4) (ty := .array .int) (C := RX2) (T := TX2) (N := 17) hx hb hts (fun w h => wm_c (wc_X2 w h)) tyX2 tyX2_ok nmX2 hown hE.1 hP hD hS 0 rfl rfl 6 (by decide) tX2_6 (hts (.fieldLink RX2 21 "WornLines$Programme" "givenCell" "[I") (wm_c hw_275)) (fun _ h9 => h9) rfl hin rfl pf_5 rfl rfl (Nat.le_of_ble_eq_true rfl) dX2_init_30 (fun H locs hP hD hS => ?_)
  have hP : va_P D vwCl [(h0, .inr (2, [.int (0), .ref q_1, .ref q_2, .int (0), .ref q_3, .int (0), .ref q_4, .null, .null, .int (0), .null, .null, .null, .null, .null, .null, .null])), (q_1, .inl (ak 0, 4, .inl (fun _ => 0))), (q_2, .inl (ak 0, 4, .inl (fun _ => 0))), (q_3, .inl (ak 0, 6, .inl (fun _ => 0))), (q_4, .inl (ak 0, 2, .inl (fun _ => 0)))] H := hP
  have hD : va_D A [(h0, .inr (2, [.int (0), .ref q_1, .ref q_2, .int (0), .ref q_3, .int (0), .ref q_4, .null, .null, .int (0), .null, .null, .null, .null, .null, .null, .null])), (q_1, .inl (ak 0, 4, .inl (fun _ => 0))), (q_2, .inl (ak 0, 4, .inl (fun _ => 0))), (q_3, .inl (ak 0, 6, .inl (fun _ => 0))), (q_4, .inl (ak 0, 2, .inl (fun _ => 0)))] := hD
  refine lv_aload_n hx hb dX2_init_33 rfl (lv_at hl 0 rfl) ?_
  refine lv_iconst (v := 2) hx hb dX2_init_34 (by decide) ?_
  refine kn_a (atype := .int) (ty := .int) (a0 := (2, .inl (fun _ => 0))) (N' := 2) hx hb (hts (.arrayClass .int) (wm_c hw_267)) hE 0 rfl rfl (fun _ h => h) hP hD hS hA (fun cA => vp_cell_i cA 2 (fun _ => 0)) (by decide) (rfl) (by decide +kernel) (Nat.le_of_ble_eq_true rfl) (Nat.le_of_ble_eq_true rfl) dX2_init_35 (fun q_5 H hP hD hS => ?_)
  have hP : va_P D vwCl [(h0, .inr (2, [.int (0), .ref q_1, .ref q_2, .int (0), .ref q_3, .int (0), .ref q_4, .null, .null, .int (0), .null, .null, .null, .null, .null, .null, .null])), (q_1, .inl (ak 0, 4, .inl (fun _ => 0))), (q_2, .inl (ak 0, 4, .inl (fun _ => 0))), (q_3, .inl (ak 0, 6, .inl (fun _ => 0))), (q_4, .inl (ak 0, 2, .inl (fun _ => 0))), (q_5, .inl (ak 0, 2, .inl (fun _ => 0)))] H := hP
  have hD : va_D A [(h0, .inr (2, [.int (0), .ref q_1, .ref q_2, .int (0), .ref q_3, .int (0), .ref q_4, .null, .null, .int (0), .null, .null, .null, .null, .null, .null, .null])), (q_1, .inl (ak 0, 4, .inl (fun _ => 0))), (q_2, .inl (ak 0, 4, .inl (fun _ => 0))), (q_3, .inl (ak 0, 6, .inl (fun _ => 0))), (q_4, .inl (ak 0, 2, .inl (fun _ => 0))), (q_5, .inl (ak 0, 2, .inl (fun _ => 0)))] := hD
  refine W.widen (k := 5) (n := 18) (Nat.le_of_ble_eq_true rfl) (Nat.le_of_ble_eq_true rfl) ?_
  refine vt_putF (D := D) (ci := 2) (v := .ref q_5) (ty := .array .int) (C := RX2) (T := TX2) (N := 17) hx hb hts (fun w h => wm_c (wc_X2 w h)) tyX2 tyX2_ok nmX2 hown hE.1 hP hD hS 0 rfl rfl 7 (by decide) tX2_7 (hts (.fieldLink RX2 24 "WornLines$Programme" "least" "[I") (wm_c hw_276)) (fun _ h9 => h9) rfl hin rfl pf_5 rfl rfl (Nat.le_of_ble_eq_true rfl) dX2_init_37 (fun H locs hP hD hS => ?_)
  have hP : va_P D vwCl [(h0, .inr (2, [.int (0), .ref q_1, .ref q_2, .int (0), .ref q_3, .int (0), .ref q_4, .ref q_5, .null, .int (0), .null, .null, .null, .null, .null, .null, .null])), (q_1, .inl (ak 0, 4, .inl (fun _ => 0))), (q_2, .inl (ak 0, 4, .inl (fun _ => 0))), (q_3, .inl (ak 0, 6, .inl (fun _ => 0))), (q_4, .inl (ak 0, 2, .inl (fun _ => 0))), (q_5, .inl (ak 0, 2, .inl (fun _ => 0)))] H := hP
  have hD : va_D A [(h0, .inr (2, [.int (0), .ref q_1, .ref q_2, .int (0), .ref q_3, .int (0), .ref q_4, .ref q_5, .null, .int (0), .null, .null, .null, .null, .null, .null, .null])), (q_1, .inl (ak 0, 4, .inl (fun _ => 0))), (q_2, .inl (ak 0, 4, .inl (fun _ => 0))), (q_3, .inl (ak 0, 6, .inl (fun _ => 0))), (q_4, .inl (ak 0, 2, .inl (fun _ => 0))), (q_5, .inl (ak 0, 2, .inl (fun _ => 0)))] := hD
  refine lv_aload_n hx hb dX2_init_40 rfl (lv_at hl 0 rfl) ?_
  refine lv_iconst (v := 2) hx hb dX2_init_41 (by decide) ?_
  refine kn_a (atype := .int) (ty := .int) (a0 := (2, .inl (fun _ => 0))) (N' := 2) hx hb (hts (.arrayClass .int) (wm_c hw_267)) hE 0 rfl rfl (fun _ h => h) hP hD hS hA (fun cA => vp_cell_i cA 2 (fun _ => 0)) (by decide) (rfl) (by decide +kernel) (Nat.le_of_ble_eq_true rfl) (Nat.le_of_ble_eq_true rfl) dX2_init_42 (fun q_6 H hP hD hS => ?_)
  have hP : va_P D vwCl [(h0, .inr (2, [.int (0), .ref q_1, .ref q_2, .int (0), .ref q_3, .int (0), .ref q_4, .ref q_5, .null, .int (0), .null, .null, .null, .null, .null, .null, .null])), (q_1, .inl (ak 0, 4, .inl (fun _ => 0))), (q_2, .inl (ak 0, 4, .inl (fun _ => 0))), (q_3, .inl (ak 0, 6, .inl (fun _ => 0))), (q_4, .inl (ak 0, 2, .inl (fun _ => 0))), (q_5, .inl (ak 0, 2, .inl (fun _ => 0))), (q_6, .inl (ak 0, 2, .inl (fun _ => 0)))] H := hP
  have hD : va_D A [(h0, .inr (2, [.int (0), .ref q_1, .ref q_2, .int (0), .ref q_3, .int (0), .ref q_4, .ref q_5, .null, .int (0), .null, .null, .null, .null, .null, .null, .null])), (q_1, .inl (ak 0, 4, .inl (fun _ => 0))), (q_2, .inl (ak 0, 4, .inl (fun _ => 0))), (q_3, .inl (ak 0, 6, .inl (fun _ => 0))), (q_4, .inl (ak 0, 2, .inl (fun _ => 0))), (q_5, .inl (ak 0, 2, .inl (fun _ => 0))), (q_6, .inl (ak 0, 2, .inl (fun _ => 0)))] := hD
  refine W.widen (k := 6) (n := 20) (Nat.le_of_ble_eq_true rfl) (Nat.le_of_ble_eq_true rfl) ?_
  refine vt_putF (D := D) (ci := 2) (v := .ref q_6) (ty := .array .int) (C := RX2) (T := TX2) (N := 17) hx hb hts (fun w h => wm_c (wc_X2 w h)) tyX2 tyX2_ok nmX2 hown hE.1 hP hD hS 0 rfl rfl 8 (by decide) tX2_8 (hts (.fieldLink RX2 27 "WornLines$Programme" "greatest" "[I") (wm_c hw_277)) (fun _ h9 => h9) rfl hin rfl pf_5 rfl rfl (Nat.le_of_ble_eq_true rfl) dX2_init_44 (fun H locs hP hD hS => ?_)
  have hP : va_P D vwCl [(h0, .inr (2, [.int (0), .ref q_1, .ref q_2, .int (0), .ref q_3, .int (0), .ref q_4, .ref q_5, .ref q_6, .int (0), .null, .null, .null, .null, .null, .null, .null])), (q_1, .inl (ak 0, 4, .inl (fun _ => 0))), (q_2, .inl (ak 0, 4, .inl (fun _ => 0))), (q_3, .inl (ak 0, 6, .inl (fun _ => 0))), (q_4, .inl (ak 0, 2, .inl (fun _ => 0))), (q_5, .inl (ak 0, 2, .inl (fun _ => 0))), (q_6, .inl (ak 0, 2, .inl (fun _ => 0)))] H := hP
  have hD : va_D A [(h0, .inr (2, [.int (0), .ref q_1, .ref q_2, .int (0), .ref q_3, .int (0), .ref q_4, .ref q_5, .ref q_6, .int (0), .null, .null, .null, .null, .null, .null, .null])), (q_1, .inl (ak 0, 4, .inl (fun _ => 0))), (q_2, .inl (ak 0, 4, .inl (fun _ => 0))), (q_3, .inl (ak 0, 6, .inl (fun _ => 0))), (q_4, .inl (ak 0, 2, .inl (fun _ => 0))), (q_5, .inl (ak 0, 2, .inl (fun _ => 0))), (q_6, .inl (ak 0, 2, .inl (fun _ => 0)))] := hD
  refine lv_aload_n hx hb dX2_init_47 rfl (lv_at hl 0 rfl) ?_
  refine lv_bipush (v := 16) hx hb dX2_init_48 (by decide) ?_
  refine kn_a (atype := .int) (ty := .int) (a0 := (16, .inl (fun _ => 0))) (N' := 16) hx hb (hts (.arrayClass .int) (wm_c hw_267)) hE 0 rfl rfl (fun _ h => h) hP hD hS hA (fun cA => vp_cell_i cA 16 (fun _ => 0)) (by decide) (rfl) (by decide +kernel) (Nat.le_of_ble_eq_true rfl) (Nat.le_of_ble_eq_true rfl) dX2_init_50 (fun q_7 H hP hD hS => ?_)
  have hP : va_P D vwCl [(h0, .inr (2, [.int (0), .ref q_1, .ref q_2, .int (0), .ref q_3, .int (0), .ref q_4, .ref q_5, .ref q_6, .int (0), .null, .null, .null, .null, .null, .null, .null])), (q_1, .inl (ak 0, 4, .inl (fun _ => 0))), (q_2, .inl (ak 0, 4, .inl (fun _ => 0))), (q_3, .inl (ak 0, 6, .inl (fun _ => 0))), (q_4, .inl (ak 0, 2, .inl (fun _ => 0))), (q_5, .inl (ak 0, 2, .inl (fun _ => 0))), (q_6, .inl (ak 0, 2, .inl (fun _ => 0))), (q_7, .inl (ak 0, 16, .inl (fun _ => 0)))] H := hP
  have hD : va_D A [(h0, .inr (2, [.int (0), .ref q_1, .ref q_2, .int (0), .ref q_3, .int (0), .ref q_4, .ref q_5, .ref q_6, .int (0), .null, .null, .null, .null, .null, .null, .null])), (q_1, .inl (ak 0, 4, .inl (fun _ => 0))), (q_2, .inl (ak 0, 4, .inl (fun _ => 0))), (q_3, .inl (ak 0, 6, .inl (fun _ => 0))), (q_4, .inl (ak 0, 2, .inl (fun _ => 0))), (q_5, .inl (ak 0, 2, .inl (fun _ => 0))), (q_6, .inl (ak 0, 2, .inl (fun _ => 0))), (q_7, .inl (ak 0, 16, .inl (fun _ => 0)))] := hD
  refine W.widen (k := 7) (n := 36) (Nat.le_of_ble_eq_true rfl) (Nat.le_of_ble_eq_true rfl) ?_
  refine vt_putF (D := D) (ci := 2) (v := .ref q_7) (ty := .array .int) (C := RX2) (T := TX2) (N := 17) hx hb hts (fun w h => wm_c (wc_X2 w h)) tyX2 tyX2_ok nmX2 hown hE.1 hP hD hS 0 rfl rfl 10 (by decide) tX2_10 (hts (.fieldLink RX2 30 "WornLines$Programme" "act" "[I") (wm_c hw_278)) (fun _ h9 => h9) rfl hin rfl pf_5 rfl rfl (Nat.le_of_ble_eq_true rfl) dX2_init_52 (fun H locs hP hD hS => ?_)
  have hP : va_P D vwCl [(h0, .inr (2, [.int (0), .ref q_1, .ref q_2, .int (0), .ref q_3, .int (0), .ref q_4, .ref q_5, .ref q_6, .int (0), .ref q_7, .null, .null, .null, .null, .null, .null])), (q_1, .inl (ak 0, 4, .inl (fun _ => 0))), (q_2, .inl (ak 0, 4, .inl (fun _ => 0))), (q_3, .inl (ak 0, 6, .inl (fun _ => 0))), (q_4, .inl (ak 0, 2, .inl (fun _ => 0))), (q_5, .inl (ak 0, 2, .inl (fun _ => 0))), (q_6, .inl (ak 0, 2, .inl (fun _ => 0))), (q_7, .inl (ak 0, 16, .inl (fun _ => 0)))] H := hP
  have hD : va_D A [(h0, .inr (2, [.int (0), .ref q_1, .ref q_2, .int (0), .ref q_3, .int (0), .ref q_4, .ref q_5, .ref q_6, .int (0), .ref q_7, .null, .null, .null, .null, .null, .null])), (q_1, .inl (ak 0, 4, .inl (fun _ => 0))), (q_2, .inl (ak 0, 4, .inl (fun _ => 0))), (q_3, .inl (ak 0, 6, .inl (fun _ => 0))), (q_4, .inl (ak 0, 2, .inl (fun _ => 0))), (q_5, .inl (ak 0, 2, .inl (fun _ => 0))), (q_6, .inl (ak 0, 2, .inl (fun _ => 0))), (q_7, .inl (ak 0, 16, .inl (fun _ => 0)))] := hD
  refine lv_aload_n hx hb dX2_init_55 rfl (lv_at hl 0 rfl) ?_
  refine lv_bipush (v := 16) hx hb dX2_init_56 (by decide) ?_
  refine kn_a (atype := .int) (ty := .int) (a0 := (16, .inl (fun _ => 0))) (N' := 16) hx hb (hts (.arrayClass .int) (wm_c hw_267)) hE 0 rfl rfl (fun _ h => h) hP hD hS hA (fun cA => vp_cell_i cA 16 (fun _ => 0)) (by decide) (rfl) (by decide +kernel) (Nat.le_of_ble_eq_true rfl) (Nat.le_of_ble_eq_true rfl) dX2_init_58 (fun q_8 H hP hD hS => ?_)
  have hP : va_P D vwCl [(h0, .inr (2, [.int (0), .ref q_1, .ref q_2, .int (0), .ref q_3, .int (0), .ref q_4, .ref q_5, .ref q_6, .int (0), .ref q_7, .null, .null, .null, .null, .null, .null])), (q_1, .inl (ak 0, 4, .inl (fun _ => 0))), (q_2, .inl (ak 0, 4, .inl (fun _ => 0))), (q_3, .inl (ak 0, 6, .inl (fun _ => 0))), (q_4, .inl (ak 0, 2, .inl (fun _ => 0))), (q_5, .inl (ak 0, 2, .inl (fun _ => 0))), (q_6, .inl (ak 0, 2, .inl (fun _ => 0))), (q_7, .inl (ak 0, 16, .inl (fun _ => 0))), (q_8, .inl (ak 0, 16, .inl (fun _ => 0)))] H := hP
  have hD : va_D A [(h0, .inr (2, [.int (0), .ref q_1, .ref q_2, .int (0), .ref q_3, .int (0), .ref q_4, .ref q_5, .ref q_6, .int (0), .ref q_7, .null, .null, .null, .null, .null, .null])), (q_1, .inl (ak 0, 4, .inl (fun _ => 0))), (q_2, .inl (ak 0, 4, .inl (fun _ => 0))), (q_3, .inl (ak 0, 6, .inl (fun _ => 0))), (q_4, .inl (ak 0, 2, .inl (fun _ => 0))), (q_5, .inl (ak 0, 2, .inl (fun _ => 0))), (q_6, .inl (ak 0, 2, .inl (fun _ => 0))), (q_7, .inl (ak 0, 16, .inl (fun _ => 0))), (q_8, .inl (ak 0, 16, .inl (fun _ => 0)))] := hD
  refine W.widen (k := 8) (n := 52) (Nat.le_of_ble_eq_true rfl) (Nat.le_of_ble_eq_true rfl) ?_
  refine vt_putF (D := D) (ci := 2) (v := .ref q_8) (ty := .array .int) (C := RX2) (T := TX2) (N := 17) hx hb hts (fun w h => wm_c (wc_X2 w h)) tyX2 tyX2_ok nmX2 hown hE.1 hP hD hS 0 rfl rfl 11 (by decide) tX2_11 (hts (.fieldLink RX2 33 "WornLines$Programme" "stuffOf" "[I") (wm_c hw_279)) (fun _ h9 => h9) rfl hin rfl pf_5 rfl rfl (Nat.le_of_ble_eq_true rfl) dX2_init_60 (fun H locs hP hD hS => ?_)
  have hP : va_P D vwCl [(h0, .inr (2, [.int (0), .ref q_1, .ref q_2, .int (0), .ref q_3, .int (0), .ref q_4, .ref q_5, .ref q_6, .int (0), .ref q_7, .ref q_8, .null, .null, .null, .null, .null])), (q_1, .inl (ak 0, 4, .inl (fun _ => 0))), (q_2, .inl (ak 0, 4, .inl (fun _ => 0))), (q_3, .inl (ak 0, 6, .inl (fun _ => 0))), (q_4, .inl (ak 0, 2, .inl (fun _ => 0))), (q_5, .inl (ak 0, 2, .inl (fun _ => 0))), (q_6, .inl (ak 0, 2, .inl (fun _ => 0))), (q_7, .inl (ak 0, 16, .inl (fun _ => 0))), (q_8, .inl (ak 0, 16, .inl (fun _ => 0)))] H := hP
  have hD : va_D A [(h0, .inr (2, [.int (0), .ref q_1, .ref q_2, .int (0), .ref q_3, .int (0), .ref q_4, .ref q_5, .ref q_6, .int (0), .ref q_7, .ref q_8, .null, .null, .null, .null, .null])), (q_1, .inl (ak 0, 4, .inl (fun _ => 0))), (q_2, .inl (ak 0, 4, .inl (fun _ => 0))), (q_3, .inl (ak 0, 6, .inl (fun _ => 0))), (q_4, .inl (ak 0, 2, .inl (fun _ => 0))), (q_5, .inl (ak 0, 2, .inl (fun _ => 0))), (q_6, .inl (ak 0, 2, .inl (fun _ => 0))), (q_7, .inl (ak 0, 16, .inl (fun _ => 0))), (q_8, .inl (ak 0, 16, .inl (fun _ => 0)))] := hD
  refine lv_aload_n hx hb dX2_init_63 rfl (lv_at hl 0 rfl) ?_
  refine lv_bipush (v := 16) hx hb dX2_init_64 (by decide) ?_
  refine kn_a (atype := .int) (ty := .int) (a0 := (16, .inl (fun _ => 0))) (N' := 16) hx hb (hts (.arrayClass .int) (wm_c hw_267)) hE 0 rfl rfl (fun _ h => h) hP hD hS hA (fun cA => vp_cell_i cA 16 (fun _ => 0)) (by decide) (rfl) (by decide +kernel) (Nat.le_of_ble_eq_true rfl) (Nat.le_of_ble_eq_true rfl) dX2_init_66 (fun q_9 H hP hD hS => ?_)
  have hP : va_P D vwCl [(h0, .inr (2, [.int (0), .ref q_1, .ref q_2, .int (0), .ref q_3, .int (0), .ref q_4, .ref q_5, .ref q_6, .int (0), .ref q_7, .ref q_8, .null, .null, .null, .null, .null])), (q_1, .inl (ak 0, 4, .inl (fun _ => 0))), (q_2, .inl (ak 0, 4, .inl (fun _ => 0))), (q_3, .inl (ak 0, 6, .inl (fun _ => 0))), (q_4, .inl (ak 0, 2, .inl (fun _ => 0))), (q_5, .inl (ak 0, 2, .inl (fun _ => 0))), (q_6, .inl (ak 0, 2, .inl (fun _ => 0))), (q_7, .inl (ak 0, 16, .inl (fun _ => 0))), (q_8, .inl (ak 0, 16, .inl (fun _ => 0))), (q_9, .inl (ak 0, 16, .inl (fun _ => 0)))] H := hP
  have hD : va_D A [(h0, .inr (2, [.int (0), .ref q_1, .ref q_2, .int (0), .ref q_3, .int (0), .ref q_4, .ref q_5, .ref q_6, .int (0), .ref q_7, .ref q_8, .null, .null, .null, .null, .null])), (q_1, .inl (ak 0, 4, .inl (fun _ => 0))), (q_2, .inl (ak 0, 4, .inl (fun _ => 0))), (q_3, .inl (ak 0, 6, .inl (fun _ => 0))), (q_4, .inl (ak 0, 2, .inl (fun _ => 0))), (q_5, .inl (ak 0, 2, .inl (fun _ => 0))), (q_6, .inl (ak 0, 2, .inl (fun _ => 0))), (q_7, .inl (ak 0, 16, .inl (fun _ => 0))), (q_8, .inl (ak 0, 16, .inl (fun _ => 0))), (q_9, .inl (ak 0, 16, .inl (fun _ => 0)))] := hD
  refine W.widen (k := 9) (n := 68) (Nat.le_of_ble_eq_true rfl) (Nat.le_of_ble_eq_true rfl) ?_
  refine vt_putF (D := D) (ci := 2) (v := .ref q_9) (ty := .array .int) (C := RX2) (T := TX2) (N := 17) hx hb hts (fun w h => wm_c (wc_X2 w h)) tyX2 tyX2_ok nmX2 hown hE.1 hP hD hS 0 rfl rfl 12 (by decide) tX2_12 (hts (.fieldLink RX2 36 "WornLines$Programme" "target" "[I") (wm_c hw_280)) (fun _ h9 => h9) rfl hin rfl pf_5 rfl rfl (Nat.le_of_ble_eq_true rfl) dX2_init_68 (fun H locs hP hD hS => ?_)
  have hP : va_P D vwCl [(h0, .inr (2, [.int (0), .ref q_1, .ref q_2, .int (0), .ref q_3, .int (0), .ref q_4, .ref q_5, .ref q_6, .int (0), .ref q_7, .ref q_8, .ref q_9, .null, .null, .null, .null])), (q_1, .inl (ak 0, 4, .inl (fun _ => 0))), (q_2, .inl (ak 0, 4, .inl (fun _ => 0))), (q_3, .inl (ak 0, 6, .inl (fun _ => 0))), (q_4, .inl (ak 0, 2, .inl (fun _ => 0))), (q_5, .inl (ak 0, 2, .inl (fun _ => 0))), (q_6, .inl (ak 0, 2, .inl (fun _ => 0))), (q_7, .inl (ak 0, 16, .inl (fun _ => 0))), (q_8, .inl (ak 0, 16, .inl (fun _ => 0))), (q_9, .inl (ak 0, 16, .inl (fun _ => 0)))] H := hP
  have hD : va_D A [(h0, .inr (2, [.int (0), .ref q_1, .ref q_2, .int (0), .ref q_3, .int (0), .ref q_4, .ref q_5, .ref q_6, .int (0), .ref q_7, .ref q_8, .ref q_9, .null, .null, .null, .null])), (q_1, .inl (ak 0, 4, .inl (fun _ => 0))), (q_2, .inl (ak 0, 4, .inl (fun _ => 0))), (q_3, .inl (ak 0, 6, .inl (fun _ => 0))), (q_4, .inl (ak 0, 2, .inl (fun _ => 0))), (q_5, .inl (ak 0, 2, .inl (fun _ => 0))), (q_6, .inl (ak 0, 2, .inl (fun _ => 0))), (q_7, .inl (ak 0, 16, .inl (fun _ => 0))), (q_8, .inl (ak 0, 16, .inl (fun _ => 0))), (q_9, .inl (ak 0, 16, .inl (fun _ => 0)))] := hD
  refine lv_aload_n hx hb dX2_init_71 rfl (lv_at hl 0 rfl) ?_
  refine lv_bipush (v := 16) hx hb dX2_init_72 (by decide) ?_
  refine kn_a (atype := .int) (ty := .int) (a0 := (16, .inl (fun _ => 0))) (N' := 16) hx hb (hts (.arrayClass .int) (wm_c hw_267)) hE 0 rfl rfl (fun _ h => h) hP hD hS hA (fun cA => vp_cell_i cA 16 (fun _ => 0)) (by decide) (rfl) (by decide +kernel) (Nat.le_of_ble_eq_true rfl) (Nat.le_of_ble_eq_true rfl) dX2_init_74 (fun q_10 H hP hD hS => ?_)
  have hP : va_P D vwCl [(h0, .inr (2, [.int (0), .ref q_1, .ref q_2, .int (0), .ref q_3, .int (0), .ref q_4, .ref q_5, .ref q_6, .int (0), .ref q_7, .ref q_8, .ref q_9, .null, .null, .null, .null])), (q_1, .inl (ak 0, 4, .inl (fun _ => 0))), (q_2, .inl (ak 0, 4, .inl (fun _ => 0))), (q_3, .inl (ak 0, 6, .inl (fun _ => 0))), (q_4, .inl (ak 0, 2, .inl (fun _ => 0))), (q_5, .inl (ak 0, 2, .inl (fun _ => 0))), (q_6, .inl (ak 0, 2, .inl (fun _ => 0))), (q_7, .inl (ak 0, 16, .inl (fun _ => 0))), (q_8, .inl (ak 0, 16, .inl (fun _ => 0))), (q_9, .inl (ak 0, 16, .inl (fun _ => 0))), (q_10, .inl (ak 0, 16, .inl (fun _ => 0)))] H := hP
  have hD : va_D A [(h0, .inr (2, [.int (0), .ref q_1, .ref q_2, .int (0), .ref q_3, .int (0), .ref q_4, .ref q_5, .ref q_6, .int (0), .ref q_7, .ref q_8, .ref q_9, .null, .null, .null, .null])), (q_1, .inl (ak 0, 4, .inl (fun _ => 0))), (q_2, .inl (ak 0, 4, .inl (fun _ => 0))), (q_3, .inl (ak 0, 6, .inl (fun _ => 0))), (q_4, .inl (ak 0, 2, .inl (fun _ => 0))), (q_5, .inl (ak 0, 2, .inl (fun _ => 0))), (q_6, .inl (ak 0, 2, .inl (fun _ => 0))), (q_7, .inl (ak 0, 16, .inl (fun _ => 0))), (q_8, .inl (ak 0, 16, .inl (fun _ => 0))), (q_9, .inl (ak 0, 16, .inl (fun _ => 0))), (q_10, .inl (ak 0, 16, .inl (fun _ => 0)))] := hD
  refine W.widen (k := 10) (n := 84) (Nat.le_of_ble_eq_true rfl) (Nat.le_of_ble_eq_true rfl) ?_
  refine vt_putF (D := D) (ci := 2) (v := .ref q_10) (ty := .array .int) (C := RX2) (T := TX2) (N := 17) hx hb hts (fun w h => wm_c (wc_X2 w h)) tyX2 tyX2_ok nmX2 hown hE.1 hP hD hS 0 rfl rfl 13 (by decide) tX2_13 (hts (.fieldLink RX2 39 "WornLines$Programme" "from" "[I") (wm_c hw_281)) (fun _ h9 => h9) rfl hin rfl pf_5 rfl rfl (Nat.le_of_ble_eq_true rfl) dX2_init_76 (fun H locs hP hD hS => ?_)
  have hP : va_P D vwCl [(h0, .inr (2, [.int (0), .ref q_1, .ref q_2, .int (0), .ref q_3, .int (0), .ref q_4, .ref q_5, .ref q_6, .int (0), .ref q_7, .ref q_8, .ref q_9, .ref q_10, .null, .null, .null])), (q_1, .inl (ak 0, 4, .inl (fun _ => 0))), (q_2, .inl (ak 0, 4, .inl (fun _ => 0))), (q_3, .inl (ak 0, 6, .inl (fun _ => 0))), (q_4, .inl (ak 0, 2, .inl (fun _ => 0))), (q_5, .inl (ak 0, 2, .inl (fun _ => 0))), (q_6, .inl (ak 0, 2, .inl (fun _ => 0))), (q_7, .inl (ak 0, 16, .inl (fun _ => 0))), (q_8, .inl (ak 0, 16, .inl (fun _ => 0))), (q_9, .inl (ak 0, 16, .inl (fun _ => 0))), (q_10, .inl (ak 0, 16, .inl (fun _ => 0)))] H := hP
  have hD : va_D A [(h0, .inr (2, [.int (0), .ref q_1, .ref q_2, .int (0), .ref q_3, .int (0), .ref q_4, .ref q_5, .ref q_6, .int (0), .ref q_7, .ref q_8, .ref q_9, .ref q_10, .null, .null, .null])), (q_1, .inl (ak 0, 4, .inl (fun _ => 0))), (q_2, .inl (ak 0, 4, .inl (fun _ => 0))), (q_3, .inl (ak 0, 6, .inl (fun _ => 0))), (q_4, .inl (ak 0, 2, .inl (fun _ => 0))), (q_5, .inl (ak 0, 2, .inl (fun _ => 0))), (q_6, .inl (ak 0, 2, .inl (fun _ => 0))), (q_7, .inl (ak 0, 16, .inl (fun _ => 0))), (q_8, .inl (ak 0, 16, .inl (fun _ => 0))), (q_9, .inl (ak 0, 16, .inl (fun _ => 0))), (q_10, .inl (ak 0, 16, .inl (fun _ => 0)))] := hD
  refine lv_aload_n hx hb dX2_init_79 rfl (lv_at hl 0 rfl) ?_
  refine lv_bipush (v := 16) hx hb dX2_init_80 (by decide) ?_
  refine kn_a (atype := .int) (ty := .int) (a0 := (16, .inl (fun _ => 0))) (N' := 16) hx hb (hts (.arrayClass .int) (wm_c hw_267)) hE 0 rfl rfl (fun _ h => h) hP hD hS hA (fun cA => vp_cell_i cA 16 (fun _ => 0)) (by decide) (rfl) (by decide +kernel) (Nat.le_of_ble_eq_true rfl) (Nat.le_of_ble_eq_true rfl) dX2_init_82 (fun q_11 H hP hD hS => ?_)
  have hP : va_P D vwCl [(h0, .inr (2, [.int (0), .ref q_1, .ref q_2, .int (0), .ref q_3, .int (0), .ref q_4, .ref q_5, .ref q_6, .int (0), .ref q_7, .ref q_8, .ref q_9, .ref q_10, .null, .null, .null])), (q_1, .inl (ak 0, 4, .inl (fun _ => 0))), (q_2, .inl (ak 0, 4, .inl (fun _ => 0))), (q_3, .inl (ak 0, 6, .inl (fun _ => 0))), (q_4, .inl (ak 0, 2, .inl (fun _ => 0))), (q_5, .inl (ak 0, 2, .inl (fun _ => 0))), (q_6, .inl (ak 0, 2, .inl (fun _ => 0))), (q_7, .inl (ak 0, 16, .inl (fun _ => 0))), (q_8, .inl (ak 0, 16, .inl (fun _ => 0))), (q_9, .inl (ak 0, 16, .inl (fun _ => 0))), (q_10, .inl (ak 0, 16, .inl (fun _ => 0))), (q_11, .inl (ak 0, 16, .inl (fun _ => 0)))] H := hP
  have hD : va_D A [(h0, .inr (2, [.int (0), .ref q_1, .ref q_2, .int (0), .ref q_3, .int (0), .ref q_4, .ref q_5, .ref q_6, .int (0), .ref q_7, .ref q_8, .ref q_9, .ref q_10, .null, .null, .null])), (q_1, .inl (ak 0, 4, .inl (fun _ => 0))), (q_2, .inl (ak 0, 4, .inl (fun _ => 0))), (q_3, .inl (ak 0, 6, .inl (fun _ => 0))), (q_4, .inl (ak 0, 2, .inl (fun _ => 0))), (q_5, .inl (ak 0, 2, .inl (fun _ => 0))), (q_6, .inl (ak 0, 2, .inl (fun _ => 0))), (q_7, .inl (ak 0, 16, .inl (fun _ => 0))), (q_8, .inl (ak 0, 16, .inl (fun _ => 0))), (q_9, .inl (ak 0, 16, .inl (fun _ => 0))), (q_10, .inl (ak 0, 16, .inl (fun _ => 0))), (q_11, .inl (ak 0, 16, .inl (fun _ => 0)))] := hD
  refine W.widen (k := 11) (n := 100) (Nat.le_of_ble_eq_true rfl) (Nat.le_of_ble_eq_true rfl) ?_
  refine vt_putF (D := D) (ci := 2) (v := .ref q_11) (ty := .array .int) (C := RX2) (T := TX2) (N := 17) hx hb hts (fun w h => wm_c (wc_X2 w h)) tyX2 tyX2_ok nmX2 hown hE.1 hP hD hS 0 rfl rfl 14 (by decide) tX2_14 (hts (.fieldLink RX2 42 "WornLines$Programme" "middle" "[I") (wm_c hw_282)) (fun _ h9 => h9) rfl hin rfl pf_5 rfl rfl (Nat.le_of_ble_eq_true rfl) dX2_init_84 (fun H locs hP hD hS => ?_)
  have hP : va_P D vwCl [(h0, .inr (2, [.int (0), .ref q_1, .ref q_2, .int (0), .ref q_3, .int (0), .ref q_4, .ref q_5, .ref q_6, .int (0), .ref q_7, .ref q_8, .ref q_9, .ref q_10, .ref q_11, .null, .null])), (q_1, .inl (ak 0, 4, .inl (fun _ => 0))), (q_2, .inl (ak 0, 4, .inl (fun _ => 0))), (q_3, .inl (ak 0, 6, .inl (fun _ => 0))), (q_4, .inl (ak 0, 2, .inl (fun _ => 0))), (q_5, .inl (ak 0, 2, .inl (fun _ => 0))), (q_6, .inl (ak 0, 2, .inl (fun _ => 0))), (q_7, .inl (ak 0, 16, .inl (fun _ => 0))), (q_8, .inl (ak 0, 16, .inl (fun _ => 0))), (q_9, .inl (ak 0, 16, .inl (fun _ => 0))), (q_10, .inl (ak 0, 16, .inl (fun _ => 0))), (q_11, .inl (ak 0, 16, .inl (fun _ => 0)))] H := hP
  have hD : va_D A [(h0, .inr (2, [.int (0), .ref q_1, .ref q_2, .int (0), .ref q_3, .int (0), .ref q_4, .ref q_5, .ref q_6, .int (0), .ref q_7, .ref q_8, .ref q_9, .ref q_10, .ref q_11, .null, .null])), (q_1, .inl (ak 0, 4, .inl (fun _ => 0))), (q_2, .inl (ak 0, 4, .inl (fun _ => 0))), (q_3, .inl (ak 0, 6, .inl (fun _ => 0))), (q_4, .inl (ak 0, 2, .inl (fun _ => 0))), (q_5, .inl (ak 0, 2, .inl (fun _ => 0))), (q_6, .inl (ak 0, 2, .inl (fun _ => 0))), (q_7, .inl (ak 0, 16, .inl (fun _ => 0))), (q_8, .inl (ak 0, 16, .inl (fun _ => 0))), (q_9, .inl (ak 0, 16, .inl (fun _ => 0))), (q_10, .inl (ak 0, 16, .inl (fun _ => 0))), (q_11, .inl (ak 0, 16, .inl (fun _ => 0)))] := hD
  refine lv_aload_n hx hb dX2_init_87 rfl (lv_at hl 0 rfl) ?_
  refine lv_bipush (v := 16) hx hb dX2_init_88 (by decide) ?_
  refine kn_a (atype := .int) (ty := .int) (a0 := (16, .inl (fun _ => 0))) (N' := 16) hx hb (hts (.arrayClass .int) (wm_c hw_267)) hE 0 rfl rfl (fun _ h => h) hP hD hS hA (fun cA => vp_cell_i cA 16 (fun _ => 0)) (by decide) (rfl) (by decide +kernel) (Nat.le_of_ble_eq_true rfl) (Nat.le_of_ble_eq_true rfl) dX2_init_90 (fun q_12 H hP hD hS => ?_)
  have hP : va_P D vwCl [(h0, .inr (2, [.int (0), .ref q_1, .ref q_2, .int (0), .ref q_3, .int (0), .ref q_4, .ref q_5, .ref q_6, .int (0), .ref q_7, .ref q_8, .ref q_9, .ref q_10, .ref q_11, .null, .null])), (q_1, .inl (ak 0, 4, .inl (fun _ => 0))), (q_2, .inl (ak 0, 4, .inl (fun _ => 0))), (q_3, .inl (ak 0, 6, .inl (fun _ => 0))), (q_4, .inl (ak 0, 2, .inl (fun _ => 0))), (q_5, .inl (ak 0, 2, .inl (fun _ => 0))), (q_6, .inl (ak 0, 2, .inl (fun _ => 0))), (q_7, .inl (ak 0, 16, .inl (fun _ => 0))), (q_8, .inl (ak 0, 16, .inl (fun _ => 0))), (q_9, .inl (ak 0, 16, .inl (fun _ => 0))), (q_10, .inl (ak 0, 16, .inl (fun _ => 0))), (q_11, .inl (ak 0, 16, .inl (fun _ => 0))), (q_12, .inl (ak 0, 16, .inl (fun _ => 0)))] H := hP
  have hD : va_D A [(h0, .inr (2, [.int (0), .ref q_1, .ref q_2, .int (0), .ref q_3, .int (0), .ref q_4, .ref q_5, .ref q_6, .int (0), .ref q_7, .ref q_8, .ref q_9, .ref q_10, .ref q_11, .null, .null])), (q_1, .inl (ak 0, 4, .inl (fun _ => 0))), (q_2, .inl (ak 0, 4, .inl (fun _ => 0))), (q_3, .inl (ak 0, 6, .inl (fun _ => 0))), (q_4, .inl (ak 0, 2, .inl (fun _ => 0))), (q_5, .inl (ak 0, 2, .inl (fun _ => 0))), (q_6, .inl (ak 0, 2, .inl (fun _ => 0))), (q_7, .inl (ak 0, 16, .inl (fun _ => 0))), (q_8, .inl (ak 0, 16, .inl (fun _ => 0))), (q_9, .inl (ak 0, 16, .inl (fun _ => 0))), (q_10, .inl (ak 0, 16, .inl (fun _ => 0))), (q_11, .inl (ak 0, 16, .inl (fun _ => 0))), (q_12, .inl (ak 0, 16, .inl (fun _ => 0)))] := hD
  refine W.widen (k := 12) (n := 116) (Nat.le_of_ble_eq_true rfl) (Nat.le_of_ble_eq_true rfl) ?_
  refine vt_putF (D := D) (ci := 2) (v := .ref q_12) (ty := .array .int) (C := RX2) (T := TX2) (N := 17) hx hb hts (fun w h => wm_c (wc_X2 w h)) tyX2 tyX2_ok nmX2 hown hE.1 hP hD hS 0 rfl rfl 15 (by decide) tX2_15 (hts (.fieldLink RX2 45 "WornLines$Programme" "end" "[I") (wm_c hw_283)) (fun _ h9 => h9) rfl hin rfl pf_5 rfl rfl (Nat.le_of_ble_eq_true rfl) dX2_init_92 (fun H locs hP hD hS => ?_)
  have hP : va_P D vwCl [(h0, .inr (2, [.int (0), .ref q_1, .ref q_2, .int (0), .ref q_3, .int (0), .ref q_4, .ref q_5, .ref q_6, .int (0), .ref q_7, .ref q_8, .ref q_9, .ref q_10, .ref q_11, .ref q_12, .null])), (q_1, .inl (ak 0, 4, .inl (fun _ => 0))), (q_2, .inl (ak 0, 4, .inl (fun _ => 0))), (q_3, .inl (ak 0, 6, .inl (fun _ => 0))), (q_4, .inl (ak 0, 2, .inl (fun _ => 0))), (q_5, .inl (ak 0, 2, .inl (fun _ => 0))), (q_6, .inl (ak 0, 2, .inl (fun _ => 0))), (q_7, .inl (ak 0, 16, .inl (fun _ => 0))), (q_8, .inl (ak 0, 16, .inl (fun _ => 0))), (q_9, .inl (ak 0, 16, .inl (fun _ => 0))), (q_10, .inl (ak 0, 16, .inl (fun _ => 0))), (q_11, .inl (ak 0, 16, .inl (fun _ => 0))), (q_12, .inl (ak 0, 16, .inl (fun _ => 0)))] H := hP
  have hD : va_D A [(h0, .inr (2, [.int (0), .ref q_1, .ref q_2, .int (0), .ref q_3, .int (0), .ref q_4, .ref q_5, .ref q_6, .int (0), .ref q_7, .ref q_8, .ref q_9, .ref q_10, .ref q_11, .ref q_12, .null])), (q_1, .inl (ak 0, 4, .inl (fun _ => 0))), (q_2, .inl (ak 0, 4, .inl (fun _ => 0))), (q_3, .inl (ak 0, 6, .inl (fun _ => 0))), (q_4, .inl (ak 0, 2, .inl (fun _ => 0))), (q_5, .inl (ak 0, 2, .inl (fun _ => 0))), (q_6, .inl (ak 0, 2, .inl (fun _ => 0))), (q_7, .inl (ak 0, 16, .inl (fun _ => 0))), (q_8, .inl (ak 0, 16, .inl (fun _ => 0))), (q_9, .inl (ak 0, 16, .inl (fun _ => 0))), (q_10, .inl (ak 0, 16, .inl (fun _ => 0))), (q_11, .inl (ak 0, 16, .inl (fun _ => 0))), (q_12, .inl (ak 0, 16, .inl (fun _ => 0)))] := hD
  refine lv_aload_n hx hb dX2_init_95 rfl (lv_at hl 0 rfl) ?_
  refine lv_iconst (v := 0) hx hb dX2_init_96 (by decide) ?_
  refine kn_a (atype := .int) (ty := .int) (a0 := (0, .inl (fun _ => 0))) (N' := 0) hx hb (hts (.arrayClass .int) (wm_c hw_267)) hE 0 rfl rfl (fun _ h => h) hP hD hS hA (fun cA => vp_cell_i cA 0 (fun _ => 0)) (by decide) (rfl) (by decide +kernel) (Nat.le_of_ble_eq_true rfl) (Nat.le_of_ble_eq_true rfl) dX2_init_97 (fun q_13 H hP hD hS => ?_)
  have hP : va_P D vwCl [(h0, .inr (2, [.int (0), .ref q_1, .ref q_2, .int (0), .ref q_3, .int (0), .ref q_4, .ref q_5, .ref q_6, .int (0), .ref q_7, .ref q_8, .ref q_9, .ref q_10, .ref q_11, .ref q_12, .null])), (q_1, .inl (ak 0, 4, .inl (fun _ => 0))), (q_2, .inl (ak 0, 4, .inl (fun _ => 0))), (q_3, .inl (ak 0, 6, .inl (fun _ => 0))), (q_4, .inl (ak 0, 2, .inl (fun _ => 0))), (q_5, .inl (ak 0, 2, .inl (fun _ => 0))), (q_6, .inl (ak 0, 2, .inl (fun _ => 0))), (q_7, .inl (ak 0, 16, .inl (fun _ => 0))), (q_8, .inl (ak 0, 16, .inl (fun _ => 0))), (q_9, .inl (ak 0, 16, .inl (fun _ => 0))), (q_10, .inl (ak 0, 16, .inl (fun _ => 0))), (q_11, .inl (ak 0, 16, .inl (fun _ => 0))), (q_12, .inl (ak 0, 16, .inl (fun _ => 0))), (q_13, .inl (ak 0, 0, .inl (fun _ => 0)))] H := hP
  have hD : va_D A [(h0, .inr (2, [.int (0), .ref q_1, .ref q_2, .int (0), .ref q_3, .int (0), .ref q_4, .ref q_5, .ref q_6, .int (0), .ref q_7, .ref q_8, .ref q_9, .ref q_10, .ref q_11, .ref q_12, .null])), (q_1, .inl (ak 0, 4, .inl (fun _ => 0))), (q_2, .inl (ak 0, 4, .inl (fun _ => 0))), (q_3, .inl (ak 0, 6, .inl (fun _ => 0))), (q_4, .inl (ak 0, 2, .inl (fun _ => 0))), (q_5, .inl (ak 0, 2, .inl (fun _ => 0))), (q_6, .inl (ak 0, 2, .inl (fun _ => 0))), (q_7, .inl (ak 0, 16, .inl (fun _ => 0))), (q_8, .inl (ak 0, 16, .inl (fun _ => 0))), (q_9, .inl (ak 0, 16, .inl (fun _ => 0))), (q_10, .inl (ak 0, 16, .inl (fun _ => 0))), (q_11, .inl (ak 0, 16, .inl (fun _ => 0))), (q_12, .inl (ak 0, 16, .inl (fun _ => 0))), (q_13, .inl (ak 0, 0, .inl (fun _ => 0)))] := hD
  refine W.widen (k := 13) (n := 116) (Nat.le_of_ble_eq_true rfl) (Nat.le_of_ble_eq_true rfl) ?_
  refine va_put (D := D) (ci := 2) (v := .ref q_13) (ty := .array .int) (C := RX2) (T := TX2) (N := 17) hx hb hts (fun w h => wm_c (wc_X2 w h)) tyX2 tyX2_ok nmX2 hown hE.1 hP hD hS 0 rfl rfl 16 (by decide) (hts (.fieldLink RX2 48 "WornLines$Programme" "code" "[I") (wm_c hw_284)) (fun _ h9 => h9) rfl pf_5 rfl rfl (Nat.le_of_ble_eq_true rfl) dX2_init_99 (fun H locs hP hD hS => ?_)
  have hP : va_P D vwCl [(h0, .inr (2, [.int (0), .ref q_1, .ref q_2, .int (0), .ref q_3, .int (0), .ref q_4, .ref q_5, .ref q_6, .int (0), .ref q_7, .ref q_8, .ref q_9, .ref q_10, .ref q_11, .ref q_12, .ref q_13])), (q_1, .inl (ak 0, 4, .inl (fun _ => 0))), (q_2, .inl (ak 0, 4, .inl (fun _ => 0))), (q_3, .inl (ak 0, 6, .inl (fun _ => 0))), (q_4, .inl (ak 0, 2, .inl (fun _ => 0))), (q_5, .inl (ak 0, 2, .inl (fun _ => 0))), (q_6, .inl (ak 0, 2, .inl (fun _ => 0))), (q_7, .inl (ak 0, 16, .inl (fun _ => 0))), (q_8, .inl (ak 0, 16, .inl (fun _ => 0))), (q_9, .inl (ak 0, 16, .inl (fun _ => 0))), (q_10, .inl (ak 0, 16, .inl (fun _ => 0))), (q_11, .inl (ak 0, 16, .inl (fun _ => 0))), (q_12, .inl (ak 0, 16, .inl (fun _ => 0))), (q_13, .inl (ak 0, 0, .inl (fun _ => 0)))] H := hP
  have hD : va_D A [(h0, .inr (2, [.int (0), .ref q_1, .ref q_2, .int (0), .ref q_3, .int (0), .ref q_4, .ref q_5, .ref q_6, .int (0), .ref q_7, .ref q_8, .ref q_9, .ref q_10, .ref q_11, .ref q_12, .ref q_13])), (q_1, .inl (ak 0, 4, .inl (fun _ => 0))), (q_2, .inl (ak 0, 4, .inl (fun _ => 0))), (q_3, .inl (ak 0, 6, .inl (fun _ => 0))), (q_4, .inl (ak 0, 2, .inl (fun _ => 0))), (q_5, .inl (ak 0, 2, .inl (fun _ => 0))), (q_6, .inl (ak 0, 2, .inl (fun _ => 0))), (q_7, .inl (ak 0, 16, .inl (fun _ => 0))), (q_8, .inl (ak 0, 16, .inl (fun _ => 0))), (q_9, .inl (ak 0, 16, .inl (fun _ => 0))), (q_10, .inl (ak 0, 16, .inl (fun _ => 0))), (q_11, .inl (ak 0, 16, .inl (fun _ => 0))), (q_12, .inl (ak 0, 16, .inl (fun _ => 0))), (q_13, .inl (ak 0, 0, .inl (fun _ => 0)))] := hD
  have hP9 := hP.sub (ws' := [(h0, .inr (2, [.int (0), .ref q_1, .ref q_2, .int (0), .ref q_3, .int (0), .ref q_4, .ref q_5, .ref q_6, .int (0), .ref q_7, .ref q_8, .ref q_9, .ref q_10, .ref q_11, .ref q_12, .ref q_13])), (q_1, .inl (ak 0, 4, .inl (fun _ => 0))), (q_2, .inl (ak 0, 4, .inl (fun _ => 0))), (q_3, .inl (ak 0, 6, .inl (fun _ => 0))), (q_4, .inl (ak 0, 2, .inl (fun _ => 0))), (q_5, .inl (ak 0, 2, .inl (fun _ => 0))), (q_6, .inl (ak 0, 2, .inl (fun _ => 0))), (q_7, .inl (ak 0, 16, .inl (fun _ => 0))), (q_8, .inl (ak 0, 16, .inl (fun _ => 0))), (q_9, .inl (ak 0, 16, .inl (fun _ => 0))), (q_10, .inl (ak 0, 16, .inl (fun _ => 0))), (q_11, .inl (ak 0, 16, .inl (fun _ => 0))), (q_12, .inl (ak 0, 16, .inl (fun _ => 0))), (q_13, .inl (ak 0, 0, .inl (fun _ => 0)))]) [0, 1, 2, 3, 4, 5, 6, 7, 8, 9, 10, 11, 12, 13] rfl
  have hD9 := hD.sub (ws' := [(h0, .inr (2, [.int (0), .ref q_1, .ref q_2, .int (0), .ref q_3, .int (0), .ref q_4, .ref q_5, .ref q_6, .int (0), .ref q_7, .ref q_8, .ref q_9, .ref q_10, .ref q_11, .ref q_12, .ref q_13])), (q_1, .inl (ak 0, 4, .inl (fun _ => 0))), (q_2, .inl (ak 0, 4, .inl (fun _ => 0))), (q_3, .inl (ak 0, 6, .inl (fun _ => 0))), (q_4, .inl (ak 0, 2, .inl (fun _ => 0))), (q_5, .inl (ak 0, 2, .inl (fun _ => 0))), (q_6, .inl (ak 0, 2, .inl (fun _ => 0))), (q_7, .inl (ak 0, 16, .inl (fun _ => 0))), (q_8, .inl (ak 0, 16, .inl (fun _ => 0))), (q_9, .inl (ak 0, 16, .inl (fun _ => 0))), (q_10, .inl (ak 0, 16, .inl (fun _ => 0))), (q_11, .inl (ak 0, 16, .inl (fun _ => 0))), (q_12, .inl (ak 0, 16, .inl (fun _ => 0))), (q_13, .inl (ak 0, 0, .inl (fun _ => 0)))]) [0, 1, 2, 3, 4, 5, 6, 7, 8, 9, 10, 11, 12, 13] (by decide) rfl
  refine W.widen (k := 13) (n := 116) (Nat.le_of_ble_eq_true rfl) (Nat.le_of_ble_eq_true rfl) ?_
  exact W.vret hx hb hr (fun t ht hW => ⟨⟨((fun k => match k with | 0 => q_1 | 1 => q_2 | 2 => q_3 | 3 => q_4 | 4 => q_5 | 5 => q_6 | 6 => q_7 | 7 => q_8 | 8 => q_9 | 9 => q_10 | 10 => q_11 | 11 => q_12 | _ => q_13)), rfl, trivial, by rw [ht]; exact hP9, by rw [hAe]; exact hD9⟩, by rw [hAe]; exact hS.F ht⟩) hS.2.2 dX2_init_102

set_option maxHeartbeats 4000000 in
set_option maxRecDepth 100000 in
theorem c_X3_init (l : Launch) (D : va_G) (ak : Nat → ClassId) (ad : Nat → Nat) (sz : Nat) (h0 : Nat) (p0 : Nat) (p1 : Nat)  : Met l yX3_init wsX3_init ({ frames := 1, cells := 3, slots := 1010, locals := 12 }) (cPre D ak ad [.ref h0, .ref p0, .ref p1] ([(h0, .inr (3, [.null, .null, .null, .null, .int (0), .null, .int (0), .null, .int (0), .long (0), .int (0)]))]) sz) (cV D (S := (Nat → Nat)) (fun (u : (Nat → Nat)) => True) (fun u => [(h0, .inr (3, [.ref p0, .ref (u 0), .ref (u 1), .ref (u 2), .int (0), .ref p1, .int (0), .ref (ad 0), .int (0), .long (0), .int (0)])), (u 0, .inl (ak 1, 4, .inr (.inl (fun _ => 0)))), (u 1, .inl (ak 1, 6, .inr (.inl (fun _ => 0)))), (u 2, .inl (ak 0, 1000, .inl (fun _ => 0)))]) ([(h0, .inr (3, [.null, .null, .null, .null, .int (0), .null, .int (0), .null, .int (0), .long (0), .int (0)]))]) sz) 3 1010 (va_A ([(h0, .inr (3, [.null, .null, .null, .null, .int (0), .null, .int (0), .null, .int (0), .long (0), .int (0)]))]) sz) := by
  refine Met.ofW (cc := cX3_init) (maxL := 3) (ret := none) (by decide) rfl ?_
  intro p e s m args below meth c s₁ B hml hv
  obtain ⟨rfl, hsz, hP, hE, hD0, hT⟩ := hv
  have hx := B.exec
  have hb := B.bytes
  have hr := B.returns
  have hts := atoms_spec (ws := wsX3_init) B.pre
  have hown : s.vm.findClass RX3 = some m.cls := findClass_of_methodNamed B.named
  have hlocks := B.notSynchronized
  have hin : meth.name = "<init>" := (name_of_methodNamed B.named B.method).1
  subst hsz
  have hD := hD0.self (sz := s.heap.size)
  generalize hAe : va_A ([(h0, .inr (3, [.null, .null, .null, .null, .int (0), .null, .int (0), .null, .int (0), .long (0), .int (0)]))]) s.heap.size = A at hD hT ⊢
  have hA : ∀ q : Nat, s.heap.size ≤ q → A q := fun q h => by rw [← hAe]; exact Or.inr h
  have hS : va_S A s.heap s.heap [] := va_S.rf
  have hl := lv_entry ([.ref h0, .ref p0, .ref p1]) (n := 3) (Nat.le_of_ble_eq_true rfl)
  rw [lg_entry_eq]
  generalize (lg_sl ([.ref h0, .ref p0, .ref p1]) ++ List.replicate (3 - (lg_sl ([.ref h0, .ref p0, .ref p1])).length) Slot.unset).toArray = ls at hl ⊢
  have hl : lv_has ls 3 [(0, .ref h0), (1, .ref p0), (2, .ref p1)] := hl
  have hP : va_P D vwCl [(h0, .inr (3, [.null, .null, .null, .null, .int (0), .null, .int (0), .null, .int (0), .long (0), .int (0)]))] s.heap := hP
  refine lv_aload_n hx hb dX3_init_0 rfl (lv_at hl 0 rfl) ?_
  refine W.objInit hx hb hown (hts (.methodLink RX3 3 objectInit) (wm_c hw_285)) (hts (.instanceMethod objectInit) (wm_c hw_261)) (hts (.code objectInit ⟨#[0xb1]⟩ 1 none) (wm_c hw_262)) rfl (by rw [hml]; exact hl.1) rfl dX3_init_1 (Nat.le_of_ble_eq_true rfl) (Nat.le_of_ble_eq_true rfl) ?_
  refine W.eq (g2 := F0 m 4 ls ([])) rfl ?_
  refine lv_aload_n hx hb dX3_init_4 rfl (lv_at hl 0 rfl) ?_
  refine lv_iconst (v := 4) hx hb dX3_init_5 (by decide) ?_
  refine kn_a (atype := .long) (ty := .long) (a0 := (4, .inr (.inl (fun _ => 0)))) (N' := 4) hx hb (hts (.arrayClass .long) (wm_c hw_269)) hE 1 rfl rfl (fun _ h => h) hP hD hS hA (fun cA => vp_cell_l cA 4 (fun _ => 0)) (by decide) (rfl) (by decide +kernel) (Nat.le_of_ble_eq_true rfl) (Nat.le_of_ble_eq_true rfl) dX3_init_6 (fun q_1 H hP hD hS => ?_)
  have hP : va_P D vwCl [(h0, .inr (3, [.null, .null, .null, .null, .int (0), .null, .int (0), .null, .int (0), .long (0), .int (0)])), (q_1, .inl (ak 1, 4, .inr (.inl (fun _ => 0))))] H := hP
  have hD : va_D A [(h0, .inr (3, [.null, .null, .null, .null, .int (0), .null, .int (0), .null, .int (0), .long (0), .int (0)])), (q_1, .inl (ak 1, 4, .inr (.inl (fun _ => 0))))] := hD
  refine W.widen (k := 1) (n := 4) (Nat.le_of_ble_eq_true rfl) (Nat.le_of_ble_eq_true rfl) ?_
  refine vt_putF (D := D) (ci := 3) (v := .ref q_1) (ty := .array .long) (C := RX3) (T := TX3) (N := 11) hx hb hts (fun w h => wm_c (wc_X3 w h)) tyX3 tyX3_ok nmX3 hown hE.1 hP hD hS 0 rfl rfl 1 (by decide) tX3_1 (hts (.fieldLink RX3 9 "WornLines$Reader" "stuffNames" "[J") (wm_c hw_286)) (fun _ h9 => h9) rfl hin rfl pf_6 rfl rfl (Nat.le_of_ble_eq_true rfl) dX3_init_8 (fun H locs hP hD hS => ?_)
  have hP : va_P D vwCl [(h0, .inr (3, [.null, .ref q_1, .null, .null, .int (0), .null, .int (0), .null, .int (0), .long (0), .int (0)])), (q_1, .inl (ak 1, 4, .inr (.inl (fun _ => 0))))] H := hP
  have hD : va_D A [(h0, .inr (3, [.null, .ref q_1, .null, .null, .int (0), .null, .int (0), .null, .int (0), .long (0), .int (0)])), (q_1, .inl (ak 1, 4, .inr (.inl (fun _ => 0))))] := hD
  refine lv_aload_n hx hb dX3_init_11 rfl (lv_at hl 0 rfl) ?_
  refine lv_bipush (v := 6) hx hb dX3_init_12 (by decide) ?_
  refine kn_a (atype := .long) (ty := .long) (a0 := (6, .inr (.inl (fun _ => 0)))) (N' := 6) hx hb (hts (.arrayClass .long) (wm_c hw_269)) hE 1 rfl rfl (fun _ h => h) hP hD hS hA (fun cA => vp_cell_l cA 6 (fun _ => 0)) (by decide) (rfl) (by decide +kernel) (Nat.le_of_ble_eq_true rfl) (Nat.le_of_ble_eq_true rfl) dX3_init_14 (fun q_2 H hP hD hS => ?_)
  have hP : va_P D vwCl [(h0, .inr (3, [.null, .ref q_1, .null, .null, .int (0), .null, .int (0), .null, .int (0), .long (0), .int (0)])), (q_1, .inl (ak 1, 4, .inr (.inl (fun _ => 0)))), (q_2, .inl (ak 1, 6, .inr (.inl (fun _ => 0))))] H := hP
  have hD : va_D A [(h0, .inr (3, [.null, .ref q_1, .null, .null, .int (0), .null, .int (0), .null, .int (0), .long (0), .int (0)])), (q_1, .inl (ak 1, 4, .inr (.inl (fun _ => 0)))), (q_2, .inl (ak 1, 6, .inr (.inl (fun _ => 0))))] := hD
  refine W.widen (k := 2) (n := 10) (Nat.le_of_ble_eq_true rfl) (Nat.le_of_ble_eq_true rfl) ?_
  refine vt_putF (D := D) (ci := 3) (v := .ref q_2) (ty := .array .long) (C := RX3) (T := TX3) (N := 11) hx hb hts (fun w h => wm_c (wc_X3 w h)) tyX3 tyX3_ok nmX3 hown hE.1 hP hD hS 0 rfl rfl 2 (by decide) tX3_2 (hts (.fieldLink RX3 15 "WornLines$Reader" "cellNames" "[J") (wm_c hw_287)) (fun _ h9 => h9) rfl hin rfl pf_6 rfl rfl (Nat.le_of_ble_eq_true rfl) dX3_init_16 (fun H locs hP hD hS => ?_)
  have hP : va_P D vwCl [(h0, .inr (3, [.null, .ref q_1, .ref q_2, .null, .int (0), .null, .int (0), .null, .int (0), .long (0), .int (0)])), (q_1, .inl (ak 1, 4, .inr (.inl (fun _ => 0)))), (q_2, .inl (ak 1, 6, .inr (.inl (fun _ => 0))))] H := hP
  have hD : va_D A [(h0, .inr (3, [.null, .ref q_1, .ref q_2, .null, .int (0), .null, .int (0), .null, .int (0), .long (0), .int (0)])), (q_1, .inl (ak 1, 4, .inr (.inl (fun _ => 0)))), (q_2, .inl (ak 1, 6, .inr (.inl (fun _ => 0))))] := hD
  refine lv_aload_n hx hb dX3_init_19 rfl (lv_at hl 0 rfl) ?_
  refine lv_sipush (v := 1000) hx hb dX3_init_20 (by decide) ?_
  refine kn_a (atype := .int) (ty := .int) (a0 := (1000, .inl (fun _ => 0))) (N' := 1000) hx hb (hts (.arrayClass .int) (wm_c hw_267)) hE 0 rfl rfl (fun _ h => h) hP hD hS hA (fun cA => vp_cell_i cA 1000 (fun _ => 0)) (by decide) (rfl) (by decide +kernel) (Nat.le_of_ble_eq_true rfl) (Nat.le_of_ble_eq_true rfl) dX3_init_23 (fun q_3 H hP hD hS => ?_)
  have hP : va_P D vwCl [(h0, .inr (3, [.null, .ref q_1, .ref q_2, .null, .int (0), .null, .int (0), .null, .int (0), .long (0), .int (0)])), (q_1, .inl (ak 1, 4, .inr (.inl (fun _ => 0)))), (q_2, .inl (ak 1, 6, .inr (.inl (fun _ => 0)))), (q_3, .inl (ak 0, 1000, .inl (fun _ => 0)))] H := hP
  have hD : va_D A [(h0, .inr (3, [.null, .ref q_1, .ref q_2, .null, .int (0), .null, .int (0), .null, .int (0), .long (0), .int (0)])), (q_1, .inl (ak 1, 4, .inr (.inl (fun _ => 0)))), (q_2, .inl (ak 1, 6, .inr (.inl (fun _ => 0)))), (q_3, .inl (ak 0, 1000, .inl (fun _ => 0)))] := hD
  refine W.widen (k := 3) (n := 1010) (Nat.le_of_ble_eq_true rfl) (Nat.le_of_ble_eq_true rfl) ?_
  refine vt_putF (D := D) (ci := 3) (v := .ref q_3) (ty := .array .int) (C := RX3) (T := TX3) (N := 11) hx hb hts (fun w h => wm_c (wc_X3 w h)) tyX3 tyX3_ok nmX3 hown hE.1 hP hD hS 0 rfl rfl 3 (by decide) tX3_3 (hts (.fieldLink RX3 18 "WornLines$Reader" "code" "[I") (wm_c hw_288)) (fun _ h9 => h9) rfl hin rfl pf_5 rfl rfl (Nat.le_of_ble_eq_true rfl) dX3_init_25 (fun H locs hP hD hS => ?_)
  have hP : va_P D vwCl [(h0, .inr (3, [.null, .ref q_1, .ref q_2, .ref q_3, .int (0), .null, .int (0), .null, .int (0), .long (0), .int (0)])), (q_1, .inl (ak 1, 4, .inr (.inl (fun _ => 0)))), (q_2, .inl (ak 1, 6, .inr (.inl (fun _ => 0)))), (q_3, .inl (ak 0, 1000, .inl (fun _ => 0)))] H := hP
  have hD : va_D A [(h0, .inr (3, [.null, .ref q_1, .ref q_2, .ref q_3, .int (0), .null, .int (0), .null, .int (0), .long (0), .int (0)])), (q_1, .inl (ak 1, 4, .inr (.inl (fun _ => 0)))), (q_2, .inl (ak 1, 6, .inr (.inl (fun _ => 0)))), (q_3, .inl (ak 0, 1000, .inl (fun _ => 0)))] := hD
  refine lv_aload_n hx hb dX3_init_28 rfl (lv_at hl 0 rfl) ?_
  refine va_gets hx hb (hT.1 0 (by decide)).1 hS hown (hts (.fieldLink RX3 22 "WornLines$Token" "END" "LWornLines$Token;") (wm_c hw_289)) (fun _ h9 => h9) dX3_init_29 ?_
  refine vt_put (D := D) (ci := 3) (v := .ref (ad 0)) (ty := .object "WornLines$Token") (C := RX3) (T := TX3) (N := 11) hx hb hts (fun w h => wm_c (wc_X3 w h)) tyX3 tyX3_ok nmX3 hown hE.1 hP hD hS 0 rfl rfl 7 (by decide) tX3_7 (hts (.fieldLink RX3 28 "WornLines$Reader" "token" "LWornLines$Token;") (wm_c hw_290)) (fun _ h9 => h9) rfl pf_7 rfl rfl (Nat.le_of_ble_eq_true rfl) dX3_init_32 (fun H locs hP hD hS => ?_)
  have hP : va_P D vwCl [(h0, .inr (3, [.null, .ref q_1, .ref q_2, .ref q_3, .int (0), .null, .int (0), .ref (ad 0), .int (0), .long (0), .int (0)])), (q_1, .inl (ak 1, 4, .inr (.inl (fun _ => 0)))), (q_2, .inl (ak 1, 6, .inr (.inl (fun _ => 0)))), (q_3, .inl (ak 0, 1000, .inl (fun _ => 0)))] H := hP
  have hD : va_D A [(h0, .inr (3, [.null, .ref q_1, .ref q_2, .ref q_3, .int (0), .null, .int (0), .ref (ad 0), .int (0), .long (0), .int (0)])), (q_1, .inl (ak 1, 4, .inr (.inl (fun _ => 0)))), (q_2, .inl (ak 1, 6, .inr (.inl (fun _ => 0)))), (q_3, .inl (ak 0, 1000, .inl (fun _ => 0)))] := hD
  refine lv_aload_n hx hb dX3_init_35 rfl (lv_at hl 0 rfl) ?_
  refine lv_aload_n hx hb dX3_init_36 rfl (lv_at hl 1 rfl) ?_
  refine vt_putF (D := D) (ci := 3) (v := .ref p0) (ty := .object "WornLines$Tape") (C := RX3) (T := TX3) (N := 11) hx hb hts (fun w h => wm_c (wc_X3 w h)) tyX3 tyX3_ok nmX3 hown hE.1 hP hD hS 0 rfl rfl 0 (by decide) tX3_0 (hts (.fieldLink RX3 31 "WornLines$Reader" "tape" "LWornLines$Tape;") (wm_c hw_291)) (fun _ h9 => h9) rfl hin rfl pf_8 rfl rfl (Nat.le_of_ble_eq_true rfl) dX3_init_37 (fun H locs hP hD hS => ?_)
  have hP : va_P D vwCl [(h0, .inr (3, [.ref p0, .ref q_1, .ref q_2, .ref q_3, .int (0), .null, .int (0), .ref (ad 0), .int (0), .long (0), .int (0)])), (q_1, .inl (ak 1, 4, .inr (.inl (fun _ => 0)))), (q_2, .inl (ak 1, 6, .inr (.inl (fun _ => 0)))), (q_3, .inl (ak 0, 1000, .inl (fun _ => 0)))] H := hP
  have hD : va_D A [(h0, .inr (3, [.ref p0, .ref q_1, .ref q_2, .ref q_3, .int (0), .null, .int (0), .ref (ad 0), .int (0), .long (0), .int (0)])), (q_1, .inl (ak 1, 4, .inr (.inl (fun _ => 0)))), (q_2, .inl (ak 1, 6, .inr (.inl (fun _ => 0)))), (q_3, .inl (ak 0, 1000, .inl (fun _ => 0)))] := hD
  refine lv_aload_n hx hb dX3_init_40 rfl (lv_at hl 0 rfl) ?_
  refine lv_aload_n hx hb dX3_init_41 rfl (lv_at hl 2 rfl) ?_
  refine vt_put (D := D) (ci := 3) (v := .ref p1) (ty := .object "WornLines$Programme") (C := RX3) (T := TX3) (N := 11) hx hb hts (fun w h => wm_c (wc_X3 w h)) tyX3 tyX3_ok nmX3 hown hE.1 hP hD hS 0 rfl rfl 5 (by decide) tX3_5 (hts (.fieldLink RX3 35 "WornLines$Reader" "told" "LWornLines$Programme;") (wm_c hw_292)) (fun _ h9 => h9) rfl pf_9 rfl rfl (Nat.le_of_ble_eq_true rfl) dX3_init_42 (fun H locs hP hD hS => ?_)
  have hP : va_P D vwCl [(h0, .inr (3, [.ref p0, .ref q_1, .ref q_2, .ref q_3, .int (0), .ref p1, .int (0), .ref (ad 0), .int (0), .long (0), .int (0)])), (q_1, .inl (ak 1, 4, .inr (.inl (fun _ => 0)))), (q_2, .inl (ak 1, 6, .inr (.inl (fun _ => 0)))), (q_3, .inl (ak 0, 1000, .inl (fun _ => 0)))] H := hP
  have hD : va_D A [(h0, .inr (3, [.ref p0, .ref q_1, .ref q_2, .ref q_3, .int (0), .ref p1, .int (0), .ref (ad 0), .int (0), .long (0), .int (0)])), (q_1, .inl (ak 1, 4, .inr (.inl (fun _ => 0)))), (q_2, .inl (ak 1, 6, .inr (.inl (fun _ => 0)))), (q_3, .inl (ak 0, 1000, .inl (fun _ => 0)))] := hD
  have hP9 := hP.sub (ws' := [(h0, .inr (3, [.ref p0, .ref q_1, .ref q_2, .ref q_3, .int (0), .ref p1, .int (0), .ref (ad 0), .int (0), .long (0), .int (0)])), (q_1, .inl (ak 1, 4, .inr (.inl (fun _ => 0)))), (q_2, .inl (ak 1, 6, .inr (.inl (fun _ => 0)))), (q_3, .inl (ak 0, 1000, .inl (fun _ => 0)))]) [0, 1, 2, 3] rfl
  have hD9 := hD.sub (ws' := [(h0, .inr (3, [.ref p0, .ref q_1, .ref q_2, .ref q_3, .int (0), .ref p1, .int (0), .ref (ad 0), .int (0), .long (0), .int (0)])), (q_1, .inl (ak 1, 4, .inr (.inl (fun _ => 0)))), (q_2, .inl (ak 1, 6, .inr (.inl (fun _ => 0)))), (q_3, .inl (ak 0, 1000, .inl (fun _ => 0)))]) [0, 1, 2, 3] (by decide) rfl
  refine W.widen (k := 3) (n := 1010) (Nat.le_of_ble_eq_true rfl) (Nat.le_of_ble_eq_true rfl) ?_
  exact W.vret hx hb hr (fun t ht hW => ⟨⟨((fun k => match k with | 0 => q_1 | 1 => q_2 | _ => q_3)), rfl, trivial, by rw [ht]; exact hP9, by rw [hAe]; exact hD9⟩, by rw [hAe]; exact hS.F ht⟩) hS.2.2 dX3_init_45

set_option maxHeartbeats 4000000 in
set_option maxRecDepth 100000 in
theorem c_X1_init200 (l : Launch) (D : va_G) (ak : Nat → ClassId) (ad : Nat → Nat) (sz : Nat) (h0 : Nat) (p0 : Nat)  : Met l yX1_init wsX1_init ({ frames := 1, cells := 6, slots := 286, locals := 12 }) (cPre D ak ad [.ref h0, .ref p0, .int (200)] ([(h0, .inr (1, [.null, .null, .null, .null, .null, .null, .null, .int (0), .int (0), .int (0), .int (0), .int (0)]))]) sz) (cV D (S := (Nat → Nat)) (fun (u : (Nat → Nat)) => True) (fun u => [(h0, .inr (1, [.ref p0, .ref (u 0), .ref (u 1), .ref (u 2), .ref (u 3), .ref (u 4), .ref (u 5), .int (0), .int (0), .int (0), .int (0), .int (0)])), (u 0, .inl (ak 0, 16, .inl (fun _ => 0))), (u 1, .inl (ak 0, 16, .inl (fun _ => 0))), (u 2, .inl (ak 0, 16, .inl (fun _ => 0))), (u 3, .inl (ak 0, 6, .inl (fun _ => 0))), (u 4, .inl (ak 0, 200, .inl (fun _ => 0))), (u 5, .inl (ak 0, 32, .inl (fun _ => 0)))]) ([(h0, .inr (1, [.null, .null, .null, .null, .null, .null, .null, .int (0), .int (0), .int (0), .int (0), .int (0)]))]) sz) 6 286 (va_A ([(h0, .inr (1, [.null, .null, .null, .null, .null, .null, .null, .int (0), .int (0), .int (0), .int (0), .int (0)]))]) sz) := by
  refine Met.ofW (cc := cX1_init) (maxL := 3) (ret := none) (by decide) rfl ?_
  intro p e s m args below meth c s₁ B hml hv
  obtain ⟨rfl, hsz, hP, hE, hD0, hT⟩ := hv
  have hx := B.exec
  have hb := B.bytes
  have hr := B.returns
  have hts := atoms_spec (ws := wsX1_init) B.pre
  have hown : s.vm.findClass RX1 = some m.cls := findClass_of_methodNamed B.named
  have hlocks := B.notSynchronized
  have hin : meth.name = "<init>" := (name_of_methodNamed B.named B.method).1
  subst hsz
  have hD := hD0.self (sz := s.heap.size)
  generalize hAe : va_A ([(h0, .inr (1, [.null, .null, .null, .null, .null, .null, .null, .int (0), .int (0), .int (0), .int (0), .int (0)]))]) s.heap.size = A at hD hT ⊢
  have hA : ∀ q : Nat, s.heap.size ≤ q → A q := fun q h => by rw [← hAe]; exact Or.inr h
  have hS : va_S A s.heap s.heap [] := va_S.rf
  have hl := lv_entry ([.ref h0, .ref p0, .int (200)]) (n := 3) (Nat.le_of_ble_eq_true rfl)
  rw [lg_entry_eq]
  generalize (lg_sl ([.ref h0, .ref p0, .int (200)]) ++ List.replicate (3 - (lg_sl ([.ref h0, .ref p0, .int (200)])).length) Slot.unset).toArray = ls at hl ⊢
  have hl : lv_has ls 3 [(0, .ref h0), (1, .ref p0), (2, .int (200))] := hl
  have hP : va_P D vwCl [(h0, .inr (1, [.null, .null, .null, .null, .null, .null, .null, .int (0), .int (0), .int (0), .int (0), .int (0)]))] s.heap := hP
  refine lv_aload_n hx hb dX1_init_0 rfl (lv_at hl 0 rfl) ?_
  refine W.objInit hx hb hown (hts (.methodLink RX1 3 objectInit) (wm_c hw_293)) (hts (.instanceMethod objectInit) (wm_c hw_261)) (hts (.code objectInit ⟨#[0xb1]⟩ 1 none) (wm_c hw_262)) rfl (by rw [hml]; exact hl.1) rfl dX1_init_1 (Nat.le_of_ble_eq_true rfl) (Nat.le_of_ble_eq_true rfl) ?_
  refine W.eq (g2 := F0 m 4 ls ([])) rfl ?_
  refine lv_aload_n hx hb dX1_init_4 rfl (lv_at hl 0 rfl) ?_
  refine lv_bipush (v := 16) hx hb dX1_init_5 (by decide) ?_
  refine kn_a (atype := .int) (ty := .int) (a0 := (16, .inl (fun _ => 0))) (N' := 16) hx hb (hts (.arrayClass .int) (wm_c hw_267)) hE 0 rfl rfl (fun _ h => h) hP hD hS hA (fun cA => vp_cell_i cA 16 (fun _ => 0)) (by decide) (rfl) (by decide +kernel) (Nat.le_of_ble_eq_true rfl) (Nat.le_of_ble_eq_true rfl) dX1_init_7 (fun q_1 H hP hD hS => ?_)
  have hP : va_P D vwCl [(h0, .inr (1, [.null, .null, .null, .null, .null, .null, .null, .int (0), .int (0), .int (0), .int (0), .int (0)])), (q_1, .inl (ak 0, 16, .inl (fun _ => 0)))] H := hP
  have hD : va_D A [(h0, .inr (1, [.null, .null, .null, .null, .null, .null, .null, .int (0), .int (0), .int (0), .int (0), .int (0)])), (q_1, .inl (ak 0, 16, .inl (fun _ => 0)))] := hD
  refine W.widen (k := 1) (n := 16) (Nat.le_of_ble_eq_true rfl) (Nat.le_of_ble_eq_true rfl) ?_
  refine vt_putF (D := D) (ci := 1) (v := .ref q_1) (ty := .array .int) (C := RX1) (T := TX1) (N := 12) hx hb hts (fun w h => wm_c (wc_X1 w h)) tyX1 tyX1_ok nmX1 hown hE.1 hP hD hS 0 rfl rfl 1 (by decide) tX1_1 (hts (.fieldLink RX1 9 "WornLines$Machine" "stuffs" "[I") (wm_c hw_294)) (fun _ h9 => h9) rfl hin rfl pf_5 rfl rfl (Nat.le_of_ble_eq_true rfl) dX1_init_9 (fun H locs hP hD hS => ?_)
  have hP : va_P D vwCl [(h0, .inr (1, [.null, .ref q_1, .null, .null, .null, .null, .null, .int (0), .int (0), .int (0), .int (0), .int (0)])), (q_1, .inl (ak 0, 16, .inl (fun _ => 0)))] H := hP
  have hD : va_D A [(h0, .inr (1, [.null, .ref q_1, .null, .null, .null, .null, .null, .int (0), .int (0), .int (0), .int (0), .int (0)])), (q_1, .inl (ak 0, 16, .inl (fun _ => 0)))] := hD
  refine lv_aload_n hx hb dX1_init_12 rfl (lv_at hl 0 rfl) ?_
  refine lv_bipush (v := 16) hx hb dX1_init_13 (by decide) ?_
  refine kn_a (atype := .int) (ty := .int) (a0 := (16, .inl (fun _ => 0))) (N' := 16) hx hb (hts (.arrayClass .int) (wm_c hw_267)) hE 0 rfl rfl (fun _ h => h) hP hD hS hA (fun cA => vp_cell_i cA 16 (fun _ => 0)) (by decide) (rfl) (by decide +kernel) (Nat.le_of_ble_eq_true rfl) (Nat.le_of_ble_eq_true rfl) dX1_init_15 (fun q_2 H hP hD hS => ?_)
  have hP : va_P D vwCl [(h0, .inr (1, [.null, .ref q_1, .null, .null, .null, .null, .null, .int (0), .int (0), .int (0), .int (0), .int (0)])), (q_1, .inl (ak 0, 16, .inl (fun _ => 0))), (q_2, .inl (ak 0, 16, .inl (fun _ => 0)))] H := hP
  have hD : va_D A [(h0, .inr (1, [.null, .ref q_1, .null, .null, .null, .null, .null, .int (0), .int (0), .int (0), .int (0), .int (0)])), (q_1, .inl (ak 0, 16, .inl (fun _ => 0))), (q_2, .inl (ak 0, 16, .inl (fun _ => 0)))] := hD
  refine W.widen (k := 2) (n := 32) (Nat.le_of_ble_eq_true rfl) (Nat.le_of_ble_eq_true rfl) ?_
  refine vt_putF (D := D) (ci := 1) (v := .ref q_2) (ty := .array .int) (C := RX1) (T := TX1) (N := 12) hx hb hts (fun w h => wm_c (wc_X1 w h)) tyX1 tyX1_ok nmX1 hown hE.1 hP hD hS 0 rfl rfl 2 (by decide) tX1_2 (hts (.fieldLink RX1 15 "WornLines$Machine" "twins" "[I") (wm_c hw_295)) (fun _ h9 => h9) rfl hin rfl pf_5 rfl rfl (Nat.le_of_ble_eq_true rfl) dX1_init_17 (fun H locs hP hD hS => ?_)
  have hP : va_P D vwCl [(h0, .inr (1, [.null, .ref q_1, .ref q_2, .null, .null, .null, .null, .int (0), .int (0), .int (0), .int (0), .int (0)])), (q_1, .inl (ak 0, 16, .inl (fun _ => 0))), (q_2, .inl (ak 0, 16, .inl (fun _ => 0)))] H := hP
  have hD : va_D A [(h0, .inr (1, [.null, .ref q_1, .ref q_2, .null, .null, .null, .null, .int (0), .int (0), .int (0), .int (0), .int (0)])), (q_1, .inl (ak 0, 16, .inl (fun _ => 0))), (q_2, .inl (ak 0, 16, .inl (fun _ => 0)))] := hD
  refine lv_aload_n hx hb dX1_init_20 rfl (lv_at hl 0 rfl) ?_
  refine lv_bipush (v := 16) hx hb dX1_init_21 (by decide) ?_
  refine kn_a (atype := .int) (ty := .int) (a0 := (16, .inl (fun _ => 0))) (N' := 16) hx hb (hts (.arrayClass .int) (wm_c hw_267)) hE 0 rfl rfl (fun _ h => h) hP hD hS hA (fun cA => vp_cell_i cA 16 (fun _ => 0)) (by decide) (rfl) (by decide +kernel) (Nat.le_of_ble_eq_true rfl) (Nat.le_of_ble_eq_true rfl) dX1_init_23 (fun q_3 H hP hD hS => ?_)
  have hP : va_P D vwCl [(h0, .inr (1, [.null, .ref q_1, .ref q_2, .null, .null, .null, .null, .int (0), .int (0), .int (0), .int (0), .int (0)])), (q_1, .inl (ak 0, 16, .inl (fun _ => 0))), (q_2, .inl (ak 0, 16, .inl (fun _ => 0))), (q_3, .inl (ak 0, 16, .inl (fun _ => 0)))] H := hP
  have hD : va_D A [(h0, .inr (1, [.null, .ref q_1, .ref q_2, .null, .null, .null, .null, .int (0), .int (0), .int (0), .int (0), .int (0)])), (q_1, .inl (ak 0, 16, .inl (fun _ => 0))), (q_2, .inl (ak 0, 16, .inl (fun _ => 0))), (q_3, .inl (ak 0, 16, .inl (fun _ => 0)))] := hD
  refine W.widen (k := 3) (n := 48) (Nat.le_of_ble_eq_true rfl) (Nat.le_of_ble_eq_true rfl) ?_
  refine vt_putF (D := D) (ci := 1) (v := .ref q_3) (ty := .array .int) (C := RX1) (T := TX1) (N := 12) hx hb hts (fun w h => wm_c (wc_X1 w h)) tyX1 tyX1_ok nmX1 hown hE.1 hP hD hS 0 rfl rfl 3 (by decide) tX1_3 (hts (.fieldLink RX1 18 "WornLines$Machine" "worn" "[I") (wm_c hw_296)) (fun _ h9 => h9) rfl hin rfl pf_5 rfl rfl (Nat.le_of_ble_eq_true rfl) dX1_init_25 (fun H locs hP hD hS => ?_)
  have hP : va_P D vwCl [(h0, .inr (1, [.null, .ref q_1, .ref q_2, .ref q_3, .null, .null, .null, .int (0), .int (0), .int (0), .int (0), .int (0)])), (q_1, .inl (ak 0, 16, .inl (fun _ => 0))), (q_2, .inl (ak 0, 16, .inl (fun _ => 0))), (q_3, .inl (ak 0, 16, .inl (fun _ => 0)))] H := hP
  have hD : va_D A [(h0, .inr (1, [.null, .ref q_1, .ref q_2, .ref q_3, .null, .null, .null, .int (0), .int (0), .int (0), .int (0), .int (0)])), (q_1, .inl (ak 0, 16, .inl (fun _ => 0))), (q_2, .inl (ak 0, 16, .inl (fun _ => 0))), (q_3, .inl (ak 0, 16, .inl (fun _ => 0)))] := hD
  refine lv_aload_n hx hb dX1_init_28 rfl (lv_at hl 0 rfl) ?_
  refine lv_bipush (v := 6) hx hb dX1_init_29 (by decide) ?_
  refine kn_a (atype := .int) (ty := .int) (a0 := (6, .inl (fun _ => 0))) (N' := 6) hx hb (hts (.arrayClass .int) (wm_c hw_267)) hE 0 rfl rfl (fun _ h => h) hP hD hS hA (fun cA => vp_cell_i cA 6 (fun _ => 0)) (by decide) (rfl) (by decide +kernel) (Nat.le_of_ble_eq_true rfl) (Nat.le_of_ble_eq_true rfl) dX1_init_31 (fun q_4 H hP hD hS => ?_)
  have hP : va_P D vwCl [(h0, .inr (1, [.null, .ref q_1, .ref q_2, .ref q_3, .null, .null, .null, .int (0), .int (0), .int (0), .int (0), .int (0)])), (q_1, .inl (ak 0, 16, .inl (fun _ => 0))), (q_2, .inl (ak 0, 16, .inl (fun _ => 0))), (q_3, .inl (ak 0, 16, .inl (fun _ => 0))), (q_4, .inl (ak 0, 6, .inl (fun _ => 0)))] H := hP
  have hD : va_D A [(h0, .inr (1, [.null, .ref q_1, .ref q_2, .ref q_3, .null, .null, .null, .int (0), .int (0), .int (0), .int (0), .int (0)])), (q_1, .inl (ak 0, 16, .inl (fun _ => 0))), (q_2, .inl (ak 0, 16, .inl (fun _ => 0))), (q_3, .inl (ak 0, 16, .inl (fun _ => 0))), (q_4, .inl (ak 0, 6, .inl (fun _ => 0)))] := hD
  refine W.widen (k := 4) (n := 54) (Nat.le_of_ble_eq_true rfl) (Nat.le_of_ble_eq_true rfl) ?_
  refine vt_putF (D := D) (ci := 1) (v := .ref q_4) (ty := .array .int) (C := RX1) (T := TX1) (N := 12) hx hb hts (fun w h => wm_c (wc_X1 w h)) tyX1 tyX1_ok nmX1 hown hE.1 hP hD hS 0 rfl rfl 4 (by decide) tX1_4 (hts (.fieldLink RX1 21 "WornLines$Machine" "cells" "[I") (wm_c hw_297)) (fun _ h9 => h9) rfl hin rfl pf_5 rfl rfl (Nat.le_of_ble_eq_true rfl) dX1_init_33 (fun H locs hP hD hS => ?_)
  have hP : va_P D vwCl [(h0, .inr (1, [.null, .ref q_1, .ref q_2, .ref q_3, .ref q_4, .null, .null, .int (0), .int (0), .int (0), .int (0), .int (0)])), (q_1, .inl (ak 0, 16, .inl (fun _ => 0))), (q_2, .inl (ak 0, 16, .inl (fun _ => 0))), (q_3, .inl (ak 0, 16, .inl (fun _ => 0))), (q_4, .inl (ak 0, 6, .inl (fun _ => 0)))] H := hP
  have hD : va_D A [(h0, .inr (1, [.null, .ref q_1, .ref q_2, .ref q_3, .ref q_4, .null, .null, .int (0), .int (0), .int (0), .int (0), .int (0)])), (q_1, .inl (ak 0, 16, .inl (fun _ => 0))), (q_2, .inl (ak 0, 16, .inl (fun _ => 0))), (q_3, .inl (ak 0, 16, .inl (fun _ => 0))), (q_4, .inl (ak 0, 6, .inl (fun _ => 0)))] := hD
  refine lv_aload_n hx hb dX1_init_36 rfl (lv_at hl 0 rfl) ?_
  refine lv_bipush (v := 32) hx hb dX1_init_37 (by decide) ?_
  refine kn_a (atype := .int) (ty := .int) (a0 := (32, .inl (fun _ => 0))) (N' := 32) hx hb (hts (.arrayClass .int) (wm_c hw_267)) hE 0 rfl rfl (fun _ h => h) hP hD hS hA (fun cA => vp_cell_i cA 32 (fun _ => 0)) (by decide) (rfl) (by decide +kernel) (Nat.le_of_ble_eq_true rfl) (Nat.le_of_ble_eq_true rfl) dX1_init_39 (fun q_5 H hP hD hS => ?_)
  have hP : va_P D vwCl [(h0, .inr (1, [.null, .ref q_1, .ref q_2, .ref q_3, .ref q_4, .null, .null, .int (0), .int (0), .int (0), .int (0), .int (0)])), (q_1, .inl (ak 0, 16, .inl (fun _ => 0))), (q_2, .inl (ak 0, 16, .inl (fun _ => 0))), (q_3, .inl (ak 0, 16, .inl (fun _ => 0))), (q_4, .inl (ak 0, 6, .inl (fun _ => 0))), (q_5, .inl (ak 0, 32, .inl (fun _ => 0)))] H := hP
  have hD : va_D A [(h0, .inr (1, [.null, .ref q_1, .ref q_2, .ref q_3, .ref q_4, .null, .null, .int (0), .int (0), .int (0), .int (0), .int (0)])), (q_1, .inl (ak 0, 16, .inl (fun _ => 0))), (q_2, .inl (ak 0, 16, .inl (fun _ => 0))), (q_3, .inl (ak 0, 16, .inl (fun _ => 0))), (q_4, .inl (ak 0, 6, .inl (fun _ => 0))), (q_5, .inl (ak 0, 32, .inl (fun _ => 0)))] := hD
  refine W.widen (k := 5) (n := 86) (Nat.le_of_ble_eq_true rfl) (Nat.le_of_ble_eq_true rfl) ?_
  refine vt_putF (D := D) (ci := 1) (v := .ref q_5) (ty := .array .int) (C := RX1) (T := TX1) (N := 12) hx hb hts (fun w h => wm_c (wc_X1 w h)) tyX1 tyX1_ok nmX1 hown hE.1 hP hD hS 0 rfl rfl 6 (by decide) tX1_6 (hts (.fieldLink RX1 24 "WornLines$Machine" "stack" "[I") (wm_c hw_298)) (fun _ h9 => h9) rfl hin rfl pf_5 rfl rfl (Nat.le_of_ble_eq_true rfl) dX1_init_41 (fun H locs hP hD hS => ?_)
  have hP : va_P D vwCl [(h0, .inr (1, [.null, .ref q_1, .ref q_2, .ref q_3, .ref q_4, .null, .ref q_5, .int (0), .int (0), .int (0), .int (0), .int (0)])), (q_1, .inl (ak 0, 16, .inl (fun _ => 0))), (q_2, .inl (ak 0, 16, .inl (fun _ => 0))), (q_3, .inl (ak 0, 16, .inl (fun _ => 0))), (q_4, .inl (ak 0, 6, .inl (fun _ => 0))), (q_5, .inl (ak 0, 32, .inl (fun _ => 0)))] H := hP
  have hD : va_D A [(h0, .inr (1, [.null, .ref q_1, .ref q_2, .ref q_3, .ref q_4, .null, .ref q_5, .int (0), .int (0), .int (0), .int (0), .int (0)])), (q_1, .inl (ak 0, 16, .inl (fun _ => 0))), (q_2, .inl (ak 0, 16, .inl (fun _ => 0))), (q_3, .inl (ak 0, 16, .inl (fun _ => 0))), (q_4, .inl (ak 0, 6, .inl (fun _ => 0))), (q_5, .inl (ak 0, 32, .inl (fun _ => 0)))] := hD
  refine lv_aload_n hx hb dX1_init_44 rfl (lv_at hl 0 rfl) ?_
  refine lv_iconst (v := 0) hx hb dX1_init_45 (by decide) ?_
  refine vt_put (D := D) (ci := 1) (v := .int (0)) (ty := .int) (C := RX1) (T := TX1) (N := 12) hx hb hts (fun w h => wm_c (wc_X1 w h)) tyX1 tyX1_ok nmX1 hown hE.1 hP hD hS 0 rfl rfl 7 (by decide) tX1_7 (hts (.fieldLink RX1 27 "WornLines$Machine" "way" "I") (wm_c hw_299)) (fun _ h9 => h9) rfl pf_0 rfl rfl (Nat.le_of_ble_eq_true rfl) dX1_init_46 (fun H locs hP hD hS => ?_)
  have hP : va_P D vwCl [(h0, .inr (1, [.null, .ref q_1, .ref q_2, .ref q_3, .ref q_4, .null, .ref q_5, .int (0), .int (0), .int (0), .int (0), .int (0)])), (q_1, .inl (ak 0, 16, .inl (fun _ => 0))), (q_2, .inl (ak 0, 16, .inl (fun _ => 0))), (q_3, .inl (ak 0, 16, .inl (fun _ => 0))), (q_4, .inl (ak 0, 6, .inl (fun _ => 0))), (q_5, .inl (ak 0, 32, .inl (fun _ => 0)))] H := hP
  have hD : va_D A [(h0, .inr (1, [.null, .ref q_1, .ref q_2, .ref q_3, .ref q_4, .null, .ref q_5, .int (0), .int (0), .int (0), .int (0), .int (0)])), (q_1, .inl (ak 0, 16, .inl (fun _ => 0))), (q_2, .inl (ak 0, 16, .inl (fun _ => 0))), (q_3, .inl (ak 0, 16, .inl (fun _ => 0))), (q_4, .inl (ak 0, 6, .inl (fun _ => 0))), (q_5, .inl (ak 0, 32, .inl (fun _ => 0)))] := hD
  refine lv_aload_n hx hb dX1_init_49 rfl (lv_at hl 0 rfl) ?_
  refine lv_iconst (v := 0) hx hb dX1_init_50 (by decide) ?_
  refine vt_put (D := D) (ci := 1) (v := .int (0)) (ty := .int) (C := RX1) (T := TX1) (N := 12) hx hb hts (fun w h => wm_c (wc_X1 w h)) tyX1 tyX1_ok nmX1 hown hE.1 hP hD hS 0 rfl rfl 8 (by decide) tX1_8 (hts (.fieldLink RX1 31 "WornLines$Machine" "state" "I") (wm_c hw_300)) (fun _ h9 => h9) rfl pf_0 rfl rfl (Nat.le_of_ble_eq_true rfl) dX1_init_51 (fun H locs hP hD hS => ?_)
  have hP : va_P D vwCl [(h0, .inr (1, [.null, .ref q_1, .ref q_2, .ref q_3, .ref q_4, .null, .ref q_5, .int (0), .int (0), .int (0), .int (0), .int (0)])), (q_1, .inl (ak 0, 16, .inl (fun _ => 0))), (q_2, .inl (ak 0, 16, .inl (fun _ => 0))), (q_3, .inl (ak 0, 16, .inl (fun _ => 0))), (q_4, .inl (ak 0, 6, .inl (fun _ => 0))), (q_5, .inl (ak 0, 32, .inl (fun _ => 0)))] H := hP
  have hD : va_D A [(h0, .inr (1, [.null, .ref q_1, .ref q_2, .ref q_3, .ref q_4, .null, .ref q_5, .int (0), .int (0), .int (0), .int (0), .int (0)])), (q_1, .inl (ak 0, 16, .inl (fun _ => 0))), (q_2, .inl (ak 0, 16, .inl (fun _ => 0))), (q_3, .inl (ak 0, 16, .inl (fun _ => 0))), (q_4, .inl (ak 0, 6, .inl (fun _ => 0))), (q_5, .inl (ak 0, 32, .inl (fun _ => 0)))] := hD
  refine lv_aload_n hx hb dX1_init_54 rfl (lv_at hl 0 rfl) ?_
  refine lv_aload_n hx hb dX1_init_55 rfl (lv_at hl 1 rfl) ?_
  refine vt_put (D := D) (ci := 1) (v := .ref p0) (ty := .object "WornLines$Programme") (C := RX1) (T := TX1) (N := 12) hx hb hts (fun w h => wm_c (wc_X1 w h)) tyX1 tyX1_ok nmX1 hown hE.1 hP hD hS 0 rfl rfl 0 (by decide) tX1_0 (hts (.fieldLink RX1 34 "WornLines$Machine" "programme" "LWornLines$Programme;") (wm_c hw_301)) (fun _ h9 => h9) rfl pf_9 rfl rfl (Nat.le_of_ble_eq_true rfl) dX1_init_56 (fun H locs hP hD hS => ?_)
  have hP : va_P D vwCl [(h0, .inr (1, [.ref p0, .ref q_1, .ref q_2, .ref q_3, .ref q_4, .null, .ref q_5, .int (0), .int (0), .int (0), .int (0), .int (0)])), (q_1, .inl (ak 0, 16, .inl (fun _ => 0))), (q_2, .inl (ak 0, 16, .inl (fun _ => 0))), (q_3, .inl (ak 0, 16, .inl (fun _ => 0))), (q_4, .inl (ak 0, 6, .inl (fun _ => 0))), (q_5, .inl (ak 0, 32, .inl (fun _ => 0)))] H := hP
  have hD : va_D A [(h0, .inr (1, [.ref p0, .ref q_1, .ref q_2, .ref q_3, .ref q_4, .null, .ref q_5, .int (0), .int (0), .int (0), .int (0), .int (0)])), (q_1, .inl (ak 0, 16, .inl (fun _ => 0))), (q_2, .inl (ak 0, 16, .inl (fun _ => 0))), (q_3, .inl (ak 0, 16, .inl (fun _ => 0))), (q_4, .inl (ak 0, 6, .inl (fun _ => 0))), (q_5, .inl (ak 0, 32, .inl (fun _ => 0)))] := hD
  refine lv_aload_n hx hb dX1_init_59 rfl (lv_at hl 0 rfl) ?_
  refine lv_iload_n hx hb dX1_init_60 rfl (lv_at hl 2 rfl) ?_
  refine kn_a (atype := .int) (ty := .int) (a0 := (200, .inl (fun _ => 0))) (N' := 200) hx hb (hts (.arrayClass .int) (wm_c hw_267)) hE 0 rfl rfl (fun _ h => h) hP hD hS hA (fun cA => vp_cell_i cA 200 (fun _ => 0)) (by decide) (rfl) (by decide +kernel) (Nat.le_of_ble_eq_true rfl) (Nat.le_of_ble_eq_true rfl) dX1_init_61 (fun q_6 H hP hD hS => ?_)
  have hP : va_P D vwCl [(h0, .inr (1, [.ref p0, .ref q_1, .ref q_2, .ref q_3, .ref q_4, .null, .ref q_5, .int (0), .int (0), .int (0), .int (0), .int (0)])), (q_1, .inl (ak 0, 16, .inl (fun _ => 0))), (q_2, .inl (ak 0, 16, .inl (fun _ => 0))), (q_3, .inl (ak 0, 16, .inl (fun _ => 0))), (q_4, .inl (ak 0, 6, .inl (fun _ => 0))), (q_5, .inl (ak 0, 32, .inl (fun _ => 0))), (q_6, .inl (ak 0, 200, .inl (fun _ => 0)))] H := hP
  have hD : va_D A [(h0, .inr (1, [.ref p0, .ref q_1, .ref q_2, .ref q_3, .ref q_4, .null, .ref q_5, .int (0), .int (0), .int (0), .int (0), .int (0)])), (q_1, .inl (ak 0, 16, .inl (fun _ => 0))), (q_2, .inl (ak 0, 16, .inl (fun _ => 0))), (q_3, .inl (ak 0, 16, .inl (fun _ => 0))), (q_4, .inl (ak 0, 6, .inl (fun _ => 0))), (q_5, .inl (ak 0, 32, .inl (fun _ => 0))), (q_6, .inl (ak 0, 200, .inl (fun _ => 0)))] := hD
  refine W.widen (k := 6) (n := 286) (Nat.le_of_ble_eq_true rfl) (Nat.le_of_ble_eq_true rfl) ?_
  refine vt_putF (D := D) (ci := 1) (v := .ref q_6) (ty := .array .int) (C := RX1) (T := TX1) (N := 12) hx hb hts (fun w h => wm_c (wc_X1 w h)) tyX1 tyX1_ok nmX1 hown hE.1 hP hD hS 0 rfl rfl 5 (by decide) tX1_5 (hts (.fieldLink RX1 38 "WornLines$Machine" "kept" "[I") (wm_c hw_302)) (fun _ h9 => h9) rfl hin rfl pf_5 rfl rfl (Nat.le_of_ble_eq_true rfl) dX1_init_63 (fun H locs hP hD hS => ?_)
  have hP : va_P D vwCl [(h0, .inr (1, [.ref p0, .ref q_1, .ref q_2, .ref q_3, .ref q_4, .ref q_6, .ref q_5, .int (0), .int (0), .int (0), .int (0), .int (0)])), (q_1, .inl (ak 0, 16, .inl (fun _ => 0))), (q_2, .inl (ak 0, 16, .inl (fun _ => 0))), (q_3, .inl (ak 0, 16, .inl (fun _ => 0))), (q_4, .inl (ak 0, 6, .inl (fun _ => 0))), (q_5, .inl (ak 0, 32, .inl (fun _ => 0))), (q_6, .inl (ak 0, 200, .inl (fun _ => 0)))] H := hP
  have hD : va_D A [(h0, .inr (1, [.ref p0, .ref q_1, .ref q_2, .ref q_3, .ref q_4, .ref q_6, .ref q_5, .int (0), .int (0), .int (0), .int (0), .int (0)])), (q_1, .inl (ak 0, 16, .inl (fun _ => 0))), (q_2, .inl (ak 0, 16, .inl (fun _ => 0))), (q_3, .inl (ak 0, 16, .inl (fun _ => 0))), (q_4, .inl (ak 0, 6, .inl (fun _ => 0))), (q_5, .inl (ak 0, 32, .inl (fun _ => 0))), (q_6, .inl (ak 0, 200, .inl (fun _ => 0)))] := hD
  have hP9 := hP.sub (ws' := [(h0, .inr (1, [.ref p0, .ref q_1, .ref q_2, .ref q_3, .ref q_4, .ref q_6, .ref q_5, .int (0), .int (0), .int (0), .int (0), .int (0)])), (q_1, .inl (ak 0, 16, .inl (fun _ => 0))), (q_2, .inl (ak 0, 16, .inl (fun _ => 0))), (q_3, .inl (ak 0, 16, .inl (fun _ => 0))), (q_4, .inl (ak 0, 6, .inl (fun _ => 0))), (q_6, .inl (ak 0, 200, .inl (fun _ => 0))), (q_5, .inl (ak 0, 32, .inl (fun _ => 0)))]) [0, 1, 2, 3, 4, 6, 5] rfl
  have hD9 := hD.sub (ws' := [(h0, .inr (1, [.ref p0, .ref q_1, .ref q_2, .ref q_3, .ref q_4, .ref q_6, .ref q_5, .int (0), .int (0), .int (0), .int (0), .int (0)])), (q_1, .inl (ak 0, 16, .inl (fun _ => 0))), (q_2, .inl (ak 0, 16, .inl (fun _ => 0))), (q_3, .inl (ak 0, 16, .inl (fun _ => 0))), (q_4, .inl (ak 0, 6, .inl (fun _ => 0))), (q_6, .inl (ak 0, 200, .inl (fun _ => 0))), (q_5, .inl (ak 0, 32, .inl (fun _ => 0)))]) [0, 1, 2, 3, 4, 6, 5] (by decide) rfl
  refine W.widen (k := 6) (n := 286) (Nat.le_of_ble_eq_true rfl) (Nat.le_of_ble_eq_true rfl) ?_
  exact W.vret hx hb hr (fun t ht hW => ⟨⟨((fun k => match k with | 0 => q_1 | 1 => q_2 | 2 => q_3 | 3 => q_4 | 4 => q_6 | _ => q_5)), rfl, trivial, by rw [ht]; exact hP9, by rw [hAe]; exact hD9⟩, by rw [hAe]; exact hS.F ht⟩) hS.2.2 dX1_init_66

set_option maxHeartbeats 4000000 in
set_option maxRecDepth 100000 in
theorem c_X1_init1000 (l : Launch) (D : va_G) (ak : Nat → ClassId) (ad : Nat → Nat) (sz : Nat) (h0 : Nat) (p0 : Nat)  : Met l yX1_init wsX1_init ({ frames := 1, cells := 6, slots := 1086, locals := 12 }) (cPre D ak ad [.ref h0, .ref p0, .int (1000)] ([(h0, .inr (1, [.null, .null, .null, .null, .null, .null, .null, .int (0), .int (0), .int (0), .int (0), .int (0)]))]) sz) (cV D (S := (Nat → Nat)) (fun (u : (Nat → Nat)) => True) (fun u => [(h0, .inr (1, [.ref p0, .ref (u 0), .ref (u 1), .ref (u 2), .ref (u 3), .ref (u 4), .ref (u 5), .int (0), .int (0), .int (0), .int (0), .int (0)])), (u 0, .inl (ak 0, 16, .inl (fun _ => 0))), (u 1, .inl (ak 0, 16, .inl (fun _ => 0))), (u 2, .inl (ak 0, 16, .inl (fun _ => 0))), (u 3, .inl (ak 0, 6, .inl (fun _ => 0))), (u 4, .inl (ak 0, 1000, .inl (fun _ => 0))), (u 5, .inl (ak 0, 32, .inl (fun _ => 0)))]) ([(h0, .inr (1, [.null, .null, .null, .null, .null, .null, .null, .int (0), .int (0), .int (0), .int (0), .int (0)]))]) sz) 6 1086 (va_A ([(h0, .inr (1, [.null, .null, .null, .null, .null, .null, .null, .int (0), .int (0), .int (0), .int (0), .int (0)]))]) sz) := by
  refine Met.ofW (cc := cX1_init) (maxL := 3) (ret := none) (by decide) rfl ?_
  intro p e s m args below meth c s₁ B hml hv
  obtain ⟨rfl, hsz, hP, hE, hD0, hT⟩ := hv
  have hx := B.exec
  have hb := B.bytes
  have hr := B.returns
  have hts := atoms_spec (ws := wsX1_init) B.pre
  have hown : s.vm.findClass RX1 = some m.cls := findClass_of_methodNamed B.named
  have hlocks := B.notSynchronized
  have hin : meth.name = "<init>" := (name_of_methodNamed B.named B.method).1
  subst hsz
  have hD := hD0.self (sz := s.heap.size)
  generalize hAe : va_A ([(h0, .inr (1, [.null, .null, .null, .null, .null, .null, .null, .int (0), .int (0), .int (0), .int (0), .int (0)]))]) s.heap.size = A at hD hT ⊢
  have hA : ∀ q : Nat, s.heap.size ≤ q → A q := fun q h => by rw [← hAe]; exact Or.inr h
  have hS : va_S A s.heap s.heap [] := va_S.rf
  have hl := lv_entry ([.ref h0, .ref p0, .int (1000)]) (n := 3) (Nat.le_of_ble_eq_true rfl)
  rw [lg_entry_eq]
  generalize (lg_sl ([.ref h0, .ref p0, .int (1000)]) ++ List.replicate (3 - (lg_sl ([.ref h0, .ref p0, .int (1000)])).length) Slot.unset).toArray = ls at hl ⊢
  have hl : lv_has ls 3 [(0, .ref h0), (1, .ref p0), (2, .int (1000))] := hl
  have hP : va_P D vwCl [(h0, .inr (1, [.null, .null, .null, .null, .null, .null, .null, .int (0), .int (0), .int (0), .int (0), .int (0)]))] s.heap := hP
  refine lv_aload_n hx hb dX1_init_0 rfl (lv_at hl 0 rfl) ?_
  refine W.objInit hx hb hown (hts (.methodLink RX1 3 objectInit) (wm_c hw_293)) (hts (.instanceMethod objectInit) (wm_c hw_261)) (hts (.code objectInit ⟨#[0xb1]⟩ 1 none) (wm_c hw_262)) rfl (by rw [hml]; exact hl.1) rfl dX1_init_1 (Nat.le_of_ble_eq_true rfl) (Nat.le_of_ble_eq_true rfl) ?_
  refine W.eq (g2 := F0 m 4 ls ([])) rfl ?_
  refine lv_aload_n hx hb dX1_init_4 rfl (lv_at hl 0 rfl) ?_
  refine lv_bipush (v := 16) hx hb dX1_init_5 (by decide) ?_
  refine kn_a (atype := .int) (ty := .int) (a0 := (16, .inl (fun _ => 0))) (N' := 16) hx hb (hts (.arrayClass .int) (wm_c hw_267)) hE 0 rfl rfl (fun _ h => h) hP hD hS hA (fun cA => vp_cell_i cA 16 (fun _ => 0)) (by decide) (rfl) (by decide +kernel) (Nat.le_of_ble_eq_true rfl) (Nat.le_of_ble_eq_true rfl) dX1_init_7 (fun q_1 H hP hD hS => ?_)
  have hP : va_P D vwCl [(h0, .inr (1, [.null, .null, .null, .null, .null, .null, .null, .int (0), .int (0), .int (0), .int (0), .int (0)])), (q_1, .inl (ak 0, 16, .inl (fun _ => 0)))] H := hP
  have hD : va_D A [(h0, .inr (1, [.null, .null, .null, .null, .null, .null, .null, .int (0), .int (0), .int (0), .int (0), .int (0)])), (q_1, .inl (ak 0, 16, .inl (fun _ => 0)))] := hD
  refine W.widen (k := 1) (n := 16) (Nat.le_of_ble_eq_true rfl) (Nat.le_of_ble_eq_true rfl) ?_
  refine vt_putF (D := D) (ci := 1) (v := .ref q_1) (ty := .array .int) (C := RX1) (T := TX1) (N := 12) hx hb hts (fun w h => wm_c (wc_X1 w h)) tyX1 tyX1_ok nmX1 hown hE.1 hP hD hS 0 rfl rfl 1 (by decide) tX1_1 (hts (.fieldLink RX1 9 "WornLines$Machine" "stuffs" "[I") (wm_c hw_294)) (fun _ h9 => h9) rfl hin rfl pf_5 rfl rfl (Nat.le_of_ble_eq_true rfl) dX1_init_9 (fun H locs hP hD hS => ?_)
  have hP : va_P D vwCl [(h0, .inr (1, [.null, .ref q_1, .null, .null, .null, .null, .null, .int (0), .int (0), .int (0), .int (0), .int (0)])), (q_1, .inl (ak 0, 16, .inl (fun _ => 0)))] H := hP
  have hD : va_D A [(h0, .inr (1, [.null, .ref q_1, .null, .null, .null, .null, .null, .int (0), .int (0), .int (0), .int (0), .int (0)])), (q_1, .inl (ak 0, 16, .inl (fun _ => 0)))] := hD
  refine lv_aload_n hx hb dX1_init_12 rfl (lv_at hl 0 rfl) ?_
  refine lv_bipush (v := 16) hx hb dX1_init_13 (by decide) ?_
  refine kn_a (atype := .int) (ty := .int) (a0 := (16, .inl (fun _ => 0))) (N' := 16) hx hb (hts (.arrayClass .int) (wm_c hw_267)) hE 0 rfl rfl (fun _ h => h) hP hD hS hA (fun cA => vp_cell_i cA 16 (fun _ => 0)) (by decide) (rfl) (by decide +kernel) (Nat.le_of_ble_eq_true rfl) (Nat.le_of_ble_eq_true rfl) dX1_init_15 (fun q_2 H hP hD hS => ?_)
  have hP : va_P D vwCl [(h0, .inr (1, [.null, .ref q_1, .null, .null, .null, .null, .null, .int (0), .int (0), .int (0), .int (0), .int (0)])), (q_1, .inl (ak 0, 16, .inl (fun _ => 0))), (q_2, .inl (ak 0, 16, .inl (fun _ => 0)))] H := hP
  have hD : va_D A [(h0, .inr (1, [.null, .ref q_1, .null, .null, .null, .null, .null, .int (0), .int (0), .int (0), .int (0), .int (0)])), (q_1, .inl (ak 0, 16, .inl (fun _ => 0))), (q_2, .inl (ak 0, 16, .inl (fun _ => 0)))] := hD
  refine W.widen (k := 2) (n := 32) (Nat.le_of_ble_eq_true rfl) (Nat.le_of_ble_eq_true rfl) ?_
  refine vt_putF (D := D) (ci := 1) (v := .ref q_2) (ty := .array .int) (C := RX1) (T := TX1) (N := 12) hx hb hts (fun w h => wm_c (wc_X1 w h)) tyX1 tyX1_ok nmX1 hown hE.1 hP hD hS 0 rfl rfl 2 (by decide) tX1_2 (hts (.fieldLink RX1 15 "WornLines$Machine" "twins" "[I") (wm_c hw_295)) (fun _ h9 => h9) rfl hin rfl pf_5 rfl rfl (Nat.le_of_ble_eq_true rfl) dX1_init_17 (fun H locs hP hD hS => ?_)
  have hP : va_P D vwCl [(h0, .inr (1, [.null, .ref q_1, .ref q_2, .null, .null, .null, .null, .int (0), .int (0), .int (0), .int (0), .int (0)])), (q_1, .inl (ak 0, 16, .inl (fun _ => 0))), (q_2, .inl (ak 0, 16, .inl (fun _ => 0)))] H := hP
  have hD : va_D A [(h0, .inr (1, [.null, .ref q_1, .ref q_2, .null, .null, .null, .null, .int (0), .int (0), .int (0), .int (0), .int (0)])), (q_1, .inl (ak 0, 16, .inl (fun _ => 0))), (q_2, .inl (ak 0, 16, .inl (fun _ => 0)))] := hD
  refine lv_aload_n hx hb dX1_init_20 rfl (lv_at hl 0 rfl) ?_
  refine lv_bipush (v := 16) hx hb dX1_init_21 (by decide) ?_
  refine kn_a (atype := .int) (ty := .int) (a0 := (16, .inl (fun _ => 0))) (N' := 16) hx hb (hts (.arrayClass .int) (wm_c hw_267)) hE 0 rfl rfl (fun _ h => h) hP hD hS hA (fun cA => vp_cell_i cA 16 (fun _ => 0)) (by decide) (rfl) (by decide +kernel) (Nat.le_of_ble_eq_true rfl) (Nat.le_of_ble_eq_true rfl) dX1_init_23 (fun q_3 H hP hD hS => ?_)
  have hP : va_P D vwCl [(h0, .inr (1, [.null, .ref q_1, .ref q_2, .null, .null, .null, .null, .int (0), .int (0), .int (0), .int (0), .int (0)])), (q_1, .inl (ak 0, 16, .inl (fun _ => 0))), (q_2, .inl (ak 0, 16, .inl (fun _ => 0))), (q_3, .inl (ak 0, 16, .inl (fun _ => 0)))] H := hP
  have hD : va_D A [(h0, .inr (1, [.null, .ref q_1, .ref q_2, .null, .null, .null, .null, .int (0), .int (0), .int (0), .int (0), .int (0)])), (q_1, .inl (ak 0, 16, .inl (fun _ => 0))), (q_2, .inl (ak 0, 16, .inl (fun _ => 0))), (q_3, .inl (ak 0, 16, .inl (fun _ => 0)))] := hD
  refine W.widen (k := 3) (n := 48) (Nat.le_of_ble_eq_true rfl) (Nat.le_of_ble_eq_true rfl) ?_
  refine vt_putF (D := D) (ci := 1) (v := .ref q_3) (ty := .array .int) (C := RX1) (T := TX1) (N := 12) hx hb hts (fun w h => wm_c (wc_X1 w h)) tyX1 tyX1_ok nmX1 hown hE.1 hP hD hS 0 rfl rfl 3 (by decide) tX1_3 (hts (.fieldLink RX1 18 "WornLines$Machine" "worn" "[I") (wm_c hw_296)) (fun _ h9 => h9) rfl hin rfl pf_5 rfl rfl (Nat.le_of_ble_eq_true rfl) dX1_init_25 (fun H locs hP hD hS => ?_)
  have hP : va_P D vwCl [(h0, .inr (1, [.null, .ref q_1, .ref q_2, .ref q_3, .null, .null, .null, .int (0), .int (0), .int (0), .int (0), .int (0)])), (q_1, .inl (ak 0, 16, .inl (fun _ => 0))), (q_2, .inl (ak 0, 16, .inl (fun _ => 0))), (q_3, .inl (ak 0, 16, .inl (fun _ => 0)))] H := hP
  have hD : va_D A [(h0, .inr (1, [.null, .ref q_1, .ref q_2, .ref q_3, .null, .null, .null, .int (0), .int (0), .int (0), .int (0), .int (0)])), (q_1, .inl (ak 0, 16, .inl (fun _ => 0))), (q_2, .inl (ak 0, 16, .inl (fun _ => 0))), (q_3, .inl (ak 0, 16, .inl (fun _ => 0)))] := hD
  refine lv_aload_n hx hb dX1_init_28 rfl (lv_at hl 0 rfl) ?_
  refine lv_bipush (v := 6) hx hb dX1_init_29 (by decide) ?_
  refine kn_a (atype := .int) (ty := .int) (a0 := (6, .inl (fun _ => 0))) (N' := 6) hx hb (hts (.arrayClass .int) (wm_c hw_267)) hE 0 rfl rfl (fun _ h => h) hP hD hS hA (fun cA => vp_cell_i cA 6 (fun _ => 0)) (by decide) (rfl) (by decide +kernel) (Nat.le_of_ble_eq_true rfl) (Nat.le_of_ble_eq_true rfl) dX1_init_31 (fun q_4 H hP hD hS => ?_)
  have hP : va_P D vwCl [(h0, .inr (1, [.null, .ref q_1, .ref q_2, .ref q_3, .null, .null, .null, .int (0), .int (0), .int (0), .int (0), .int (0)])), (q_1, .inl (ak 0, 16, .inl (fun _ => 0))), (q_2, .inl (ak 0, 16, .inl (fun _ => 0))), (q_3, .inl (ak 0, 16, .inl (fun _ => 0))), (q_4, .inl (ak 0, 6, .inl (fun _ => 0)))] H := hP
  have hD : va_D A [(h0, .inr (1, [.null, .ref q_1, .ref q_2, .ref q_3, .null, .null, .null, .int (0), .int (0), .int (0), .int (0), .int (0)])), (q_1, .inl (ak 0, 16, .inl (fun _ => 0))), (q_2, .inl (ak 0, 16, .inl (fun _ => 0))), (q_3, .inl (ak 0, 16, .inl (fun _ => 0))), (q_4, .inl (ak 0, 6, .inl (fun _ => 0)))] := hD
  refine W.widen (k := 4) (n := 54) (Nat.le_of_ble_eq_true rfl) (Nat.le_of_ble_eq_true rfl) ?_
  refine vt_putF (D := D) (ci := 1) (v := .ref q_4) (ty := .array .int) (C := RX1) (T := TX1) (N := 12) hx hb hts (fun w h => wm_c (wc_X1 w h)) tyX1 tyX1_ok nmX1 hown hE.1 hP hD hS 0 rfl rfl 4 (by decide) tX1_4 (hts (.fieldLink RX1 21 "WornLines$Machine" "cells" "[I") (wm_c hw_297)) (fun _ h9 => h9) rfl hin rfl pf_5 rfl rfl (Nat.le_of_ble_eq_true rfl) dX1_init_33 (fun H locs hP hD hS => ?_)
  have hP : va_P D vwCl [(h0, .inr (1, [.null, .ref q_1, .ref q_2, .ref q_3, .ref q_4, .null, .null, .int (0), .int (0), .int (0), .int (0), .int (0)])), (q_1, .inl (ak 0, 16, .inl (fun _ => 0))), (q_2, .inl (ak 0, 16, .inl (fun _ => 0))), (q_3, .inl (ak 0, 16, .inl (fun _ => 0))), (q_4, .inl (ak 0, 6, .inl (fun _ => 0)))] H := hP
  have hD : va_D A [(h0, .inr (1, [.null, .ref q_1, .ref q_2, .ref q_3, .ref q_4, .null, .null, .int (0), .int (0), .int (0), .int (0), .int (0)])), (q_1, .inl (ak 0, 16, .inl (fun _ => 0))), (q_2, .inl (ak 0, 16, .inl (fun _ => 0))), (q_3, .inl (ak 0, 16, .inl (fun _ => 0))), (q_4, .inl (ak 0, 6, .inl (fun _ => 0)))] := hD
  refine lv_aload_n hx hb dX1_init_36 rfl (lv_at hl 0 rfl) ?_
  refine lv_bipush (v := 32) hx hb dX1_init_37 (by decide) ?_
  refine kn_a (atype := .int) (ty := .int) (a0 := (32, .inl (fun _ => 0))) (N' := 32) hx hb (hts (.arrayClass .int) (wm_c hw_267)) hE 0 rfl rfl (fun _ h => h) hP hD hS hA (fun cA => vp_cell_i cA 32 (fun _ => 0)) (by decide) (rfl) (by decide +kernel) (Nat.le_of_ble_eq_true rfl) (Nat.le_of_ble_eq_true rfl) dX1_init_39 (fun q_5 H hP hD hS => ?_)
  have hP : va_P D vwCl [(h0, .inr (1, [.null, .ref q_1, .ref q_2, .ref q_3, .ref q_4, .null, .null, .int (0), .int (0), .int (0), .int (0), .int (0)])), (q_1, .inl (ak 0, 16, .inl (fun _ => 0))), (q_2, .inl (ak 0, 16, .inl (fun _ => 0))), (q_3, .inl (ak 0, 16, .inl (fun _ => 0))), (q_4, .inl (ak 0, 6, .inl (fun _ => 0))), (q_5, .inl (ak 0, 32, .inl (fun _ => 0)))] H := hP
  have hD : va_D A [(h0, .inr (1, [.null, .ref q_1, .ref q_2, .ref q_3, .ref q_4, .null, .null, .int (0), .int (0), .int (0), .int (0), .int (0)])), (q_1, .inl (ak 0, 16, .inl (fun _ => 0))), (q_2, .inl (ak 0, 16, .inl (fun _ => 0))), (q_3, .inl (ak 0, 16, .inl (fun _ => 0))), (q_4, .inl (ak 0, 6, .inl (fun _ => 0))), (q_5, .inl (ak 0, 32, .inl (fun _ => 0)))] := hD
  refine W.widen (k := 5) (n := 86) (Nat.le_of_ble_eq_true rfl) (Nat.le_of_ble_eq_true rfl) ?_
  refine vt_putF (D := D) (ci := 1) (v := .ref q_5) (ty := .array .int) (C := RX1) (T := TX1) (N := 12) hx hb hts (fun w h => wm_c (wc_X1 w h)) tyX1 tyX1_ok nmX1 hown hE.1 hP hD hS 0 rfl rfl 6 (by decide) tX1_6 (hts (.fieldLink RX1 24 "WornLines$Machine" "stack" "[I") (wm_c hw_298)) (fun _ h9 => h9) rfl hin rfl pf_5 rfl rfl (Nat.le_of_ble_eq_true rfl) dX1_init_41 (fun H locs hP hD hS => ?_)
  have hP : va_P D vwCl [(h0, .inr (1, [.null, .ref q_1, .ref q_2, .ref q_3, .ref q_4, .null, .ref q_5, .int (0), .int (0), .int (0), .int (0), .int (0)])), (q_1, .inl (ak 0, 16, .inl (fun _ => 0))), (q_2, .inl (ak 0, 16, .inl (fun _ => 0))), (q_3, .inl (ak 0, 16, .inl (fun _ => 0))), (q_4, .inl (ak 0, 6, .inl (fun _ => 0))), (q_5, .inl (ak 0, 32, .inl (fun _ => 0)))] H := hP
  have hD : va_D A [(h0, .inr (1, [.null, .ref q_1, .ref q_2, .ref q_3, .ref q_4, .null, .ref q_5, .int (0), .int (0), .int (0), .int (0), .int (0)])), (q_1, .inl (ak 0, 16, .inl (fun _ => 0))), (q_2, .inl (ak 0, 16, .inl (fun _ => 0))), (q_3, .inl (ak 0, 16, .inl (fun _ => 0))), (q_4, .inl (ak 0, 6, .inl (fun _ => 0))), (q_5, .inl (ak 0, 32, .inl (fun _ => 0)))] := hD
  refine lv_aload_n hx hb dX1_init_44 rfl (lv_at hl 0 rfl) ?_
  refine lv_iconst (v := 0) hx hb dX1_init_45 (by decide) ?_
  refine vt_put (D := D) (ci := 1) (v := .int (0)) (ty := .int) (C := RX1) (T := TX1) (N := 12) hx hb hts (fun w h => wm_c (wc_X1 w h)) tyX1 tyX1_ok nmX1 hown hE.1 hP hD hS 0 rfl rfl 7 (by decide) tX1_7 (hts (.fieldLink RX1 27 "WornLines$Machine" "way" "I") (wm_c hw_299)) (fun _ h9 => h9) rfl pf_0 rfl rfl (Nat.le_of_ble_eq_true rfl) dX1_init_46 (fun H locs hP hD hS => ?_)
  have hP : va_P D vwCl [(h0, .inr (1, [.null, .ref q_1, .ref q_2, .ref q_3, .ref q_4, .null, .ref q_5, .int (0), .int (0), .int (0), .int (0), .int (0)])), (q_1, .inl (ak 0, 16, .inl (fun _ => 0))), (q_2, .inl (ak 0, 16, .inl (fun _ => 0))), (q_3, .inl (ak 0, 16, .inl (fun _ => 0))), (q_4, .inl (ak 0, 6, .inl (fun _ => 0))), (q_5, .inl (ak 0, 32, .inl (fun _ => 0)))] H := hP
  have hD : va_D A [(h0, .inr (1, [.null, .ref q_1, .ref q_2, .ref q_3, .ref q_4, .null, .ref q_5, .int (0), .int (0), .int (0), .int (0), .int (0)])), (q_1, .inl (ak 0, 16, .inl (fun _ => 0))), (q_2, .inl (ak 0, 16, .inl (fun _ => 0))), (q_3, .inl (ak 0, 16, .inl (fun _ => 0))), (q_4, .inl (ak 0, 6, .inl (fun _ => 0))), (q_5, .inl (ak 0, 32, .inl (fun _ => 0)))] := hD
  refine lv_aload_n hx hb dX1_init_49 rfl (lv_at hl 0 rfl) ?_
  refine lv_iconst (v := 0) hx hb dX1_init_50 (by decide) ?_
  refine vt_put (D := D) (ci := 1) (v := .int (0)) (ty := .int) (C := RX1) (T := TX1) (N := 12) hx hb hts (fun w h => wm_c (wc_X1 w h)) tyX1 tyX1_ok nmX1 hown hE.1 hP hD hS 0 rfl rfl 8 (by decide) tX1_8 (hts (.fieldLink RX1 31 "WornLines$Machine" "state" "I") (wm_c hw_300)) (fun _ h9 => h9) rfl pf_0 rfl rfl (Nat.le_of_ble_eq_true rfl) dX1_init_51 (fun H locs hP hD hS => ?_)
  have hP : va_P D vwCl [(h0, .inr (1, [.null, .ref q_1, .ref q_2, .ref q_3, .ref q_4, .null, .ref q_5, .int (0), .int (0), .int (0), .int (0), .int (0)])), (q_1, .inl (ak 0, 16, .inl (fun _ => 0))), (q_2, .inl (ak 0, 16, .inl (fun _ => 0))), (q_3, .inl (ak 0, 16, .inl (fun _ => 0))), (q_4, .inl (ak 0, 6, .inl (fun _ => 0))), (q_5, .inl (ak 0, 32, .inl (fun _ => 0)))] H := hP
  have hD : va_D A [(h0, .inr (1, [.null, .ref q_1, .ref q_2, .ref q_3, .ref q_4, .null, .ref q_5, .int (0), .int (0), .int (0), .int (0), .int (0)])), (q_1, .inl (ak 0, 16, .inl (fun _ => 0))), (q_2, .inl (ak 0, 16, .inl (fun _ => 0))), (q_3, .inl (ak 0, 16, .inl (fun _ => 0))), (q_4, .inl (ak 0, 6, .inl (fun _ => 0))), (q_5, .inl (ak 0, 32, .inl (fun _ => 0)))] := hD
  refine lv_aload_n hx hb dX1_init_54 rfl (lv_at hl 0 rfl) ?_
  refine lv_aload_n hx hb dX1_init_55 rfl (lv_at hl 1 rfl) ?_
  refine vt_put (D := D) (ci := 1) (v := .ref p0) (ty := .object "WornLines$Programme") (C := RX1) (T := TX1) (N := 12) hx hb hts (fun w h => wm_c (wc_X1 w h)) tyX1 tyX1_ok nmX1 hown hE.1 hP hD hS 0 rfl rfl 0 (by decide) tX1_0 (hts (.fieldLink RX1 34 "WornLines$Machine" "programme" "LWornLines$Programme;") (wm_c hw_301)) (fun _ h9 => h9) rfl pf_9 rfl rfl (Nat.le_of_ble_eq_true rfl) dX1_init_56 (fun H locs hP hD hS => ?_)
  have hP : va_P D vwCl [(h0, .inr (1, [.ref p0, .ref q_1, .ref q_2, .ref q_3, .ref q_4, .null, .ref q_5, .int (0), .int (0), .int (0), .int (0), .int (0)])), (q_1, .inl (ak 0, 16, .inl (fun _ => 0))), (q_2, .inl (ak 0, 16, .inl (fun _ => 0))), (q_3, .inl (ak 0, 16, .inl (fun _ => 0))), (q_4, .inl (ak 0, 6, .inl (fun _ => 0))), (q_5, .inl (ak 0, 32, .inl (fun _ => 0)))] H := hP
  have hD : va_D A [(h0, .inr (1, [.ref p0, .ref q_1, .ref q_2, .ref q_3, .ref q_4, .null, .ref q_5, .int (0), .int (0), .int (0), .int (0), .int (0)])), (q_1, .inl (ak 0, 16, .inl (fun _ => 0))), (q_2, .inl (ak 0, 16, .inl (fun _ => 0))), (q_3, .inl (ak 0, 16, .inl (fun _ => 0))), (q_4, .inl (ak 0, 6, .inl (fun _ => 0))), (q_5, .inl (ak 0, 32, .inl (fun _ => 0)))] := hD
  refine lv_aload_n hx hb dX1_init_59 rfl (lv_at hl 0 rfl) ?_
  refine lv_iload_n hx hb dX1_init_60 rfl (lv_at hl 2 rfl) ?_
  refine kn_a (atype := .int) (ty := .int) (a0 := (1000, .inl (fun _ => 0))) (N' := 1000) hx hb (hts (.arrayClass .int) (wm_c hw_267)) hE 0 rfl rfl (fun _ h => h) hP hD hS hA (fun cA => vp_cell_i cA 1000 (fun _ => 0)) (by decide) (rfl) (by decide +kernel) (Nat.le_of_ble_eq_true rfl) (Nat.le_of_ble_eq_true rfl) dX1_init_61 (fun q_6 H hP hD hS => ?_)
  have hP : va_P D vwCl [(h0, .inr (1, [.ref p0, .ref q_1, .ref q_2, .ref q_3, .ref q_4, .null, .ref q_5, .int (0), .int (0), .int (0), .int (0), .int (0)])), (q_1, .inl (ak 0, 16, .inl (fun _ => 0))), (q_2, .inl (ak 0, 16, .inl (fun _ => 0))), (q_3, .inl (ak 0, 16, .inl (fun _ => 0))), (q_4, .inl (ak 0, 6, .inl (fun _ => 0))), (q_5, .inl (ak 0, 32, .inl (fun _ => 0))), (q_6, .inl (ak 0, 1000, .inl (fun _ => 0)))] H := hP
  have hD : va_D A [(h0, .inr (1, [.ref p0, .ref q_1, .ref q_2, .ref q_3, .ref q_4, .null, .ref q_5, .int (0), .int (0), .int (0), .int (0), .int (0)])), (q_1, .inl (ak 0, 16, .inl (fun _ => 0))), (q_2, .inl (ak 0, 16, .inl (fun _ => 0))), (q_3, .inl (ak 0, 16, .inl (fun _ => 0))), (q_4, .inl (ak 0, 6, .inl (fun _ => 0))), (q_5, .inl (ak 0, 32, .inl (fun _ => 0))), (q_6, .inl (ak 0, 1000, .inl (fun _ => 0)))] := hD
  refine W.widen (k := 6) (n := 1086) (Nat.le_of_ble_eq_true rfl) (Nat.le_of_ble_eq_true rfl) ?_
  refine vt_putF (D := D) (ci := 1) (v := .ref q_6) (ty := .array .int) (C := RX1) (T := TX1) (N := 12) hx hb hts (fun w h => wm_c (wc_X1 w h)) tyX1 tyX1_ok nmX1 hown hE.1 hP hD hS 0 rfl rfl 5 (by decide) tX1_5 (hts (.fieldLink RX1 38 "WornLines$Machine" "kept" "[I") (wm_c hw_302)) (fun _ h9 => h9) rfl hin rfl pf_5 rfl rfl (Nat.le_of_ble_eq_true rfl) dX1_init_63 (fun H locs hP hD hS => ?_)
  have hP : va_P D vwCl [(h0, .inr (1, [.ref p0, .ref q_1, .ref q_2, .ref q_3, .ref q_4, .ref q_6, .ref q_5, .int (0), .int (0), .int (0), .int (0), .int (0)])), (q_1, .inl (ak 0, 16, .inl (fun _ => 0))), (q_2, .inl (ak 0, 16, .inl (fun _ => 0))), (q_3, .inl (ak 0, 16, .inl (fun _ => 0))), (q_4, .inl (ak 0, 6, .inl (fun _ => 0))), (q_5, .inl (ak 0, 32, .inl (fun _ => 0))), (q_6, .inl (ak 0, 1000, .inl (fun _ => 0)))] H := hP
  have hD : va_D A [(h0, .inr (1, [.ref p0, .ref q_1, .ref q_2, .ref q_3, .ref q_4, .ref q_6, .ref q_5, .int (0), .int (0), .int (0), .int (0), .int (0)])), (q_1, .inl (ak 0, 16, .inl (fun _ => 0))), (q_2, .inl (ak 0, 16, .inl (fun _ => 0))), (q_3, .inl (ak 0, 16, .inl (fun _ => 0))), (q_4, .inl (ak 0, 6, .inl (fun _ => 0))), (q_5, .inl (ak 0, 32, .inl (fun _ => 0))), (q_6, .inl (ak 0, 1000, .inl (fun _ => 0)))] := hD
  have hP9 := hP.sub (ws' := [(h0, .inr (1, [.ref p0, .ref q_1, .ref q_2, .ref q_3, .ref q_4, .ref q_6, .ref q_5, .int (0), .int (0), .int (0), .int (0), .int (0)])), (q_1, .inl (ak 0, 16, .inl (fun _ => 0))), (q_2, .inl (ak 0, 16, .inl (fun _ => 0))), (q_3, .inl (ak 0, 16, .inl (fun _ => 0))), (q_4, .inl (ak 0, 6, .inl (fun _ => 0))), (q_6, .inl (ak 0, 1000, .inl (fun _ => 0))), (q_5, .inl (ak 0, 32, .inl (fun _ => 0)))]) [0, 1, 2, 3, 4, 6, 5] rfl
  have hD9 := hD.sub (ws' := [(h0, .inr (1, [.ref p0, .ref q_1, .ref q_2, .ref q_3, .ref q_4, .ref q_6, .ref q_5, .int (0), .int (0), .int (0), .int (0), .int (0)])), (q_1, .inl (ak 0, 16, .inl (fun _ => 0))), (q_2, .inl (ak 0, 16, .inl (fun _ => 0))), (q_3, .inl (ak 0, 16, .inl (fun _ => 0))), (q_4, .inl (ak 0, 6, .inl (fun _ => 0))), (q_6, .inl (ak 0, 1000, .inl (fun _ => 0))), (q_5, .inl (ak 0, 32, .inl (fun _ => 0)))]) [0, 1, 2, 3, 4, 6, 5] (by decide) rfl
  refine W.widen (k := 6) (n := 1086) (Nat.le_of_ble_eq_true rfl) (Nat.le_of_ble_eq_true rfl) ?_
  exact W.vret hx hb hr (fun t ht hW => ⟨⟨((fun k => match k with | 0 => q_1 | 1 => q_2 | 2 => q_3 | 3 => q_4 | 4 => q_6 | _ => q_5)), rfl, trivial, by rw [ht]; exact hP9, by rw [hAe]; exact hD9⟩, by rw [hAe]; exact hS.F ht⟩) hS.2.2 dX1_init_66

set_option maxHeartbeats 4000000 in
set_option maxRecDepth 100000 in
theorem c_X4_init (l : Launch) (D : va_G) (ak : Nat → ClassId) (ad : Nat → Nat) (sz : Nat) (h0 : Nat)  : Met l yX4_init wsX4_init ({ frames := 1, cells := 4, slots := 64, locals := 12 }) (cPre D ak ad [.ref h0] ([(h0, .inr (4, [.null, .int (0), .null, .null, .null, .null]))]) sz) (cV D (S := (Nat → Nat)) (fun (u : (Nat → Nat)) => True) (fun u => [(h0, .inr (4, [.null, .int (0), .ref (u 0), .ref (u 1), .ref (u 2), .ref (u 3)])), (u 0, .inl (ak 0, 16, .inl (fun _ => 0))), (u 1, .inl (ak 0, 16, .inl (fun _ => 0))), (u 2, .inl (ak 0, 16, .inl (fun _ => 0))), (u 3, .inl (ak 0, 16, .inl (fun _ => 0)))]) ([(h0, .inr (4, [.null, .int (0), .null, .null, .null, .null]))]) sz) 4 64 (va_A ([(h0, .inr (4, [.null, .int (0), .null, .null, .null, .null]))]) sz) := by
  refine Met.ofW (cc := cX4_init) (maxL := 1) (ret := none) (by decide) rfl ?_
  intro p e s m args below meth c s₁ B hml hv
  obtain ⟨rfl, hsz, hP, hE, hD0, hT⟩ := hv
  have hx := B.exec
  have hb := B.bytes
  have hr := B.returns
  have hts := atoms_spec (ws := wsX4_init) B.pre
  have hown : s.vm.findClass RX4 = some m.cls := findClass_of_methodNamed B.named
  have hlocks := B.notSynchronized
  have hin : meth.name = "<init>" := (name_of_methodNamed B.named B.method).1
  subst hsz
  have hD := hD0.self (sz := s.heap.size)
  generalize hAe : va_A ([(h0, .inr (4, [.null, .int (0), .null, .null, .null, .null]))]) s.heap.size = A at hD hT ⊢
  have hA : ∀ q : Nat, s.heap.size ≤ q → A q := fun q h => by rw [← hAe]; exact Or.inr h
  have hS : va_S A s.heap s.heap [] := va_S.rf
  have hl := lv_entry ([.ref h0]) (n := 1) (Nat.le_of_ble_eq_true rfl)
  rw [lg_entry_eq]
  generalize (lg_sl ([.ref h0]) ++ List.replicate (1 - (lg_sl ([.ref h0])).length) Slot.unset).toArray = ls at hl ⊢
  have hl : lv_has ls 1 [(0, .ref h0)] := hl
  have hP : va_P D vwCl [(h0, .inr (4, [.null, .int (0), .null, .null, .null, .null]))] s.heap := hP
  refine lv_aload_n hx hb dX4_init_0 rfl (lv_at hl 0 rfl) ?_
  refine W.objInit hx hb hown (hts (.methodLink RX4 3 objectInit) (wm_c hw_303)) (hts (.instanceMethod objectInit) (wm_c hw_261)) (hts (.code objectInit ⟨#[0xb1]⟩ 1 none) (wm_c hw_262)) rfl (by rw [hml]; exact hl.1) rfl dX4_init_1 (Nat.le_of_ble_eq_true rfl) (Nat.le_of_ble_eq_true rfl) ?_
  refine W.eq (g2 := F0 m 4 ls ([])) rfl ?_
  refine lv_aload_n hx hb dX4_init_4 rfl (lv_at hl 0 rfl) ?_
  refine lv_bipush (v := 16) hx hb dX4_init_5 (by decide) ?_
  refine kn_a (atype := .int) (ty := .int) (a0 := (16, .inl (fun _ => 0))) (N' := 16) hx hb (hts (.arrayClass .int) (wm_c hw_267)) hE 0 rfl rfl (fun _ h => h) hP hD hS hA (fun cA => vp_cell_i cA 16 (fun _ => 0)) (by decide) (rfl) (by decide +kernel) (Nat.le_of_ble_eq_true rfl) (Nat.le_of_ble_eq_true rfl) dX4_init_7 (fun q_1 H hP hD hS => ?_)
  have hP : va_P D vwCl [(h0, .inr (4, [.null, .int (0), .null, .null, .null, .null])), (q_1, .inl (ak 0, 16, .inl (fun _ => 0)))] H := hP
  have hD : va_D A [(h0, .inr (4, [.null, .int (0), .null, .null, .null, .null])), (q_1, .inl (ak 0, 16, .inl (fun _ => 0)))] := hD
  refine W.widen (k := 1) (n := 16) (Nat.le_of_ble_eq_true rfl) (Nat.le_of_ble_eq_true rfl) ?_
  refine vt_putF (D := D) (ci := 4) (v := .ref q_1) (ty := .array .int) (C := RX4) (T := TX4) (N := 6) hx hb hts (fun w h => wm_c (wc_X4 w h)) tyX4 tyX4_ok nmX4 hown hE.1 hP hD hS 0 rfl rfl 2 (by decide) tX4_2 (hts (.fieldLink RX4 9 "WornLines$Survey" "often" "[I") (wm_c hw_304)) (fun _ h9 => h9) rfl hin rfl pf_5 rfl rfl (Nat.le_of_ble_eq_true rfl) dX4_init_9 (fun H locs hP hD hS => ?_)
  have hP : va_P D vwCl [(h0, .inr (4, [.null, .int (0), .ref q_1, .null, .null, .null])), (q_1, .inl (ak 0, 16, .inl (fun _ => 0)))] H := hP
  have hD : va_D A [(h0, .inr (4, [.null, .int (0), .ref q_1, .null, .null, .null])), (q_1, .inl (ak 0, 16, .inl (fun _ => 0)))] := hD
  refine lv_aload_n hx hb dX4_init_12 rfl (lv_at hl 0 rfl) ?_
  refine lv_bipush (v := 16) hx hb dX4_init_13 (by decide) ?_
  refine kn_a (atype := .int) (ty := .int) (a0 := (16, .inl (fun _ => 0))) (N' := 16) hx hb (hts (.arrayClass .int) (wm_c hw_267)) hE 0 rfl rfl (fun _ h => h) hP hD hS hA (fun cA => vp_cell_i cA 16 (fun _ => 0)) (by decide) (rfl) (by decide +kernel) (Nat.le_of_ble_eq_true rfl) (Nat.le_of_ble_eq_true rfl) dX4_init_15 (fun q_2 H hP hD hS => ?_)
  have hP : va_P D vwCl [(h0, .inr (4, [.null, .int (0), .ref q_1, .null, .null, .null])), (q_1, .inl (ak 0, 16, .inl (fun _ => 0))), (q_2, .inl (ak 0, 16, .inl (fun _ => 0)))] H := hP
  have hD : va_D A [(h0, .inr (4, [.null, .int (0), .ref q_1, .null, .null, .null])), (q_1, .inl (ak 0, 16, .inl (fun _ => 0))), (q_2, .inl (ak 0, 16, .inl (fun _ => 0)))] := hD
  refine W.widen (k := 2) (n := 32) (Nat.le_of_ble_eq_true rfl) (Nat.le_of_ble_eq_true rfl) ?_
  refine vt_putF (D := D) (ci := 4) (v := .ref q_2) (ty := .array .int) (C := RX4) (T := TX4) (N := 6) hx hb hts (fun w h => wm_c (wc_X4 w h)) tyX4 tyX4_ok nmX4 hown hE.1 hP hD hS 0 rfl rfl 3 (by decide) tX4_3 (hts (.fieldLink RX4 15 "WornLines$Survey" "by" "[I") (wm_c hw_305)) (fun _ h9 => h9) rfl hin rfl pf_5 rfl rfl (Nat.le_of_ble_eq_true rfl) dX4_init_17 (fun H locs hP hD hS => ?_)
  have hP : va_P D vwCl [(h0, .inr (4, [.null, .int (0), .ref q_1, .ref q_2, .null, .null])), (q_1, .inl (ak 0, 16, .inl (fun _ => 0))), (q_2, .inl (ak 0, 16, .inl (fun _ => 0)))] H := hP
  have hD : va_D A [(h0, .inr (4, [.null, .int (0), .ref q_1, .ref q_2, .null, .null])), (q_1, .inl (ak 0, 16, .inl (fun _ => 0))), (q_2, .inl (ak 0, 16, .inl (fun _ => 0)))] := hD
  refine lv_aload_n hx hb dX4_init_20 rfl (lv_at hl 0 rfl) ?_
  refine lv_bipush (v := 16) hx hb dX4_init_21 (by decide) ?_
  refine kn_a (atype := .int) (ty := .int) (a0 := (16, .inl (fun _ => 0))) (N' := 16) hx hb (hts (.arrayClass .int) (wm_c hw_267)) hE 0 rfl rfl (fun _ h => h) hP hD hS hA (fun cA => vp_cell_i cA 16 (fun _ => 0)) (by decide) (rfl) (by decide +kernel) (Nat.le_of_ble_eq_true rfl) (Nat.le_of_ble_eq_true rfl) dX4_init_23 (fun q_3 H hP hD hS => ?_)
  have hP : va_P D vwCl [(h0, .inr (4, [.null, .int (0), .ref q_1, .ref q_2, .null, .null])), (q_1, .inl (ak 0, 16, .inl (fun _ => 0))), (q_2, .inl (ak 0, 16, .inl (fun _ => 0))), (q_3, .inl (ak 0, 16, .inl (fun _ => 0)))] H := hP
  have hD : va_D A [(h0, .inr (4, [.null, .int (0), .ref q_1, .ref q_2, .null, .null])), (q_1, .inl (ak 0, 16, .inl (fun _ => 0))), (q_2, .inl (ak 0, 16, .inl (fun _ => 0))), (q_3, .inl (ak 0, 16, .inl (fun _ => 0)))] := hD
  refine W.widen (k := 3) (n := 48) (Nat.le_of_ble_eq_true rfl) (Nat.le_of_ble_eq_true rfl) ?_
  refine vt_putF (D := D) (ci := 4) (v := .ref q_3) (ty := .array .int) (C := RX4) (T := TX4) (N := 6) hx hb hts (fun w h => wm_c (wc_X4 w h)) tyX4 tyX4_ok nmX4 hown hE.1 hP hD hS 0 rfl rfl 4 (by decide) tX4_4 (hts (.fieldLink RX4 18 "WornLines$Survey" "peak" "[I") (wm_c hw_306)) (fun _ h9 => h9) rfl hin rfl pf_5 rfl rfl (Nat.le_of_ble_eq_true rfl) dX4_init_25 (fun H locs hP hD hS => ?_)
  have hP : va_P D vwCl [(h0, .inr (4, [.null, .int (0), .ref q_1, .ref q_2, .ref q_3, .null])), (q_1, .inl (ak 0, 16, .inl (fun _ => 0))), (q_2, .inl (ak 0, 16, .inl (fun _ => 0))), (q_3, .inl (ak 0, 16, .inl (fun _ => 0)))] H := hP
  have hD : va_D A [(h0, .inr (4, [.null, .int (0), .ref q_1, .ref q_2, .ref q_3, .null])), (q_1, .inl (ak 0, 16, .inl (fun _ => 0))), (q_2, .inl (ak 0, 16, .inl (fun _ => 0))), (q_3, .inl (ak 0, 16, .inl (fun _ => 0)))] := hD
  refine lv_aload_n hx hb dX4_init_28 rfl (lv_at hl 0 rfl) ?_
  refine lv_bipush (v := 16) hx hb dX4_init_29 (by decide) ?_
  refine kn_a (atype := .int) (ty := .int) (a0 := (16, .inl (fun _ => 0))) (N' := 16) hx hb (hts (.arrayClass .int) (wm_c hw_267)) hE 0 rfl rfl (fun _ h => h) hP hD hS hA (fun cA => vp_cell_i cA 16 (fun _ => 0)) (by decide) (rfl) (by decide +kernel) (Nat.le_of_ble_eq_true rfl) (Nat.le_of_ble_eq_true rfl) dX4_init_31 (fun q_4 H hP hD hS => ?_)
  have hP : va_P D vwCl [(h0, .inr (4, [.null, .int (0), .ref q_1, .ref q_2, .ref q_3, .null])), (q_1, .inl (ak 0, 16, .inl (fun _ => 0))), (q_2, .inl (ak 0, 16, .inl (fun _ => 0))), (q_3, .inl (ak 0, 16, .inl (fun _ => 0))), (q_4, .inl (ak 0, 16, .inl (fun _ => 0)))] H := hP
  have hD : va_D A [(h0, .inr (4, [.null, .int (0), .ref q_1, .ref q_2, .ref q_3, .null])), (q_1, .inl (ak 0, 16, .inl (fun _ => 0))), (q_2, .inl (ak 0, 16, .inl (fun _ => 0))), (q_3, .inl (ak 0, 16, .inl (fun _ => 0))), (q_4, .inl (ak 0, 16, .inl (fun _ => 0)))] := hD
  refine W.widen (k := 4) (n := 64) (Nat.le_of_ble_eq_true rfl) (Nat.le_of_ble_eq_true rfl) ?_
  refine va_putF (D := D) (ci := 4) (v := .ref q_4) (ty := .array .int) (C := RX4) (T := TX4) (N := 6) hx hb hts (fun w h => wm_c (wc_X4 w h)) tyX4 tyX4_ok nmX4 hown hE.1 hP hD hS 0 rfl rfl 5 (by decide) (hts (.fieldLink RX4 21 "WornLines$Survey" "over" "[I") (wm_c hw_307)) (fun _ h9 => h9) rfl hin rfl pf_5 rfl rfl (Nat.le_of_ble_eq_true rfl) dX4_init_33 (fun H locs hP hD hS => ?_)
  have hP : va_P D vwCl [(h0, .inr (4, [.null, .int (0), .ref q_1, .ref q_2, .ref q_3, .ref q_4])), (q_1, .inl (ak 0, 16, .inl (fun _ => 0))), (q_2, .inl (ak 0, 16, .inl (fun _ => 0))), (q_3, .inl (ak 0, 16, .inl (fun _ => 0))), (q_4, .inl (ak 0, 16, .inl (fun _ => 0)))] H := hP
  have hD : va_D A [(h0, .inr (4, [.null, .int (0), .ref q_1, .ref q_2, .ref q_3, .ref q_4])), (q_1, .inl (ak 0, 16, .inl (fun _ => 0))), (q_2, .inl (ak 0, 16, .inl (fun _ => 0))), (q_3, .inl (ak 0, 16, .inl (fun _ => 0))), (q_4, .inl (ak 0, 16, .inl (fun _ => 0)))] := hD
  have hP9 := hP.sub (ws' := [(h0, .inr (4, [.null, .int (0), .ref q_1, .ref q_2, .ref q_3, .ref q_4])), (q_1, .inl (ak 0, 16, .inl (fun _ => 0))), (q_2, .inl (ak 0, 16, .inl (fun _ => 0))), (q_3, .inl (ak 0, 16, .inl (fun _ => 0))), (q_4, .inl (ak 0, 16, .inl (fun _ => 0)))]) [0, 1, 2, 3, 4] rfl
  have hD9 := hD.sub (ws' := [(h0, .inr (4, [.null, .int (0), .ref q_1, .ref q_2, .ref q_3, .ref q_4])), (q_1, .inl (ak 0, 16, .inl (fun _ => 0))), (q_2, .inl (ak 0, 16, .inl (fun _ => 0))), (q_3, .inl (ak 0, 16, .inl (fun _ => 0))), (q_4, .inl (ak 0, 16, .inl (fun _ => 0)))]) [0, 1, 2, 3, 4] (by decide) rfl
  refine W.widen (k := 4) (n := 64) (Nat.le_of_ble_eq_true rfl) (Nat.le_of_ble_eq_true rfl) ?_
  exact W.vret hx hb hr (fun t ht hW => ⟨⟨((fun k => match k with | 0 => q_1 | 1 => q_2 | 2 => q_3 | _ => q_4)), rfl, trivial, by rw [ht]; exact hP9, by rw [hAe]; exact hD9⟩, by rw [hAe]; exact hS.F ht⟩) hS.2.2 dX4_init_36

set_option maxHeartbeats 4000000 in
set_option maxRecDepth 100000 in
theorem c_X0_init (l : Launch) (D : va_G) (ak : Nat → ClassId) (ad : Nat → Nat) (sz : Nat) (h0 : Nat) (p0 : Nat)  : Met l yX0_init wsX0_init ({ frames := 1, cells := 19, slots := 1138, locals := 12 }) (cPre D ak ad [.ref h0, .ref p0] ([(h0, .inr (0, [.null, .null, .null, .int (0), .int (0)]))]) sz) (cV D (S := (Nat → Nat)) (fun (u : (Nat → Nat)) => True) (fun u => [(h0, .inr (0, [.ref p0, .ref (u 0), .ref (u 1), .int (0), .int (0)])), (u 0, .inl (ak 0, 16, .inl (fun _ => 0))), (u 1, .inl (ak 6, 17, .inr (.inr (.inr (.inr (fun i => if i < 17 then some (u 1 + 1 + i) else none))))))]) ([(h0, .inr (0, [.null, .null, .null, .int (0), .int (0)]))]) sz) 19 1138 (va_A ([(h0, .inr (0, [.null, .null, .null, .int (0), .int (0)]))]) sz) := by
  refine Met.ofW (cc := cX0_init) (maxL := 2) (ret := none) (by decide) rfl ?_
  intro p e s m args below meth c s₁ B hml hv
  obtain ⟨rfl, hsz, hP, hE, hD0, hT⟩ := hv
  have hx := B.exec
  have hb := B.bytes
  have hr := B.returns
  have hts := atoms_spec (ws := wsX0_init) B.pre
  have hown : s.vm.findClass RX0 = some m.cls := findClass_of_methodNamed B.named
  have hlocks := B.notSynchronized
  have hin : meth.name = "<init>" := (name_of_methodNamed B.named B.method).1
  subst hsz
  have hD := hD0.self (sz := s.heap.size)
  generalize hAe : va_A ([(h0, .inr (0, [.null, .null, .null, .int (0), .int (0)]))]) s.heap.size = A at hD hT ⊢
  have hA : ∀ q : Nat, s.heap.size ≤ q → A q := fun q h => by rw [← hAe]; exact Or.inr h
  have hS : va_S A s.heap s.heap [] := va_S.rf
  have hl := lv_entry ([.ref h0, .ref p0]) (n := 2) (Nat.le_of_ble_eq_true rfl)
  rw [lg_entry_eq]
  generalize (lg_sl ([.ref h0, .ref p0]) ++ List.replicate (2 - (lg_sl ([.ref h0, .ref p0])).length) Slot.unset).toArray = ls at hl ⊢
  have hl : lv_has ls 2 [(0, .ref h0), (1, .ref p0)] := hl
  have hP : va_P D vwCl [(h0, .inr (0, [.null, .null, .null, .int (0), .int (0)]))] s.heap := hP
  refine lv_aload_n hx hb dX0_init_0 rfl (lv_at hl 0 rfl) ?_
  refine W.objInit hx hb hown (hts (.methodLink RX0 3 objectInit) (wm_c hw_308)) (hts (.instanceMethod objectInit) (wm_c hw_261)) (hts (.code objectInit ⟨#[0xb1]⟩ 1 none) (wm_c hw_262)) rfl (by rw [hml]; exact hl.1) rfl dX0_init_1 (Nat.le_of_ble_eq_true rfl) (Nat.le_of_ble_eq_true rfl) ?_
  refine W.eq (g2 := F0 m 4 ls ([])) rfl ?_
  refine lv_aload_n hx hb dX0_init_4 rfl (lv_at hl 0 rfl) ?_
  refine lv_bipush (v := 16) hx hb dX0_init_5 (by decide) ?_
  refine kn_a (atype := .int) (ty := .int) (a0 := (16, .inl (fun _ => 0))) (N' := 16) hx hb (hts (.arrayClass .int) (wm_c hw_267)) hE 0 rfl rfl (fun _ h => h) hP hD hS hA (fun cA => vp_cell_i cA 16 (fun _ => 0)) (by decide) (rfl) (by decide +kernel) (Nat.le_of_ble_eq_true rfl) (Nat.le_of_ble_eq_true rfl) dX0_init_7 (fun q_1 H hP hD hS => ?_)
  have hP : va_P D vwCl [(h0, .inr (0, [.null, .null, .null, .int (0), .int (0)])), (q_1, .inl (ak 0, 16, .inl (fun _ => 0)))] H := hP
  have hD : va_D A [(h0, .inr (0, [.null, .null, .null, .int (0), .int (0)])), (q_1, .inl (ak 0, 16, .inl (fun _ => 0)))] := hD
  refine W.widen (k := 1) (n := 16) (Nat.le_of_ble_eq_true rfl) (Nat.le_of_ble_eq_true rfl) ?_
  refine vt_putF (D := D) (ci := 0) (v := .ref q_1) (ty := .array .int) (C := RX0) (T := TX0) (N := 5) hx hb hts (fun w h => wm_c (wc_X0 w h)) tyX0 tyX0_ok nmX0 hown hE.1 hP hD hS 0 rfl rfl 1 (by decide) tX0_1 (hts (.fieldLink RX0 9 "WornLines$Layout" "peak" "[I") (wm_c hw_309)) (fun _ h9 => h9) rfl hin rfl pf_5 rfl rfl (Nat.le_of_ble_eq_true rfl) dX0_init_9 (fun H locs hP hD hS => ?_)
  have hP : va_P D vwCl [(h0, .inr (0, [.null, .ref q_1, .null, .int (0), .int (0)])), (q_1, .inl (ak 0, 16, .inl (fun _ => 0)))] H := hP
  have hD : va_D A [(h0, .inr (0, [.null, .ref q_1, .null, .int (0), .int (0)])), (q_1, .inl (ak 0, 16, .inl (fun _ => 0)))] := hD
  refine lv_aload_n hx hb dX0_init_12 rfl (lv_at hl 0 rfl) ?_
  refine lv_bipush (v := 17) hx hb dX0_init_13 (by decide) ?_
  refine lv_bipush (v := 65) hx hb dX0_init_15 (by decide) ?_
  refine kn_g (N := 17) (M := 65) hx hb hown (hts (.classLink RX0 15 "[[I") (wm_c hw_310)) (hts (.arrayClass .int) (wm_c hw_267)) hE hP hD hS hA (by decide) (by decide) rfl rfl (Nat.le_of_ble_eq_true rfl) (Nat.le_of_ble_eq_true rfl) (Nat.le_of_ble_eq_true rfl) (Nat.le_of_ble_eq_true rfl) dX0_init_17 (fun q_2 H hP hD hS => ?_)
  have hP : va_P D vwCl [(h0, .inr (0, [.null, .ref q_1, .null, .int (0), .int (0)])), (q_1, .inl (ak 0, 16, .inl (fun _ => 0))), (q_2, .inl (ak 6, 17, .inr (.inr (.inr (.inr (fun i => if i < 17 then some (q_2 + 1 + i) else none)))))), (q_2 + 1 + 0, .inl (ak 0, 65, .inl (fun _ => 0))), (q_2 + 1 + 1, .inl (ak 0, 65, .inl (fun _ => 0))), (q_2 + 1 + 2, .inl (ak 0, 65, .inl (fun _ => 0))), (q_2 + 1 + 3, .inl (ak 0, 65, .inl (fun _ => 0))), (q_2 + 1 + 4, .inl (ak 0, 65, .inl (fun _ => 0))), (q_2 + 1 + 5, .inl (ak 0, 65, .inl (fun _ => 0))), (q_2 + 1 + 6, .inl (ak 0, 65, .inl (fun _ => 0))), (q_2 + 1 + 7, .inl (ak 0, 65, .inl (fun _ => 0))), (q_2 + 1 + 8, .inl (ak 0, 65, .inl (fun _ => 0))), (q_2 + 1 + 9, .inl (ak 0, 65, .inl (fun _ => 0))), (q_2 + 1 + 10, .inl (ak 0, 65, .inl (fun _ => 0))), (q_2 + 1 + 11, .inl (ak 0, 65, .inl (fun _ => 0))), (q_2 + 1 + 12, .inl (ak 0, 65, .inl (fun _ => 0))), (q_2 + 1 + 13, .inl (ak 0, 65, .inl (fun _ => 0))), (q_2 + 1 + 14, .inl (ak 0, 65, .inl (fun _ => 0))), (q_2 + 1 + 15, .inl (ak 0, 65, .inl (fun _ => 0))), (q_2 + 1 + 16, .inl (ak 0, 65, .inl (fun _ => 0)))] H := hP
  have hD : va_D A [(h0, .inr (0, [.null, .ref q_1, .null, .int (0), .int (0)])), (q_1, .inl (ak 0, 16, .inl (fun _ => 0))), (q_2, .inl (ak 6, 17, .inr (.inr (.inr (.inr (fun i => if i < 17 then some (q_2 + 1 + i) else none)))))), (q_2 + 1 + 0, .inl (ak 0, 65, .inl (fun _ => 0))), (q_2 + 1 + 1, .inl (ak 0, 65, .inl (fun _ => 0))), (q_2 + 1 + 2, .inl (ak 0, 65, .inl (fun _ => 0))), (q_2 + 1 + 3, .inl (ak 0, 65, .inl (fun _ => 0))), (q_2 + 1 + 4, .inl (ak 0, 65, .inl (fun _ => 0))), (q_2 + 1 + 5, .inl (ak 0, 65, .inl (fun _ => 0))), (q_2 + 1 + 6, .inl (ak 0, 65, .inl (fun _ => 0))), (q_2 + 1 + 7, .inl (ak 0, 65, .inl (fun _ => 0))), (q_2 + 1 + 8, .inl (ak 0, 65, .inl (fun _ => 0))), (q_2 + 1 + 9, .inl (ak 0, 65, .inl (fun _ => 0))), (q_2 + 1 + 10, .inl (ak 0, 65, .inl (fun _ => 0))), (q_2 + 1 + 11, .inl (ak 0, 65, .inl (fun _ => 0))), (q_2 + 1 + 12, .inl (ak 0, 65, .inl (fun _ => 0))), (q_2 + 1 + 13, .inl (ak 0, 65, .inl (fun _ => 0))), (q_2 + 1 + 14, .inl (ak 0, 65, .inl (fun _ => 0))), (q_2 + 1 + 15, .inl (ak 0, 65, .inl (fun _ => 0))), (q_2 + 1 + 16, .inl (ak 0, 65, .inl (fun _ => 0)))] := hD
  refine W.widen (k := 19) (n := 1138) (Nat.le_of_ble_eq_true rfl) (Nat.le_of_ble_eq_true rfl) ?_
  have hP := hP.sub (ws' := [(h0, .inr (0, [.null, .ref q_1, .null, .int (0), .int (0)])), (q_1, .inl (ak 0, 16, .inl (fun _ => 0))), (q_2, .inl (ak 6, 17, .inr (.inr (.inr (.inr (fun i => if i < 17 then some (q_2 + 1 + i) else none))))))]) [0, 1, 2] rfl
  have hD := hD.sub (ws' := [(h0, .inr (0, [.null, .ref q_1, .null, .int (0), .int (0)])), (q_1, .inl (ak 0, 16, .inl (fun _ => 0))), (q_2, .inl (ak 6, 17, .inr (.inr (.inr (.inr (fun i => if i < 17 then some (q_2 + 1 + i) else none))))))]) [0, 1, 2] (by decide) rfl
  refine vt_putF (D := D) (ci := 0) (v := .ref q_2) (ty := .array (.array .int)) (C := RX0) (T := TX0) (N := 5) hx hb hts (fun w h => wm_c (wc_X0 w h)) tyX0 tyX0_ok nmX0 hown hE.1 hP hD hS 0 rfl rfl 2 (by decide) tX0_2 (hts (.fieldLink RX0 17 "WornLines$Layout" "least" "[[I") (wm_c hw_311)) (fun _ h9 => h9) rfl hin rfl pf_10 rfl rfl (Nat.le_of_ble_eq_true rfl) dX0_init_21 (fun H locs hP hD hS => ?_)
  have hP : va_P D vwCl [(h0, .inr (0, [.null, .ref q_1, .ref q_2, .int (0), .int (0)])), (q_1, .inl (ak 0, 16, .inl (fun _ => 0))), (q_2, .inl (ak 6, 17, .inr (.inr (.inr (.inr (fun i => if i < 17 then some (q_2 + 1 + i) else none))))))] H := hP
  have hD : va_D A [(h0, .inr (0, [.null, .ref q_1, .ref q_2, .int (0), .int (0)])), (q_1, .inl (ak 0, 16, .inl (fun _ => 0))), (q_2, .inl (ak 6, 17, .inr (.inr (.inr (.inr (fun i => if i < 17 then some (q_2 + 1 + i) else none))))))] := hD
  refine lv_aload_n hx hb dX0_init_24 rfl (lv_at hl 0 rfl) ?_
  refine lv_aload_n hx hb dX0_init_25 rfl (lv_at hl 1 rfl) ?_
  refine vt_put (D := D) (ci := 0) (v := .ref p0) (ty := .object "WornLines$Programme") (C := RX0) (T := TX0) (N := 5) hx hb hts (fun w h => wm_c (wc_X0 w h)) tyX0 tyX0_ok nmX0 hown hE.1 hP hD hS 0 rfl rfl 0 (by decide) tX0_0 (hts (.fieldLink RX0 20 "WornLines$Layout" "programme" "LWornLines$Programme;") (wm_c hw_312)) (fun _ h9 => h9) rfl pf_9 rfl rfl (Nat.le_of_ble_eq_true rfl) dX0_init_26 (fun H locs hP hD hS => ?_)
  have hP : va_P D vwCl [(h0, .inr (0, [.ref p0, .ref q_1, .ref q_2, .int (0), .int (0)])), (q_1, .inl (ak 0, 16, .inl (fun _ => 0))), (q_2, .inl (ak 6, 17, .inr (.inr (.inr (.inr (fun i => if i < 17 then some (q_2 + 1 + i) else none))))))] H := hP
  have hD : va_D A [(h0, .inr (0, [.ref p0, .ref q_1, .ref q_2, .int (0), .int (0)])), (q_1, .inl (ak 0, 16, .inl (fun _ => 0))), (q_2, .inl (ak 6, 17, .inr (.inr (.inr (.inr (fun i => if i < 17 then some (q_2 + 1 + i) else none))))))] := hD
  have hP9 := hP.sub (ws' := [(h0, .inr (0, [.ref p0, .ref q_1, .ref q_2, .int (0), .int (0)])), (q_1, .inl (ak 0, 16, .inl (fun _ => 0))), (q_2, .inl (ak 6, 17, .inr (.inr (.inr (.inr (fun i => if i < 17 then some (q_2 + 1 + i) else none))))))]) [0, 1, 2] rfl
  have hD9 := hD.sub (ws' := [(h0, .inr (0, [.ref p0, .ref q_1, .ref q_2, .int (0), .int (0)])), (q_1, .inl (ak 0, 16, .inl (fun _ => 0))), (q_2, .inl (ak 6, 17, .inr (.inr (.inr (.inr (fun i => if i < 17 then some (q_2 + 1 + i) else none))))))]) [0, 1, 2] (by decide) rfl
  refine W.widen (k := 19) (n := 1138) (Nat.le_of_ble_eq_true rfl) (Nat.le_of_ble_eq_true rfl) ?_
  exact W.vret hx hb hr (fun t ht hW => ⟨⟨((fun k => match k with | 0 => q_1 | _ => q_2)), rfl, trivial, by rw [ht]; exact hP9, by rw [hAe]; exact hD9⟩, by rw [hAe]; exact hS.F ht⟩) hS.2.2 dX0_init_29
end
section
abbrev cT (D : va_G) (ad : Nat → Nat) {S : Type} (post : Nat → S → Prop) (w : S → va_W) (ws : va_W) (sz : Nat) := va_Qe ad (fun (r : Option Nat) (u : S) => ∃ k : Nat, r = some k ∧ post k u) (cEnd D w ws sz) (va_A ws sz)
section KCT
variable {p : Program} {l : Launch} {e : Env} {R : Room} {s : State} {m : MethodId} {args : Array Value} {below : List Frame} {meth : Method} {c : Code} {H : Heap} {locs : List Loc} {cells slots : Nat} {Q : State → Prop}
variable {pc : Nat} {ls : Array Slot} {rest st0 : List Value} {a : Array Value} {A : Nat → Prop} {mc ms : Nat} {D : va_G} {ws wc wr : va_W} {ad : Nat → Nat}
theorem kc_t {S : Type} {post : Nat → S → Prop} {w : S → va_W} (hP : va_P D vwCl ws H) (hD : va_D A ws) (hS : va_S A s.heap H locs) (hA : ∀ q, s.heap.size ≤ q → A q) (isC isR : List Nat) (hC : isC.map (fun i => ws[i]?) = wc.map some) (hR : isR.map (fun i => ws[i]?) = wr.map some) (hn : va_nd isR = true) (hdis : ∀ i ∈ isR, i ∉ isC)
    (hr : va_Run p l e R s m args below meth c H locs cells slots mc ms (F0 m pc ls st0) rest (cT D ad post w wc H.size a) (va_A wc H.size))
    (kk : ∀ (r : Nat) (u : S) (H1 : Heap) (locs1 : List Loc), post r u → va_P D vwCl (wr ++ w u) H1 → va_D A (wr ++ w u) → va_S A s.heap H1 locs1 → W p l e R s m args below meth c H1 locs1 (cells + mc) (slots + ms) Q (F0 m (pc + 3) ls (.ref (ad r) :: rest))) : W p l e R s m args below meth c H locs cells slots Q (F0 m pc ls st0) := by
  have hF := va_free hD hS hA isC hC
  refine va_calle hr hS (fun q _ h => hF q h) hF (fun r u t H1 locs1 ht hvm hw hB hz hk hS1 => ?_)
  obtain ⟨k, rfl, hw⟩ := hw
  obtain ⟨hP1, hD1⟩ := hB
  rw [ht] at hP1
  obtain ⟨h1, h2⟩ := va_join hP hD isC isR hC hR hn hdis hk hF hP1 hD1
  exact kk k u H1 locs1 hw h1 h2 hS1
end KCT
theorem bl_fit {v : Int32} (h : v = 0 ∨ v = 1) : fits .boolean (.int v) = true := by rcases h with rfl | rfl <;> rfl
abbrev cRp (D : va_G) {S : Type} (post : S → Prop) (rf : S → Nat) (w : S → va_W) (ws : va_W) (sz : Nat) := va_Qr post (fun (u : S) (a : Nat) (t : State) => a = rf u ∧ va_P D vwCl (w u) t.heap ∧ va_D (va_A ws sz) (w u)) (va_A ws sz)
section KCP
variable {p : Program} {l : Launch} {e : Env} {R : Room} {s : State} {m : MethodId} {args : Array Value} {below : List Frame} {meth : Method} {c : Code} {H : Heap} {locs : List Loc} {cells slots : Nat} {Q : State → Prop}
variable {pc : Nat} {ls : Array Slot} {rest st0 : List Value} {a : Array Value} {A : Nat → Prop} {mc ms : Nat} {D : va_G} {ws wc wr : va_W} {ad : Nat → Nat}
theorem kc_rp {S : Type} {post : S → Prop} {rf : S → Nat} {w : S → va_W} (hP : va_P D vwCl ws H) (hD : va_D A ws) (hS : va_S A s.heap H locs) (hA : ∀ q, s.heap.size ≤ q → A q) (isC isR : List Nat) (hC : isC.map (fun i => ws[i]?) = wc.map some) (hR : isR.map (fun i => ws[i]?) = wr.map some) (hn : va_nd isR = true) (hdis : ∀ i ∈ isR, i ∉ isC)
    (hr : va_Run p l e R s m args below meth c H locs cells slots mc ms (F0 m pc ls st0) rest (cRp D post rf w wc H.size a) (va_A wc H.size))
    (kk : ∀ (u : S) (H1 : Heap) (locs1 : List Loc), post u → va_P D vwCl (wr ++ w u) H1 → va_D A (wr ++ w u) → va_S A s.heap H1 locs1 → W p l e R s m args below meth c H1 locs1 (cells + mc) (slots + ms) Q (F0 m (pc + 3) ls (.ref (rf u) :: rest))) : W p l e R s m args below meth c H locs cells slots Q (F0 m pc ls st0) := by
  have hF := va_free hD hS hA isC hC
  refine va_callr hr hS (fun q _ h => hF q h) hF (fun u ra t H1 locs1 ht hvm hw hB hz hk hS1 => ?_)
  obtain ⟨rfl, hP1, hD1⟩ := hB
  rw [ht] at hP1
  obtain ⟨h1, h2⟩ := va_join hP hD isC isR hC hR hn hdis hk hF hP1 hD1
  exact kk u H1 locs1 hw h1 h2 hS1
end KCP
end
section
theorem dJ7_fill_53178_5 : decode cJ7_fill_53178 5 = .ok (.iload_n 2, 1) := by decide +kernel
theorem dJ7_fill_53178_6 : decode cJ7_fill_53178 6 = .ok (.iload_n 3, 1) := by decide +kernel
theorem dJ7_fill_53178_7 : decode cJ7_fill_53178 7 = .ok (.if_icmp .ge 13, 3) := by decide +kernel
theorem dJ7_fill_53178_10 : decode cJ7_fill_53178 10 = .ok (.aload_n 0, 1) := by decide +kernel
theorem dJ7_fill_53178_11 : decode cJ7_fill_53178 11 = .ok (.iload_n 2, 1) := by decide +kernel
theorem dJ7_fill_53178_12 : decode cJ7_fill_53178 12 = .ok (.iload_n 1, 1) := by decide +kernel
theorem dJ7_fill_53178_13 : decode cJ7_fill_53178 13 = .ok (.iastore, 1) := by decide +kernel
theorem dJ7_fill_53178_14 : decode cJ7_fill_53178 14 = .ok (.iinc 2 1, 3) := by decide +kernel
theorem dJ7_fill_53178_17 : decode cJ7_fill_53178 17 = .ok (.goto (-12), 3) := by decide +kernel
theorem dJ7_fill_53178_0 : decode cJ7_fill_53178 0 = .ok (.iconst 0, 1) := by decide +kernel
theorem dJ7_fill_53178_1 : decode cJ7_fill_53178 1 = .ok (.istore_n 2, 1) := by decide +kernel
theorem dJ7_fill_53178_2 : decode cJ7_fill_53178 2 = .ok (.aload_n 0, 1) := by decide +kernel
theorem dJ7_fill_53178_3 : decode cJ7_fill_53178 3 = .ok (.arraylength, 1) := by decide +kernel
theorem dJ7_fill_53178_4 : decode cJ7_fill_53178 4 = .ok (.istore_n 3, 1) := by decide +kernel
theorem dJ7_fill_53178_20 : decode cJ7_fill_53178 20 = .ok (.return_, 1) := by decide +kernel
theorem dX2_width_0 : decode cX2_width 0 = .ok (.iconst 1, 1) := by decide +kernel
theorem dX2_width_1 : decode cX2_width 1 = .ok (.aload_n 0, 1) := by decide +kernel
theorem dX2_width_2 : decode cX2_width 2 = .ok (.getfield 27, 3) := by decide +kernel
theorem dX2_width_5 : decode cX2_width 5 = .ok (.iload_n 1, 1) := by decide +kernel
theorem dX2_width_6 : decode cX2_width 6 = .ok (.iaload, 1) := by decide +kernel
theorem dX2_width_7 : decode cX2_width 7 = .ok (.aload_n 0, 1) := by decide +kernel
theorem dX2_width_8 : decode cX2_width 8 = .ok (.getfield 24, 3) := by decide +kernel
theorem dX2_width_11 : decode cX2_width 11 = .ok (.iload_n 1, 1) := by decide +kernel
theorem dX2_width_12 : decode cX2_width 12 = .ok (.iaload, 1) := by decide +kernel
theorem dX2_width_13 : decode cX2_width 13 = .ok (.isub, 1) := by decide +kernel
theorem dX2_width_14 : decode cX2_width 14 = .ok (.iconst 1, 1) := by decide +kernel
theorem dX2_width_15 : decode cX2_width 15 = .ok (.iadd, 1) := by decide +kernel
theorem dX2_width_16 : decode cX2_width 16 = .ok (.invokestatic 59, 3) := by decide +kernel
theorem dX2_width_19 : decode cX2_width 19 = .ok (.ireturn, 1) := by decide +kernel
theorem dX2_inputCount_4 : decode cX2_inputCount 4 = .ok (.iload_n 2, 1) := by decide +kernel
theorem dX2_inputCount_5 : decode cX2_inputCount 5 = .ok (.aload_n 0, 1) := by decide +kernel
theorem dX2_inputCount_6 : decode cX2_inputCount 6 = .ok (.getfield 51, 3) := by decide +kernel
theorem dX2_inputCount_9 : decode cX2_inputCount 9 = .ok (.if_icmp .ge 17, 3) := by decide +kernel
theorem dX2_inputCount_26 : decode cX2_inputCount 26 = .ok (.iload_n 1, 1) := by decide +kernel
theorem dX2_inputCount_12 : decode cX2_inputCount 12 = .ok (.iload_n 1, 1) := by decide +kernel
theorem dX2_inputCount_13 : decode cX2_inputCount 13 = .ok (.aload_n 0, 1) := by decide +kernel
theorem dX2_inputCount_14 : decode cX2_inputCount 14 = .ok (.iload_n 2, 1) := by decide +kernel
set_option maxRecDepth 20000 in
theorem ggX2_inputCount_X2_width : GoodIn wsX2_inputCount wsX2_width := gup gc_X2_width
set_option maxRecDepth 20000 in
theorem gX2_inputCount_X2_width : GoodIn wsX2_inputCount (wsV RX2 55 RX2 yX2_width wsX2_width) := gup (glV hw_315 hw_316 hw_317 hw_318 gc_X2_width)
theorem dX2_inputCount_15 : decode cX2_inputCount 15 = .ok (.invokevirtual 55, 3) := by decide +kernel
theorem dX2_inputCount_18 : decode cX2_inputCount 18 = .ok (.imul, 1) := by decide +kernel
theorem dX2_inputCount_19 : decode cX2_inputCount 19 = .ok (.istore_n 1, 1) := by decide +kernel
theorem dX2_inputCount_20 : decode cX2_inputCount 20 = .ok (.iinc 2 1, 3) := by decide +kernel
theorem dX2_inputCount_23 : decode cX2_inputCount 23 = .ok (.goto (-19), 3) := by decide +kernel
theorem dX2_inputCount_0 : decode cX2_inputCount 0 = .ok (.iconst 1, 1) := by decide +kernel
theorem dX2_inputCount_1 : decode cX2_inputCount 1 = .ok (.istore_n 1, 1) := by decide +kernel
theorem dX2_inputCount_2 : decode cX2_inputCount 2 = .ok (.iconst 0, 1) := by decide +kernel
theorem dX2_inputCount_3 : decode cX2_inputCount 3 = .ok (.istore_n 2, 1) := by decide +kernel
theorem dX2_inputCount_27 : decode cX2_inputCount 27 = .ok (.ireturn, 1) := by decide +kernel
theorem dX2_atFirst_18 : decode cX2_atFirst 18 = .ok (.iload 5, 2) := by decide +kernel
theorem dX2_atFirst_20 : decode cX2_atFirst 20 = .ok (.ifCond .lt 49, 3) := by decide +kernel
theorem dX2_atFirst_69 : decode cX2_atFirst 69 = .ok (.iload_n 3, 1) := by decide +kernel
theorem dX2_atFirst_23 : decode cX2_atFirst 23 = .ok (.aload_n 0, 1) := by decide +kernel
theorem dX2_atFirst_24 : decode cX2_atFirst 24 = .ok (.iload 5, 2) := by decide +kernel
set_option maxRecDepth 20000 in
theorem ggX2_atFirst_X2_width : GoodIn wsX2_atFirst wsX2_width := gup gc_X2_width
set_option maxRecDepth 20000 in
theorem gX2_atFirst_X2_width : GoodIn wsX2_atFirst (wsV RX2 55 RX2 yX2_width wsX2_width) := gup (glV hw_315 hw_316 hw_317 hw_318 gc_X2_width)
theorem dX2_atFirst_26 : decode cX2_atFirst 26 = .ok (.invokevirtual 55, 3) := by decide +kernel
theorem dX2_atFirst_29 : decode cX2_atFirst 29 = .ok (.istore 6, 2) := by decide +kernel
theorem dX2_atFirst_31 : decode cX2_atFirst 31 = .ok (.aload_n 0, 1) := by decide +kernel
theorem dX2_atFirst_32 : decode cX2_atFirst 32 = .ok (.getfield 21, 3) := by decide +kernel
theorem dX2_atFirst_35 : decode cX2_atFirst 35 = .ok (.iload 5, 2) := by decide +kernel
theorem dX2_atFirst_37 : decode cX2_atFirst 37 = .ok (.iaload, 1) := by decide +kernel
theorem dX2_atFirst_38 : decode cX2_atFirst 38 = .ok (.iload_n 2, 1) := by decide +kernel
theorem dX2_atFirst_39 : decode cX2_atFirst 39 = .ok (.if_icmp .ne 17, 3) := by decide +kernel
theorem dX2_atFirst_56 : decode cX2_atFirst 56 = .ok (.iload 4, 2) := by decide +kernel
theorem dX2_atFirst_58 : decode cX2_atFirst 58 = .ok (.iload 6, 2) := by decide +kernel
theorem dX2_atFirst_60 : decode cX2_atFirst 60 = .ok (.idiv, 1) := by decide +kernel
theorem dX2_atFirst_61 : decode cX2_atFirst 61 = .ok (.istore 4, 2) := by decide +kernel
theorem dX2_atFirst_63 : decode cX2_atFirst 63 = .ok (.iinc 5 (-1), 3) := by decide +kernel
theorem dX2_atFirst_66 : decode cX2_atFirst 66 = .ok (.goto (-48), 3) := by decide +kernel
theorem dX2_atFirst_42 : decode cX2_atFirst 42 = .ok (.aload_n 0, 1) := by decide +kernel
theorem dX2_atFirst_43 : decode cX2_atFirst 43 = .ok (.getfield 24, 3) := by decide +kernel
theorem dX2_atFirst_46 : decode cX2_atFirst 46 = .ok (.iload 5, 2) := by decide +kernel
theorem dX2_atFirst_48 : decode cX2_atFirst 48 = .ok (.iaload, 1) := by decide +kernel
theorem dX2_atFirst_49 : decode cX2_atFirst 49 = .ok (.iload 4, 2) := by decide +kernel
theorem dX2_atFirst_51 : decode cX2_atFirst 51 = .ok (.iload 6, 2) := by decide +kernel
theorem dX2_atFirst_53 : decode cX2_atFirst 53 = .ok (.irem, 1) := by decide +kernel
theorem dX2_atFirst_54 : decode cX2_atFirst 54 = .ok (.iadd, 1) := by decide +kernel
theorem dX2_atFirst_55 : decode cX2_atFirst 55 = .ok (.istore_n 3, 1) := by decide +kernel
theorem dX2_atFirst_0 : decode cX2_atFirst 0 = .ok (.aload_n 0, 1) := by decide +kernel
theorem dX2_atFirst_1 : decode cX2_atFirst 1 = .ok (.getfield 18, 3) := by decide +kernel
theorem dX2_atFirst_4 : decode cX2_atFirst 4 = .ok (.iload_n 2, 1) := by decide +kernel
theorem dX2_atFirst_5 : decode cX2_atFirst 5 = .ok (.iaload, 1) := by decide +kernel
theorem dX2_atFirst_6 : decode cX2_atFirst 6 = .ok (.istore_n 3, 1) := by decide +kernel
theorem dX2_atFirst_7 : decode cX2_atFirst 7 = .ok (.iload_n 1, 1) := by decide +kernel
theorem dX2_atFirst_8 : decode cX2_atFirst 8 = .ok (.istore 4, 2) := by decide +kernel
theorem dX2_atFirst_10 : decode cX2_atFirst 10 = .ok (.aload_n 0, 1) := by decide +kernel
theorem dX2_atFirst_11 : decode cX2_atFirst 11 = .ok (.getfield 51, 3) := by decide +kernel
theorem dX2_atFirst_14 : decode cX2_atFirst 14 = .ok (.iconst 1, 1) := by decide +kernel
theorem dX2_atFirst_15 : decode cX2_atFirst 15 = .ok (.isub, 1) := by decide +kernel
theorem dX2_atFirst_16 : decode cX2_atFirst 16 = .ok (.istore 5, 2) := by decide +kernel
theorem dX2_atFirst_70 : decode cX2_atFirst 70 = .ok (.ireturn, 1) := by decide +kernel
theorem dX7_within_0 : decode cX7_within 0 = .ok (.iload_n 0, 1) := by decide +kernel
theorem dX7_within_1 : decode cX7_within 1 = .ok (.ifCond .lt 12, 3) := by decide +kernel
theorem dX7_within_13 : decode cX7_within 13 = .ok (.iconst 0, 1) := by decide +kernel
theorem dX7_within_4 : decode cX7_within 4 = .ok (.iload_n 0, 1) := by decide +kernel
theorem dX7_within_5 : decode cX7_within 5 = .ok (.iload_n 1, 1) := by decide +kernel
theorem dX7_within_6 : decode cX7_within 6 = .ok (.if_icmp .ge 7, 3) := by decide +kernel
theorem dX7_within_9 : decode cX7_within 9 = .ok (.iconst 1, 1) := by decide +kernel
theorem dX7_within_10 : decode cX7_within 10 = .ok (.goto 4, 3) := by decide +kernel
theorem dX7_within_14 : decode cX7_within 14 = .ok (.ireturn, 1) := by decide +kernel
def xob (mm : Nat → Nat) (pg : Nat) (x7 x8 x9 x10 x11 : Int32) : List Value := [.ref pg, .ref (mm 0), .ref (mm 1), .ref (mm 2), .ref (mm 3), .ref (mm 4), .ref (mm 5), .int x7, .int x8, .int x9, .int x10, .int x11]

def pob (pa : Nat → Nat) (x0 x3 x5 x9 : Int32) : List Value := [.int x0, .ref (pa 0), .ref (pa 1), .int x3, .ref (pa 2), .int x5, .ref (pa 3), .ref (pa 4), .ref (pa 5), .int x9, .ref (pa 6), .ref (pa 7), .ref (pa 8), .ref (pa 9), .ref (pa 10), .ref (pa 11), .ref (pa 12)]

def sob (sa : Nat → Nat) (x0 : Option Nat) (x1 : Int32) : List Value := [va_rf x0, .int x1, .ref (sa 0), .ref (sa 1), .ref (sa 2), .ref (sa 3)]

def tob (ta : Nat → Nat) (x1 x5 : Int32) : List Value := [.ref (ta 0), .int x1, .ref (ta 1), .ref (ta 2), .ref (ta 3), .int x5]

def wW_J7_fill_53178 (ak : Nat → ClassId) (ad : Nat → Nat) (ra : Nat) (rl : Nat) (Ar : Nat → Int32) : va_W := [(ra, .inl (ak 0, rl, .inl (Ar)))]
def lb_J7_fill_53178_5 (rl : Nat) (xv : Int32)  (Φ : (Nat → Int32) → Prop) (back : (Nat → Int32) → Int32 → Int32 → Prop) (Ar : Nat → Int32) (l2 : Int32) (l3 : Int32) : Prop := (l3 ≤ l2 → Φ Ar) ∧ (¬ l3 ≤ l2 → vp_in l2 rl ∧ back (upd Ar (l2).toNatClampNeg xv) (l2 + 1) l3)
def lf_J7_fill_53178_5 (rl : Nat) (xv : Int32)  (Φ : (Nat → Int32) → Prop) : Nat → (Nat → Int32) → Int32 → Int32 → Prop
  | 0, _, _, _ => False
  | n_ + 1, Ar, l2, l3 => lb_J7_fill_53178_5 rl xv  Φ (lf_J7_fill_53178_5 rl xv  Φ n_) Ar l2 l3
theorem li_J7_fill_53178_5 (rl : Nat) (xv : Int32)  (Φ : (Nat → Int32) → Prop) (Inv : (Nat → Int32) → Int32 → Int32 → Prop) (mu : (Nat → Int32) → Int32 → Int32 → Nat) (hs : ∀ (back : (Nat → Int32) → Int32 → Int32 → Prop) (Ar : Nat → Int32) (l2 : Int32) (l3 : Int32), Inv Ar l2 l3 → (∀ (Ar' : Nat → Int32) (l2' : Int32) (l3' : Int32), Inv Ar' l2' l3' → mu Ar' l2' l3' < mu Ar l2 l3 → back Ar' l2' l3') → lb_J7_fill_53178_5 rl xv  Φ back Ar l2 l3) : ∀ (n_ : Nat) (Ar : Nat → Int32) (l2 : Int32) (l3 : Int32), Inv Ar l2 l3 → mu Ar l2 l3 < n_ → lf_J7_fill_53178_5 rl xv  Φ n_ Ar l2 l3 := by
  intro n_
  induction n_ with
  | zero => intro Ar l2 l3 _ h; exact absurd h (Nat.not_lt_zero _)
  | succ n_ ih => intro Ar l2 l3 hI hm; exact hs _ Ar l2 l3 hI (fun Ar' l2' l3' h1 h2 => ih Ar' l2' l3' h1 (by omega))
set_option maxHeartbeats 4000000 in
set_option maxRecDepth 100000 in
theorem lp_J7_fill_53178_5 {p : Program} {l : Launch} {e : Env} {R : Room} {s : State} {m : MethodId} {args : Array Value} {below : List Frame} {meth : Method} {c : Code} {cells slots : Nat} {Q : State → Prop} {A : Nat → Prop} {D : va_G} {ak : Nat → ClassId} {ad : Nat → Nat} (hx : p.tables.exec = Jvm.exec) (hb : c.code = cJ7_fill_53178) (hown : s.vm.findClass RJ7 = some m.cls) (hts : ∀ w ∈ wsJ7_fill_53178, w.before args s = true) (hml : c.maxLocals = 4) (hE : EV D ak s) (hT : ST D ak ad A s s.heap) (hA : ∀ q, s.heap.size ≤ q → A q) (ra : Nat) (rl : Nat) (xv : Int32)  (Φ : (Nat → Int32) → Prop)
    (kR20 : ∀ (Ar : Nat → Int32) (H : Heap) (locs : List Loc) (ls : Array Slot), Φ Ar → va_P D vwCl (wW_J7_fill_53178 ak ad ra rl Ar) H → va_D A (wW_J7_fill_53178 ak ad ra rl Ar) → va_S A s.heap H locs → W p l e R s m args below meth c H locs cells slots Q (F0 m 20 ls []))
    : ∀ (n_ : Nat) (Ar : Nat → Int32) (l2 : Int32) (l3 : Int32) (H : Heap) (locs : List Loc) (ls : Array Slot), lf_J7_fill_53178_5 rl xv  Φ n_ Ar l2 l3 → va_P D vwCl (wW_J7_fill_53178 ak ad ra rl Ar) H → va_D A (wW_J7_fill_53178 ak ad ra rl Ar) → va_S A s.heap H locs → lv_has ls 4 [(0, .ref ra), (1, .int (xv)), (2, .int (l2)), (3, .int (l3))] → W p l e R s m args below meth c H locs cells slots Q (F0 m 5 ls ([])) := by
  intro n_
  induction n_ with
  | zero =>
    intro Ar l2 l3 H locs ls hw
    exact hw.elim
  | succ n_ ih =>
    intro Ar l2 l3 H locs ls hw hP hD hS hl
    have hw : lb_J7_fill_53178_5 rl xv  Φ (lf_J7_fill_53178_5 rl xv  Φ n_) Ar l2 l3 := hw
    delta lb_J7_fill_53178_5 at hw
    refine lv_iload_n hx hb dJ7_fill_53178_5 rfl (lv_at hl 2 rfl) ?_
    refine lv_iload_n hx hb dJ7_fill_53178_6 rfl (lv_at hl 3 rfl) ?_
    refine lv_icmp_ge (tgt := 20) hx hb dJ7_fill_53178_7 (by decide) (fun c_1 => ?_) (fun c_1 => ?_)
    · replace hw := hw.1 c_1
      exact kR20 Ar _ _ _ hw hP hD hS
    · replace hw := hw.2 c_1
      refine lv_aload_n hx hb dJ7_fill_53178_10 rfl (lv_at hl 0 rfl) ?_
      refine lv_iload_n hx hb dJ7_fill_53178_11 rfl (lv_at hl 2 rfl) ?_
      refine lv_iload_n hx hb dJ7_fill_53178_12 rfl (lv_at hl 1 rfl) ?_
      obtain ⟨h_2, hw⟩ := hw
      refine va_iast hx hb hE.1 hP hD hS 0 0 rfl rfl (h_2) dJ7_fill_53178_13 (fun H locs hP hD hS => ?_)
      have hP : va_P D vwCl (wW_J7_fill_53178 ak ad ra rl (upd Ar (l2).toNatClampNeg xv)) H := hP
      have hD : va_D A (wW_J7_fill_53178 ak ad ra rl (upd Ar (l2).toNatClampNeg xv)) := hD
      refine lv_iinc (v := (l2 + 1)) (lv' := [(2, .int (l2 + 1)), (0, .ref ra), (1, .int (xv)), (3, .int (l3))]) hx hb dJ7_fill_53178_14 hl (k := 2) rfl (rfl) (by decide) rfl (fun ls hl => ?_)
      refine lv_goto (tgt := 5) hx hb dJ7_fill_53178_17 (by decide) ?_
      exact ih (upd Ar (l2).toNatClampNeg xv) (l2 + 1) l3 _ _ _ hw hP hD hS (lv_sub hl [1, 2, 0, 3] rfl)

def wp_J7_fill_53178 (rl : Nat) (xv : Int32) (Ar : Nat → Int32) (Φ : (Nat → Int32) → Prop) : Prop := (∃ n_, lf_J7_fill_53178_5 rl xv  Φ n_ Ar 0 (nI rl))
set_option maxHeartbeats 4000000 in
set_option maxRecDepth 100000 in
theorem kj_J7_fill_53178_e {p : Program} {l : Launch} {e : Env} {R : Room} {s : State} {m : MethodId} {args : Array Value} {below : List Frame} {meth : Method} {c : Code} {cells slots : Nat} {Q : State → Prop} {A : Nat → Prop} {D : va_G} {ak : Nat → ClassId} {ad : Nat → Nat} (hx : p.tables.exec = Jvm.exec) (hb : c.code = cJ7_fill_53178) (hown : s.vm.findClass RJ7 = some m.cls) (hts : ∀ w ∈ wsJ7_fill_53178, w.before args s = true) (hml : c.maxLocals = 4) (hE : EV D ak s) (hT : ST D ak ad A s s.heap) (hA : ∀ q, s.heap.size ≤ q → A q) (ra : Nat) (rl : Nat) (xv : Int32)  (Φ : (Nat → Int32) → Prop)
    (kR20 : ∀ (Ar : Nat → Int32) (H : Heap) (locs : List Loc) (ls : Array Slot), Φ Ar → va_P D vwCl (wW_J7_fill_53178 ak ad ra rl Ar) H → va_D A (wW_J7_fill_53178 ak ad ra rl Ar) → va_S A s.heap H locs → W p l e R s m args below meth c H locs cells slots Q (F0 m 20 ls []))
    : ∀ (Ar : Nat → Int32) (H : Heap) (locs : List Loc) (ls : Array Slot), wp_J7_fill_53178 rl xv Ar Φ → va_P D vwCl (wW_J7_fill_53178 ak ad ra rl Ar) H → va_D A (wW_J7_fill_53178 ak ad ra rl Ar) → va_S A s.heap H locs → lv_has ls 4 [(0, .ref ra), (1, .int (xv))] → W p l e R s m args below meth c H locs cells slots Q (F0 m 0 ls ([])) := by
  intro Ar H locs ls hw hP hD hS hl
  delta wp_J7_fill_53178 at hw
  refine lv_iconst (v := 0) hx hb dJ7_fill_53178_0 (by decide) ?_
  refine lv_istore_n (lv' := [(2, .int (0)), (0, .ref ra), (1, .int (xv))]) hx hb dJ7_fill_53178_1 rfl hl (by decide) rfl (fun ls hl => ?_)
  refine lv_aload_n hx hb dJ7_fill_53178_2 rfl (lv_at hl 1 rfl) ?_
  refine va_alen hx hb hE.1 hP 0 0 rfl rfl (v := nI rl) rfl dJ7_fill_53178_3 ?_
  refine lv_istore_n (lv' := [(3, .int (nI rl)), (2, .int (0)), (0, .ref ra), (1, .int (xv))]) hx hb dJ7_fill_53178_4 rfl hl (by decide) rfl (fun ls hl => ?_)
  obtain ⟨n1_, hw⟩ := hw
  exact lp_J7_fill_53178_5 hx hb hown hts hml hE hT hA ra rl xv  Φ  kR20 n1_ Ar 0 (nI rl) _ _ _ hw hP hD hS (lv_sub hl [2, 3, 1, 0] rfl)
set_option maxHeartbeats 4000000 in
set_option maxRecDepth 100000 in
theorem c_J7_fill_53178 (l : Launch) (D : va_G) (ak : Nat → ClassId) (ad : Nat → Nat) (sz : Nat) (ra : Nat) (rl : Nat) (Ar : Nat → Int32) (xv : Int32) (Φ : (Nat → Int32) → Prop) (hf : wp_J7_fill_53178 rl xv Ar Φ) : Met l yJ7_fill_53178 wsJ7_fill_53178 ({ frames := 0, cells := 0, slots := 0, locals := 0 }) (cPre D ak ad [.ref ra, .int (xv)] ((wW_J7_fill_53178 ak ad ra rl Ar)) sz) (cV D (S := (Nat → Int32)) (fun (u : (Nat → Int32)) => Φ u) (fun u => (wW_J7_fill_53178 ak ad ra rl u)) ((wW_J7_fill_53178 ak ad ra rl Ar)) sz) 0 0 (va_A ((wW_J7_fill_53178 ak ad ra rl Ar)) sz) := by
  refine Met.ofW (cc := cJ7_fill_53178) (maxL := 4) (ret := none) (by decide) rfl ?_
  intro p e s m args below meth c s₁ B hml hv
  obtain ⟨rfl, hsz, hP, hE, hD0, hT⟩ := hv
  have hx := B.exec
  have hb := B.bytes
  have hr := B.returns
  have hts := atoms_spec (ws := wsJ7_fill_53178) B.pre
  have hown : s.vm.findClass RJ7 = some m.cls := findClass_of_methodNamed B.named
  have hlocks := B.notSynchronized
  subst hsz
  have hD := hD0.self (sz := s.heap.size)
  generalize hAe : va_A ((wW_J7_fill_53178 ak ad ra rl Ar)) s.heap.size = A at hD hT ⊢
  have hA : ∀ q : Nat, s.heap.size ≤ q → A q := fun q h => by rw [← hAe]; exact Or.inr h
  have hS : va_S A s.heap s.heap [] := va_S.rf
  have hl := lv_entry ([.ref ra, .int (xv)]) (n := 4) (Nat.le_of_ble_eq_true rfl)
  rw [lg_entry_eq]
  generalize (lg_sl ([.ref ra, .int (xv)]) ++ List.replicate (4 - (lg_sl ([.ref ra, .int (xv)])).length) Slot.unset).toArray = ls at hl ⊢
  have hl : lv_has ls 4 [(0, .ref ra), (1, .int (xv))] := hl
  exact kj_J7_fill_53178_e hx hb hown hts hml hE hT hA ra rl xv Φ (fun Ar H locs ls hw hP hD hS => W.vret hx hb hr (fun t ht hW => ⟨⟨Ar, rfl, hw, by rw [ht]; exact hP, by rw [hAe]; exact hD⟩, by rw [hAe]; exact hS.F ht⟩) hS.2.2 dJ7_fill_53178_20) Ar _ _ _ hf hP hD hS hl

def wK_X2_width (ak : Nat → ClassId) (ad : Nat → Nat) (pg : Nat) (pa : Nat → Nat) (Pst : Int32) (Pce : Int32) (Pgi : Int32) (Pln : Int32) (Pleast : Nat → Int32) (Pgreat : Nat → Int32) : va_W := [(pg, .inr (2, pob pa (Pst) (Pce) (Pgi) (Pln))), ((pa 4), .inl (ak 0, 2, .inl (Pleast))), ((pa 5), .inl (ak 0, 2, .inl (Pgreat)))]
def wp_X2_width (Pleast : Nat → Int32) (Pgreat : Nat → Int32) (xi : Int32)  (Φ : Int32 → Prop) : Prop := vp_in xi 2 ∧ vp_in xi 2 ∧ Φ (if (1 : Int32) < (((Pgreat (xi).toNatClampNeg) - (Pleast (xi).toNatClampNeg)) + 1) then (((Pgreat (xi).toNatClampNeg) - (Pleast (xi).toNatClampNeg)) + 1) else (1 : Int32)) 
set_option maxHeartbeats 4000000 in
set_option maxRecDepth 100000 in
theorem kj_X2_width_e {p : Program} {l : Launch} {e : Env} {R : Room} {s : State} {m : MethodId} {args : Array Value} {below : List Frame} {meth : Method} {c : Code} {cells slots : Nat} {Q : State → Prop} {A : Nat → Prop} {D : va_G} {ak : Nat → ClassId} {ad : Nat → Nat} (hx : p.tables.exec = Jvm.exec) (hb : c.code = cX2_width) (hown : s.vm.findClass RX2 = some m.cls) (hts : ∀ w ∈ wsX2_width, w.before args s = true) (hml : c.maxLocals = 2) (hE : EV D ak s) (hT : ST D ak ad A s s.heap) (hA : ∀ q, s.heap.size ≤ q → A q) (hRf : 1 ≤ R.frames) (hRl : 13 ≤ R.locals) (hRc : cells ≤ R.cells ∧ slots ≤ R.slots) (pg : Nat) (pa : Nat → Nat) (Pst : Int32) (Pce : Int32) (Pgi : Int32) (Pln : Int32) (Pleast : Nat → Int32) (Pgreat : Nat → Int32) (xi : Int32) (hKT : KT D A (wK_X2_width ak ad pg pa Pst Pce Pgi Pln Pleast Pgreat) s.heap)  (Φ : Int32 → Prop)
    (kR19 : ∀ (r : Int32)  (H : Heap) (locs : List Loc) (ls : Array Slot), Φ r  → va_P D vwCl [] H → va_D A [] → va_S A s.heap H locs → W p l e R s m args below meth c H locs cells slots Q (F0 m 19 ls [.int r]))
    : ∀  (H : Heap) (locs : List Loc) (ls : Array Slot), wp_X2_width Pleast Pgreat xi  Φ → va_P D vwCl [] H → va_D A [] → va_S A s.heap H locs → lv_has ls 2 [(0, .ref pg), (1, .int (xi))] → W p l e R s m args below meth c H locs cells slots Q (F0 m 0 ls ([])) := by
  have hCW : ∀ {H : Heap} {locs : List Loc}, va_S A s.heap H locs → va_P D vwCl (wK_X2_width ak ad pg pa Pst Pce Pgi Pln Pleast Pgreat) H := fun hS => (hKT.kept hS.2.1).1
  intro  H locs ls hw hP hD hS hl
  delta wp_X2_width at hw
  refine lv_iconst (v := 1) hx hb dX2_width_0 (by decide) ?_
  refine lv_aload_n hx hb dX2_width_1 rfl (lv_at hl 0 rfl) ?_
  refine vt_get (D := D) (ci := 2) (v := .ref (pa 5)) (C := RX2) (T := TX2) (N := 17) hx hb hts (fun w h => wm_c (wc_X2 w h)) hown hE.1 (hCW hS) 0 rfl rfl 8 (by decide) tX2_8 (hts (.fieldLink RX2 27 "WornLines$Programme" "greatest" "[I") (wm_c hw_277)) (fun _ h9 => h9) rfl dX2_width_2 ?_
  refine lv_iload_n hx hb dX2_width_5 rfl (lv_at hl 1 rfl) ?_
  obtain ⟨h_1, hw⟩ := hw
  refine va_iald hx hb hE.1 (hCW hS) 2 0 rfl rfl (h_1) dX2_width_6 ?_
  refine lv_aload_n hx hb dX2_width_7 rfl (lv_at hl 0 rfl) ?_
  refine vt_get (D := D) (ci := 2) (v := .ref (pa 4)) (C := RX2) (T := TX2) (N := 17) hx hb hts (fun w h => wm_c (wc_X2 w h)) hown hE.1 (hCW hS) 0 rfl rfl 7 (by decide) tX2_7 (hts (.fieldLink RX2 24 "WornLines$Programme" "least" "[I") (wm_c hw_276)) (fun _ h9 => h9) rfl dX2_width_8 ?_
  refine lv_iload_n hx hb dX2_width_11 rfl (lv_at hl 1 rfl) ?_
  obtain ⟨h_2, hw⟩ := hw
  refine va_iald hx hb hE.1 (hCW hS) 1 0 rfl rfl (h_2) dX2_width_12 ?_
  refine lv_isub hx hb dX2_width_13 ?_
  refine lv_iconst (v := 1) hx hb dX2_width_14 (by decide) ?_
  refine lv_iadd hx hb dX2_width_15 ?_
  refine va_mmax hx hb (by rw [hml]; exact hl.1.symm) hown (hts (.methodLink RX2 59 Lib.Math.max.name) (wm_c hw_313)) (hts (.static Lib.Math.max.name) (wm_c hw_183)) (hts (.initialized "java/lang/Math") (wm_c hw_184)) (hts (.code Lib.Math.max.name Lib.Math.max.code 2 (some .int)) (wm_c hw_185)) (Nat.le_trans (Nat.le_of_ble_eq_true rfl) hRf) (Nat.le_trans (Nat.le_of_ble_eq_true rfl) hRl) hRc.1 hRc.2 dX2_width_16 ?_
  exact kR19 (if (1 : Int32) < (((Pgreat (xi).toNatClampNeg) - (Pleast (xi).toNatClampNeg)) + 1) then (((Pgreat (xi).toNatClampNeg) - (Pleast (xi).toNatClampNeg)) + 1) else (1 : Int32))  _ _ _ hw hP hD hS
set_option maxHeartbeats 4000000 in
set_option maxRecDepth 100000 in
theorem c_X2_width (l : Launch) (D : va_G) (ak : Nat → ClassId) (ad : Nat → Nat) (sz : Nat) (pg : Nat) (pa : Nat → Nat) (Pst : Int32) (Pce : Int32) (Pgi : Int32) (Pln : Int32) (Pleast : Nat → Int32) (Pgreat : Nat → Int32) (xi : Int32) (Φ : Int32 → Prop) (hf : wp_X2_width Pleast Pgreat xi Φ) : Met l yX2_width wsX2_width ({ frames := 1, cells := 0, slots := 0, locals := 13 }) (cPreK D ak ad [.ref pg, .int (xi)] ([]) sz ((wK_X2_width ak ad pg pa Pst Pce Pgi Pln Pleast Pgreat))) (cI D (S := Unit) (fun (r : Int32) (u : Unit) => Φ r ) (fun u => []) ([]) sz) 0 0 (va_A ([]) sz) := by
  refine Met.ofW (cc := cX2_width) (maxL := 2) (ret := (some .int)) (by decide) rfl ?_
  intro p e s m args below meth c s₁ B hml hv
  obtain ⟨⟨rfl, hsz, hP, hE, hD0, hT⟩, hKT⟩ := hv
  have hx := B.exec
  have hb := B.bytes
  have hr := B.returns
  have hts := atoms_spec (ws := wsX2_width) B.pre
  have hown : s.vm.findClass RX2 = some m.cls := findClass_of_methodNamed B.named
  have hlocks := B.notSynchronized
  subst hsz
  have hD := hD0.self (sz := s.heap.size)
  generalize hAe : va_A ([]) s.heap.size = A at hD hT hKT ⊢
  have hA : ∀ q : Nat, s.heap.size ≤ q → A q := fun q h => by rw [← hAe]; exact Or.inr h
  have hS : va_S A s.heap s.heap [] := va_S.rf
  have hl := lv_entry ([.ref pg, .int (xi)]) (n := 2) (Nat.le_of_ble_eq_true rfl)
  rw [lg_entry_eq]
  generalize (lg_sl ([.ref pg, .int (xi)]) ++ List.replicate (2 - (lg_sl ([.ref pg, .int (xi)])).length) Slot.unset).toArray = ls at hl ⊢
  have hl : lv_has ls 2 [(0, .ref pg), (1, .int (xi))] := hl
  exact kj_X2_width_e hx hb hown hts hml hE hT hA (Nat.le_of_ble_eq_true rfl) (Nat.le_of_ble_eq_true rfl) ⟨Nat.le_of_ble_eq_true rfl, Nat.le_of_ble_eq_true rfl⟩ pg pa Pst Pce Pgi Pln Pleast Pgreat xi hKT Φ (fun r  H locs ls hw hP hD hS => W.iret (v := r) hx hb hr (fun t ht hW => ⟨⟨r, (), rfl, hw, by rw [ht]; exact hP, by rw [hAe]; exact hD⟩, by rw [hAe]; exact hS.F ht⟩) hS.2.2 dX2_width_19)  _ _ _ hf hP hD hS hl

def wK_X2_inputCount (ak : Nat → ClassId) (ad : Nat → Nat) (pg : Nat) (pa : Nat → Nat) (Pst : Int32) (Pce : Int32) (Pgi : Int32) (Pln : Int32) (Pleast : Nat → Int32) (Pgreat : Nat → Int32) : va_W := [(pg, .inr (2, pob pa (Pst) (Pce) (Pgi) (Pln))), ((pa 4), .inl (ak 0, 2, .inl (Pleast))), ((pa 5), .inl (ak 0, 2, .inl (Pgreat)))]
def lb_X2_inputCount_4 (Pgi : Int32) (Pleast : Nat → Int32) (Pgreat : Nat → Int32)  (Φ : Int32 → Prop) (back : Int32 → Int32 → Prop) (l1 : Int32) (l2 : Int32) : Prop := (Pgi ≤ l2 → Φ l1 ) ∧ (¬ Pgi ≤ l2 → wp_X2_width Pleast Pgreat l2 (fun r_3 => back (l1 * r_3) (l2 + 1)))
def lf_X2_inputCount_4 (Pgi : Int32) (Pleast : Nat → Int32) (Pgreat : Nat → Int32)  (Φ : Int32 → Prop) : Nat → Int32 → Int32 → Prop
  | 0, _, _ => False
  | n_ + 1, l1, l2 => lb_X2_inputCount_4 Pgi Pleast Pgreat  Φ (lf_X2_inputCount_4 Pgi Pleast Pgreat  Φ n_) l1 l2
theorem li_X2_inputCount_4 (Pgi : Int32) (Pleast : Nat → Int32) (Pgreat : Nat → Int32)  (Φ : Int32 → Prop) (Inv : Int32 → Int32 → Prop) (mu : Int32 → Int32 → Nat) (hs : ∀ (back : Int32 → Int32 → Prop) (l1 : Int32) (l2 : Int32), Inv l1 l2 → (∀ (l1' : Int32) (l2' : Int32), Inv l1' l2' → mu l1' l2' < mu l1 l2 → back l1' l2') → lb_X2_inputCount_4 Pgi Pleast Pgreat  Φ back l1 l2) : ∀ (n_ : Nat) (l1 : Int32) (l2 : Int32), Inv l1 l2 → mu l1 l2 < n_ → lf_X2_inputCount_4 Pgi Pleast Pgreat  Φ n_ l1 l2 := by
  intro n_
  induction n_ with
  | zero => intro l1 l2 _ h; exact absurd h (Nat.not_lt_zero _)
  | succ n_ ih => intro l1 l2 hI hm; exact hs _ l1 l2 hI (fun l1' l2' h1 h2 => ih l1' l2' h1 (by omega))
set_option maxHeartbeats 4000000 in
set_option maxRecDepth 100000 in
theorem lp_X2_inputCount_4 {p : Program} {l : Launch} {e : Env} {R : Room} {s : State} {m : MethodId} {args : Array Value} {below : List Frame} {meth : Method} {c : Code} {cells slots : Nat} {Q : State → Prop} {A : Nat → Prop} {D : va_G} {ak : Nat → ClassId} {ad : Nat → Nat} (hx : p.tables.exec = Jvm.exec) (hb : c.code = cX2_inputCount) (hown : s.vm.findClass RX2 = some m.cls) (hts : ∀ w ∈ wsX2_inputCount, w.before args s = true) (hml : c.maxLocals = 3) (hE : EV D ak s) (hT : ST D ak ad A s s.heap) (hA : ∀ q, s.heap.size ≤ q → A q) (hRf : 2 ≤ R.frames) (hRl : 34 ≤ R.locals) (hRc : cells ≤ R.cells ∧ slots ≤ R.slots) (pg : Nat) (pa : Nat → Nat) (Pst : Int32) (Pce : Int32) (Pgi : Int32) (Pln : Int32) (Pleast : Nat → Int32) (Pgreat : Nat → Int32) (hKT : KT D A (wK_X2_inputCount ak ad pg pa Pst Pce Pgi Pln Pleast Pgreat) s.heap)  (Φ : Int32 → Prop)
    (kR27 : ∀ (r : Int32)  (H : Heap) (locs : List Loc) (ls : Array Slot), Φ r  → va_P D vwCl [] H → va_D A [] → va_S A s.heap H locs → W p l e R s m args below meth c H locs cells slots Q (F0 m 27 ls [.int r]))
    : ∀ (n_ : Nat) (l1 : Int32) (l2 : Int32) (H : Heap) (locs : List Loc) (ls : Array Slot), lf_X2_inputCount_4 Pgi Pleast Pgreat  Φ n_ l1 l2 → va_P D vwCl [] H → va_D A [] → va_S A s.heap H locs → lv_has ls 3 [(0, .ref pg), (1, .int (l1)), (2, .int (l2))] → W p l e R s m args below meth c H locs cells slots Q (F0 m 4 ls ([])) := by
  have hCW : ∀ {H : Heap} {locs : List Loc}, va_S A s.heap H locs → va_P D vwCl (wK_X2_inputCount ak ad pg pa Pst Pce Pgi Pln Pleast Pgreat) H := fun hS => (hKT.kept hS.2.1).1
  intro n_
  induction n_ with
  | zero =>
    intro l1 l2 H locs ls hw
    exact hw.elim
  | succ n_ ih =>
    intro l1 l2 H locs ls hw hP hD hS hl
    have hw : lb_X2_inputCount_4 Pgi Pleast Pgreat  Φ (lf_X2_inputCount_4 Pgi Pleast Pgreat  Φ n_) l1 l2 := hw
    delta lb_X2_inputCount_4 at hw
    refine lv_iload_n hx hb dX2_inputCount_4 rfl (lv_at hl 2 rfl) ?_
    refine lv_aload_n hx hb dX2_inputCount_5 rfl (lv_at hl 0 rfl) ?_
    refine vt_get (D := D) (ci := 2) (v := .int (Pgi)) (C := RX2) (T := TX2) (N := 17) hx hb hts (fun w h => wm_c (wc_X2 w h)) hown hE.1 (hCW hS) 0 rfl rfl 5 (by decide) tX2_5 (hts (.fieldLink RX2 51 "WornLines$Programme" "given" "I") (wm_c hw_314)) (fun _ h9 => h9) rfl dX2_inputCount_6 ?_
    refine lv_icmp_ge (tgt := 26) hx hb dX2_inputCount_9 (by decide) (fun c_1 => ?_) (fun c_1 => ?_)
    · replace hw := hw.1 c_1
      refine lv_iload_n hx hb dX2_inputCount_26 rfl (lv_at hl 1 rfl) ?_
      exact kR27 l1  _ _ _ hw hP hD hS
    · replace hw := hw.2 c_1
      refine lv_iload_n hx hb dX2_inputCount_12 rfl (lv_at hl 1 rfl) ?_
      refine lv_aload_n hx hb dX2_inputCount_13 rfl (lv_at hl 0 rfl) ?_
      refine lv_iload_n hx hb dX2_inputCount_14 rfl (lv_at hl 2 rfl) ?_
      refine kc_i (wc := []) (wr := []) hP hD hS hA [] [] rfl rfl (by decide) (by decide) (va_runV (As := [.int (l2)]) (rest := [.int (l1)]) ⟨hx, hb, hml, hown, hts⟩ (c_X2_width l D ak ad _ pg pa Pst Pce Pgi Pln Pleast Pgreat l2 _ hw) (cwV 1 hts gX2_inputCount_X2_width rfl rfl rfl hv_X2_width ⟨(Nat.le_trans (Nat.le_of_ble_eq_true rfl) hRf), (Nat.le_trans (Nat.le_of_ble_eq_true rfl) hRl)⟩) (kc_preVK (As := [.int (l2)]) (wc := []) (ck := (wK_X2_width ak ad pg pa Pst Pce Pgi Pln Pleast Pgreat)) hKT hE hT hP hD hS hA [] [0, 1, 2] (by decide) rfl rfl rfl (hCW hS) 0 2 rfl rfl rfl) rfl rfl hl.1 rfl (lv_room (Nat.le_of_ble_eq_true rfl)) dX2_inputCount_15 ⟨hRc.1, hRc.2⟩) (fun r_3 u_2 H locs hw hP hD hS => ?_)
      try dsimp -zeta only at hw
      refine lv_imul hx hb dX2_inputCount_18 ?_
      refine lv_istore_n (lv' := [(1, .int (l1 * r_3)), (0, .ref pg), (2, .int (l2))]) hx hb dX2_inputCount_19 rfl hl (by decide) rfl (fun ls hl => ?_)
      refine lv_iinc (v := (l2 + 1)) (lv' := [(2, .int (l2 + 1)), (1, .int (l1 * r_3)), (0, .ref pg)]) hx hb dX2_inputCount_20 hl (k := 2) rfl (rfl) (by decide) rfl (fun ls hl => ?_)
      refine lv_goto (tgt := 4) hx hb dX2_inputCount_23 (by decide) ?_
      exact ih (l1 * r_3) (l2 + 1) _ _ _ hw hP hD hS (lv_sub hl [2, 1, 0] rfl)

def wp_X2_inputCount (Pgi : Int32) (Pleast : Nat → Int32) (Pgreat : Nat → Int32)  (Φ : Int32 → Prop) : Prop := (∃ n_, lf_X2_inputCount_4 Pgi Pleast Pgreat  Φ n_ 1 0)
set_option maxHeartbeats 4000000 in
set_option maxRecDepth 100000 in
theorem kj_X2_inputCount_e {p : Program} {l : Launch} {e : Env} {R : Room} {s : State} {m : MethodId} {args : Array Value} {below : List Frame} {meth : Method} {c : Code} {cells slots : Nat} {Q : State → Prop} {A : Nat → Prop} {D : va_G} {ak : Nat → ClassId} {ad : Nat → Nat} (hx : p.tables.exec = Jvm.exec) (hb : c.code = cX2_inputCount) (hown : s.vm.findClass RX2 = some m.cls) (hts : ∀ w ∈ wsX2_inputCount, w.before args s = true) (hml : c.maxLocals = 3) (hE : EV D ak s) (hT : ST D ak ad A s s.heap) (hA : ∀ q, s.heap.size ≤ q → A q) (hRf : 2 ≤ R.frames) (hRl : 34 ≤ R.locals) (hRc : cells ≤ R.cells ∧ slots ≤ R.slots) (pg : Nat) (pa : Nat → Nat) (Pst : Int32) (Pce : Int32) (Pgi : Int32) (Pln : Int32) (Pleast : Nat → Int32) (Pgreat : Nat → Int32) (hKT : KT D A (wK_X2_inputCount ak ad pg pa Pst Pce Pgi Pln Pleast Pgreat) s.heap)  (Φ : Int32 → Prop)
    (kR27 : ∀ (r : Int32)  (H : Heap) (locs : List Loc) (ls : Array Slot), Φ r  → va_P D vwCl [] H → va_D A [] → va_S A s.heap H locs → W p l e R s m args below meth c H locs cells slots Q (F0 m 27 ls [.int r]))
    : ∀  (H : Heap) (locs : List Loc) (ls : Array Slot), wp_X2_inputCount Pgi Pleast Pgreat  Φ → va_P D vwCl [] H → va_D A [] → va_S A s.heap H locs → lv_has ls 3 [(0, .ref pg)] → W p l e R s m args below meth c H locs cells slots Q (F0 m 0 ls ([])) := by
  have hCW : ∀ {H : Heap} {locs : List Loc}, va_S A s.heap H locs → va_P D vwCl (wK_X2_inputCount ak ad pg pa Pst Pce Pgi Pln Pleast Pgreat) H := fun hS => (hKT.kept hS.2.1).1
  intro  H locs ls hw hP hD hS hl
  delta wp_X2_inputCount at hw
  refine lv_iconst (v := 1) hx hb dX2_inputCount_0 (by decide) ?_
  refine lv_istore_n (lv' := [(1, .int (1)), (0, .ref pg)]) hx hb dX2_inputCount_1 rfl hl (by decide) rfl (fun ls hl => ?_)
  refine lv_iconst (v := 0) hx hb dX2_inputCount_2 (by decide) ?_
  refine lv_istore_n (lv' := [(2, .int (0)), (1, .int (1)), (0, .ref pg)]) hx hb dX2_inputCount_3 rfl hl (by decide) rfl (fun ls hl => ?_)
  obtain ⟨n1_, hw⟩ := hw
  exact lp_X2_inputCount_4 hx hb hown hts hml hE hT hA hRf hRl hRc pg pa Pst Pce Pgi Pln Pleast Pgreat hKT  Φ  kR27 n1_ 1 0 _ _ _ hw hP hD hS (lv_sub hl [2, 1, 0] rfl)
set_option maxHeartbeats 4000000 in
set_option maxRecDepth 100000 in
theorem c_X2_inputCount (l : Launch) (D : va_G) (ak : Nat → ClassId) (ad : Nat → Nat) (sz : Nat) (pg : Nat) (pa : Nat → Nat) (Pst : Int32) (Pce : Int32) (Pgi : Int32) (Pln : Int32) (Pleast : Nat → Int32) (Pgreat : Nat → Int32) (Φ : Int32 → Prop) (hf : wp_X2_inputCount Pgi Pleast Pgreat Φ) : Met l yX2_inputCount wsX2_inputCount ({ frames := 2, cells := 0, slots := 0, locals := 34 }) (cPreK D ak ad [.ref pg] ([]) sz ((wK_X2_inputCount ak ad pg pa Pst Pce Pgi Pln Pleast Pgreat))) (cI D (S := Unit) (fun (r : Int32) (u : Unit) => Φ r ) (fun u => []) ([]) sz) 0 0 (va_A ([]) sz) := by
  refine Met.ofW (cc := cX2_inputCount) (maxL := 3) (ret := (some .int)) (by decide) rfl ?_
  intro p e s m args below meth c s₁ B hml hv
  obtain ⟨⟨rfl, hsz, hP, hE, hD0, hT⟩, hKT⟩ := hv
  have hx := B.exec
  have hb := B.bytes
  have hr := B.returns
  have hts := atoms_spec (ws := wsX2_inputCount) B.pre
  have hown : s.vm.findClass RX2 = some m.cls := findClass_of_methodNamed B.named
  have hlocks := B.notSynchronized
  subst hsz
  have hD := hD0.self (sz := s.heap.size)
  generalize hAe : va_A ([]) s.heap.size = A at hD hT hKT ⊢
  have hA : ∀ q : Nat, s.heap.size ≤ q → A q := fun q h => by rw [← hAe]; exact Or.inr h
  have hS : va_S A s.heap s.heap [] := va_S.rf
  have hl := lv_entry ([.ref pg]) (n := 3) (Nat.le_of_ble_eq_true rfl)
  rw [lg_entry_eq]
  generalize (lg_sl ([.ref pg]) ++ List.replicate (3 - (lg_sl ([.ref pg])).length) Slot.unset).toArray = ls at hl ⊢
  have hl : lv_has ls 3 [(0, .ref pg)] := hl
  exact kj_X2_inputCount_e hx hb hown hts hml hE hT hA (Nat.le_of_ble_eq_true rfl) (Nat.le_of_ble_eq_true rfl) ⟨Nat.le_of_ble_eq_true rfl, Nat.le_of_ble_eq_true rfl⟩ pg pa Pst Pce Pgi Pln Pleast Pgreat hKT Φ (fun r  H locs ls hw hP hD hS => W.iret (v := r) hx hb hr (fun t ht hW => ⟨⟨r, (), rfl, hw, by rw [ht]; exact hP, by rw [hAe]; exact hD⟩, by rw [hAe]; exact hS.F ht⟩) hS.2.2 dX2_inputCount_27)  _ _ _ hf hP hD hS hl

def wK_X2_atFirst (ak : Nat → ClassId) (ad : Nat → Nat) (pg : Nat) (pa : Nat → Nat) (Pst : Int32) (Pce : Int32) (Pgi : Int32) (Pln : Int32) (Ptold : Nat → Int32) (PgivenC : Nat → Int32) (Pleast : Nat → Int32) (Pgreat : Nat → Int32) : va_W := [(pg, .inr (2, pob pa (Pst) (Pce) (Pgi) (Pln))), ((pa 2), .inl (ak 0, 6, .inl (Ptold))), ((pa 3), .inl (ak 0, 2, .inl (PgivenC))), ((pa 4), .inl (ak 0, 2, .inl (Pleast))), ((pa 5), .inl (ak 0, 2, .inl (Pgreat)))]
def lb_X2_atFirst_18 (Pgi : Int32) (Ptold : Nat → Int32) (PgivenC : Nat → Int32) (Pleast : Nat → Int32) (Pgreat : Nat → Int32) (xi : Int32) (xc : Int32)  (Φ : Int32 → Prop) (back : Int32 → Int32 → Int32 → Prop) (l3 : Int32) (l4 : Int32) (l5 : Int32) : Prop := (l5 < 0 → Φ l3 ) ∧ (¬ l5 < 0 → wp_X2_width Pleast Pgreat l5 (fun r_4 => vp_in l5 2 ∧ (¬ (PgivenC (l5).toNatClampNeg) = xc → ¬ r_4 = 0 ∧ back l3 (l4 / r_4) (l5 + (-1))) ∧ ((PgivenC (l5).toNatClampNeg) = xc → vp_in l5 2 ∧ ¬ r_4 = 0 ∧ ¬ r_4 = 0 ∧ back ((Pleast (l5).toNatClampNeg) + (l4 - l4 / r_4 * r_4)) (l4 / r_4) (l5 + (-1)))))
def lf_X2_atFirst_18 (Pgi : Int32) (Ptold : Nat → Int32) (PgivenC : Nat → Int32) (Pleast : Nat → Int32) (Pgreat : Nat → Int32) (xi : Int32) (xc : Int32)  (Φ : Int32 → Prop) : Nat → Int32 → Int32 → Int32 → Prop
  | 0, _, _, _ => False
  | n_ + 1, l3, l4, l5 => lb_X2_atFirst_18 Pgi Ptold PgivenC Pleast Pgreat xi xc  Φ (lf_X2_atFirst_18 Pgi Ptold PgivenC Pleast Pgreat xi xc  Φ n_) l3 l4 l5
theorem li_X2_atFirst_18 (Pgi : Int32) (Ptold : Nat → Int32) (PgivenC : Nat → Int32) (Pleast : Nat → Int32) (Pgreat : Nat → Int32) (xi : Int32) (xc : Int32)  (Φ : Int32 → Prop) (Inv : Int32 → Int32 → Int32 → Prop) (mu : Int32 → Int32 → Int32 → Nat) (hs : ∀ (back : Int32 → Int32 → Int32 → Prop) (l3 : Int32) (l4 : Int32) (l5 : Int32), Inv l3 l4 l5 → (∀ (l3' : Int32) (l4' : Int32) (l5' : Int32), Inv l3' l4' l5' → mu l3' l4' l5' < mu l3 l4 l5 → back l3' l4' l5') → lb_X2_atFirst_18 Pgi Ptold PgivenC Pleast Pgreat xi xc  Φ back l3 l4 l5) : ∀ (n_ : Nat) (l3 : Int32) (l4 : Int32) (l5 : Int32), Inv l3 l4 l5 → mu l3 l4 l5 < n_ → lf_X2_atFirst_18 Pgi Ptold PgivenC Pleast Pgreat xi xc  Φ n_ l3 l4 l5 := by
  intro n_
  induction n_ with
  | zero => intro l3 l4 l5 _ h; exact absurd h (Nat.not_lt_zero _)
  | succ n_ ih => intro l3 l4 l5 hI hm; exact hs _ l3 l4 l5 hI (fun l3' l4' l5' h1 h2 => ih l3' l4' l5' h1 (by omega))
set_option maxHeartbeats 4000000 in
set_option maxRecDepth 100000 in
theorem lp_X2_atFirst_18 {p : Program} {l : Launch} {e : Env} {R : Room} {s : State} {m : MethodId} {args : Array Value} {below : List Frame} {meth : Method} {c : Code} {cells slots : Nat} {Q : State → Prop} {A : Nat → Prop} {D : va_G} {ak : Nat → ClassId} {ad : Nat → Nat} (hx : p.tables.exec = Jvm.exec) (hb : c.code = cX2_atFirst) (hown : s.vm.findClass RX2 = some m.cls) (hts : ∀ w ∈ wsX2_atFirst, w.before args s = true) (hml : c.maxLocals = 7) (hE : EV D ak s) (hT : ST D ak ad A s s.heap) (hA : ∀ q, s.heap.size ≤ q → A q) (hRf : 2 ≤ R.frames) (hRl : 34 ≤ R.locals) (hRc : cells ≤ R.cells ∧ slots ≤ R.slots) (pg : Nat) (pa : Nat → Nat) (Pst : Int32) (Pce : Int32) (Pgi : Int32) (Pln : Int32) (Ptold : Nat → Int32) (PgivenC : Nat → Int32) (Pleast : Nat → Int32) (Pgreat : Nat → Int32) (xi : Int32) (xc : Int32) (hKT : KT D A (wK_X2_atFirst ak ad pg pa Pst Pce Pgi Pln Ptold PgivenC Pleast Pgreat) s.heap)  (Φ : Int32 → Prop)
    (kR70 : ∀ (r : Int32)  (H : Heap) (locs : List Loc) (ls : Array Slot), Φ r  → va_P D vwCl [] H → va_D A [] → va_S A s.heap H locs → W p l e R s m args below meth c H locs cells slots Q (F0 m 70 ls [.int r]))
    : ∀ (n_ : Nat) (l3 : Int32) (l4 : Int32) (l5 : Int32) (H : Heap) (locs : List Loc) (ls : Array Slot), lf_X2_atFirst_18 Pgi Ptold PgivenC Pleast Pgreat xi xc  Φ n_ l3 l4 l5 → va_P D vwCl [] H → va_D A [] → va_S A s.heap H locs → lv_has ls 7 [(0, .ref pg), (2, .int (xc)), (3, .int (l3)), (4, .int (l4)), (5, .int (l5))] → W p l e R s m args below meth c H locs cells slots Q (F0 m 18 ls ([])) := by
  have hCW : ∀ {H : Heap} {locs : List Loc}, va_S A s.heap H locs → va_P D vwCl (wK_X2_atFirst ak ad pg pa Pst Pce Pgi Pln Ptold PgivenC Pleast Pgreat) H := fun hS => (hKT.kept hS.2.1).1
  intro n_
  induction n_ with
  | zero =>
    intro l3 l4 l5 H locs ls hw
    exact hw.elim
  | succ n_ ih =>
    intro l3 l4 l5 H locs ls hw hP hD hS hl
    have hw : lb_X2_atFirst_18 Pgi Ptold PgivenC Pleast Pgreat xi xc  Φ (lf_X2_atFirst_18 Pgi Ptold PgivenC Pleast Pgreat xi xc  Φ n_) l3 l4 l5 := hw
    delta lb_X2_atFirst_18 at hw
    refine lv_iload hx hb dX2_atFirst_18 (lv_at hl 4 rfl) ?_
    refine lv_if_lt (tgt := 69) hx hb dX2_atFirst_20 (by decide) (fun c_2 => ?_) (fun c_2 => ?_)
    · replace hw := hw.1 c_2
      refine lv_iload_n hx hb dX2_atFirst_69 rfl (lv_at hl 2 rfl) ?_
      exact kR70 l3  _ _ _ hw hP hD hS
    · replace hw := hw.2 c_2
      refine lv_aload_n hx hb dX2_atFirst_23 rfl (lv_at hl 0 rfl) ?_
      refine lv_iload hx hb dX2_atFirst_24 (lv_at hl 4 rfl) ?_
      refine kc_i (wc := []) (wr := []) hP hD hS hA [] [] rfl rfl (by decide) (by decide) (va_runV (As := [.int (l5)]) (rest := []) ⟨hx, hb, hml, hown, hts⟩ (c_X2_width l D ak ad _ pg pa Pst Pce Pgi Pln Pleast Pgreat l5 _ hw) (cwV 1 hts gX2_atFirst_X2_width rfl rfl rfl hv_X2_width ⟨(Nat.le_trans (Nat.le_of_ble_eq_true rfl) hRf), (Nat.le_trans (Nat.le_of_ble_eq_true rfl) hRl)⟩) (kc_preVK (As := [.int (l5)]) (wc := []) (ck := (wK_X2_width ak ad pg pa Pst Pce Pgi Pln Pleast Pgreat)) hKT hE hT hP hD hS hA [] [0, 3, 4] (by decide) rfl rfl rfl (hCW hS) 0 2 rfl rfl rfl) rfl rfl hl.1 rfl (lv_room (Nat.le_of_ble_eq_true rfl)) dX2_atFirst_26 ⟨hRc.1, hRc.2⟩) (fun r_4 u_3 H locs hw hP hD hS => ?_)
      try dsimp -zeta only at hw
      refine lv_istore (lv' := [(6, .int (r_4)), (0, .ref pg), (2, .int (xc)), (3, .int (l3)), (4, .int (l4)), (5, .int (l5))]) hx hb dX2_atFirst_29 hl (by decide) rfl (fun ls hl => ?_)
      refine lv_aload_n hx hb dX2_atFirst_31 rfl (lv_at hl 1 rfl) ?_
      refine vt_get (D := D) (ci := 2) (v := .ref (pa 3)) (C := RX2) (T := TX2) (N := 17) hx hb hts (fun w h => wm_c (wc_X2 w h)) hown hE.1 (hCW hS) 0 rfl rfl 6 (by decide) tX2_6 (hts (.fieldLink RX2 21 "WornLines$Programme" "givenCell" "[I") (wm_c hw_275)) (fun _ h9 => h9) rfl dX2_atFirst_32 ?_
      refine lv_iload hx hb dX2_atFirst_35 (lv_at hl 5 rfl) ?_
      obtain ⟨h_5, hw⟩ := hw
      refine va_iald hx hb hE.1 (hCW hS) 2 0 rfl rfl (h_5) dX2_atFirst_37 ?_
      refine lv_iload_n hx hb dX2_atFirst_38 rfl (lv_at hl 2 rfl) ?_
      refine lv_icmp_ne (tgt := 56) hx hb dX2_atFirst_39 (by decide) (fun c_6 => ?_) (fun c_6 => ?_)
      · replace hw := hw.1 c_6
        refine lv_iload hx hb dX2_atFirst_56 (lv_at hl 4 rfl) ?_
        refine lv_iload hx hb dX2_atFirst_58 (lv_at hl 0 rfl) ?_
        obtain ⟨h_7, hw⟩ := hw
        refine lv_idiv hx hb dX2_atFirst_60 (h_7) ?_
        refine lv_istore (lv' := [(4, .int (l4 / r_4)), (6, .int (r_4)), (0, .ref pg), (2, .int (xc)), (3, .int (l3)), (5, .int (l5))]) hx hb dX2_atFirst_61 hl (by decide) rfl (fun ls hl => ?_)
        refine lv_iinc (v := (l5 + (-1))) (lv' := [(5, .int (l5 + (-1))), (4, .int (l4 / r_4)), (6, .int (r_4)), (0, .ref pg), (2, .int (xc)), (3, .int (l3))]) hx hb dX2_atFirst_63 hl (k := 5) rfl (rfl) (by decide) rfl (fun ls hl => ?_)
        refine lv_goto (tgt := 18) hx hb dX2_atFirst_66 (by decide) ?_
        exact ih l3 (l4 / r_4) (l5 + (-1)) _ _ _ hw hP hD hS (lv_sub hl [3, 4, 5, 1, 0] rfl)
      · replace hw := hw.2 c_6
        refine lv_aload_n hx hb dX2_atFirst_42 rfl (lv_at hl 1 rfl) ?_
        refine vt_get (D := D) (ci := 2) (v := .ref (pa 4)) (C := RX2) (T := TX2) (N := 17) hx hb hts (fun w h => wm_c (wc_X2 w h)) hown hE.1 (hCW hS) 0 rfl rfl 7 (by decide) tX2_7 (hts (.fieldLink RX2 24 "WornLines$Programme" "least" "[I") (wm_c hw_276)) (fun _ h9 => h9) rfl dX2_atFirst_43 ?_
        refine lv_iload hx hb dX2_atFirst_46 (lv_at hl 5 rfl) ?_
        obtain ⟨h_8, hw⟩ := hw
        refine va_iald hx hb hE.1 (hCW hS) 3 0 rfl rfl (h_8) dX2_atFirst_48 ?_
        refine lv_iload hx hb dX2_atFirst_49 (lv_at hl 4 rfl) ?_
        refine lv_iload hx hb dX2_atFirst_51 (lv_at hl 0 rfl) ?_
        obtain ⟨h_9, hw⟩ := hw
        refine lv_irem hx hb dX2_atFirst_53 (h_9) ?_
        refine lv_iadd hx hb dX2_atFirst_54 ?_
        refine lv_istore_n (lv' := [(3, .int ((Pleast (l5).toNatClampNeg) + (l4 - l4 / r_4 * r_4))), (6, .int (r_4)), (0, .ref pg), (2, .int (xc)), (4, .int (l4)), (5, .int (l5))]) hx hb dX2_atFirst_55 rfl hl (by decide) rfl (fun ls hl => ?_)
        refine lv_iload hx hb dX2_atFirst_56 (lv_at hl 4 rfl) ?_
        refine lv_iload hx hb dX2_atFirst_58 (lv_at hl 1 rfl) ?_
        obtain ⟨h_10, hw⟩ := hw
        refine lv_idiv hx hb dX2_atFirst_60 (h_10) ?_
        refine lv_istore (lv' := [(4, .int (l4 / r_4)), (3, .int ((Pleast (l5).toNatClampNeg) + (l4 - l4 / r_4 * r_4))), (6, .int (r_4)), (0, .ref pg), (2, .int (xc)), (5, .int (l5))]) hx hb dX2_atFirst_61 hl (by decide) rfl (fun ls hl => ?_)
        refine lv_iinc (v := (l5 + (-1))) (lv' := [(5, .int (l5 + (-1))), (4, .int (l4 / r_4)), (3, .int ((Pleast (l5).toNatClampNeg) + (l4 - l4 / r_4 * r_4))), (6, .int (r_4)), (0, .ref pg), (2, .int (xc))]) hx hb dX2_atFirst_63 hl (k := 5) rfl (rfl) (by decide) rfl (fun ls hl => ?_)
        refine lv_goto (tgt := 18) hx hb dX2_atFirst_66 (by decide) ?_
        exact ih ((Pleast (l5).toNatClampNeg) + (l4 - l4 / r_4 * r_4)) (l4 / r_4) (l5 + (-1)) _ _ _ hw hP hD hS (lv_sub hl [4, 5, 2, 1, 0] rfl)

def wp_X2_atFirst (Pgi : Int32) (Ptold : Nat → Int32) (PgivenC : Nat → Int32) (Pleast : Nat → Int32) (Pgreat : Nat → Int32) (xi : Int32) (xc : Int32)  (Φ : Int32 → Prop) : Prop := vp_in xc 6 ∧ (∃ n_, lf_X2_atFirst_18 Pgi Ptold PgivenC Pleast Pgreat xi xc  Φ n_ (Ptold (xc).toNatClampNeg) xi (Pgi - 1))
set_option maxHeartbeats 4000000 in
set_option maxRecDepth 100000 in
theorem kj_X2_atFirst_e {p : Program} {l : Launch} {e : Env} {R : Room} {s : State} {m : MethodId} {args : Array Value} {below : List Frame} {meth : Method} {c : Code} {cells slots : Nat} {Q : State → Prop} {A : Nat → Prop} {D : va_G} {ak : Nat → ClassId} {ad : Nat → Nat} (hx : p.tables.exec = Jvm.exec) (hb : c.code = cX2_atFirst) (hown : s.vm.findClass RX2 = some m.cls) (hts : ∀ w ∈ wsX2_atFirst, w.before args s = true) (hml : c.maxLocals = 7) (hE : EV D ak s) (hT : ST D ak ad A s s.heap) (hA : ∀ q, s.heap.size ≤ q → A q) (hRf : 2 ≤ R.frames) (hRl : 34 ≤ R.locals) (hRc : cells ≤ R.cells ∧ slots ≤ R.slots) (pg : Nat) (pa : Nat → Nat) (Pst : Int32) (Pce : Int32) (Pgi : Int32) (Pln : Int32) (Ptold : Nat → Int32) (PgivenC : Nat → Int32) (Pleast : Nat → Int32) (Pgreat : Nat → Int32) (xi : Int32) (xc : Int32) (hKT : KT D A (wK_X2_atFirst ak ad pg pa Pst Pce Pgi Pln Ptold PgivenC Pleast Pgreat) s.heap)  (Φ : Int32 → Prop)
    (kR70 : ∀ (r : Int32)  (H : Heap) (locs : List Loc) (ls : Array Slot), Φ r  → va_P D vwCl [] H → va_D A [] → va_S A s.heap H locs → W p l e R s m args below meth c H locs cells slots Q (F0 m 70 ls [.int r]))
    : ∀  (H : Heap) (locs : List Loc) (ls : Array Slot), wp_X2_atFirst Pgi Ptold PgivenC Pleast Pgreat xi xc  Φ → va_P D vwCl [] H → va_D A [] → va_S A s.heap H locs → lv_has ls 7 [(0, .ref pg), (1, .int (xi)), (2, .int (xc))] → W p l e R s m args below meth c H locs cells slots Q (F0 m 0 ls ([])) := by
  have hCW : ∀ {H : Heap} {locs : List Loc}, va_S A s.heap H locs → va_P D vwCl (wK_X2_atFirst ak ad pg pa Pst Pce Pgi Pln Ptold PgivenC Pleast Pgreat) H := fun hS => (hKT.kept hS.2.1).1
  intro  H locs ls hw hP hD hS hl
  delta wp_X2_atFirst at hw
  refine lv_aload_n hx hb dX2_atFirst_0 rfl (lv_at hl 0 rfl) ?_
  refine vt_get (D := D) (ci := 2) (v := .ref (pa 2)) (C := RX2) (T := TX2) (N := 17) hx hb hts (fun w h => wm_c (wc_X2 w h)) hown hE.1 (hCW hS) 0 rfl rfl 4 (by decide) tX2_4 (hts (.fieldLink RX2 18 "WornLines$Programme" "told" "[I") (wm_c hw_274)) (fun _ h9 => h9) rfl dX2_atFirst_1 ?_
  refine lv_iload_n hx hb dX2_atFirst_4 rfl (lv_at hl 2 rfl) ?_
  obtain ⟨h_1, hw⟩ := hw
  refine va_iald hx hb hE.1 (hCW hS) 1 0 rfl rfl (h_1) dX2_atFirst_5 ?_
  refine lv_istore_n (lv' := [(3, .int (Ptold (xc).toNatClampNeg)), (0, .ref pg), (1, .int (xi)), (2, .int (xc))]) hx hb dX2_atFirst_6 rfl hl (by decide) rfl (fun ls hl => ?_)
  refine lv_iload_n hx hb dX2_atFirst_7 rfl (lv_at hl 2 rfl) ?_
  refine lv_istore (lv' := [(4, .int (xi)), (3, .int (Ptold (xc).toNatClampNeg)), (0, .ref pg), (1, .int (xi)), (2, .int (xc))]) hx hb dX2_atFirst_8 hl (by decide) rfl (fun ls hl => ?_)
  refine lv_aload_n hx hb dX2_atFirst_10 rfl (lv_at hl 2 rfl) ?_
  refine vt_get (D := D) (ci := 2) (v := .int (Pgi)) (C := RX2) (T := TX2) (N := 17) hx hb hts (fun w h => wm_c (wc_X2 w h)) hown hE.1 (hCW hS) 0 rfl rfl 5 (by decide) tX2_5 (hts (.fieldLink RX2 51 "WornLines$Programme" "given" "I") (wm_c hw_314)) (fun _ h9 => h9) rfl dX2_atFirst_11 ?_
  refine lv_iconst (v := 1) hx hb dX2_atFirst_14 (by decide) ?_
  refine lv_isub hx hb dX2_atFirst_15 ?_
  refine lv_istore (lv' := [(5, .int (Pgi - 1)), (4, .int (xi)), (3, .int (Ptold (xc).toNatClampNeg)), (0, .ref pg), (1, .int (xi)), (2, .int (xc))]) hx hb dX2_atFirst_16 hl (by decide) rfl (fun ls hl => ?_)
  obtain ⟨n1_, hw⟩ := hw
  exact lp_X2_atFirst_18 hx hb hown hts hml hE hT hA hRf hRl hRc pg pa Pst Pce Pgi Pln Ptold PgivenC Pleast Pgreat xi xc hKT  Φ  kR70 n1_ (Ptold (xc).toNatClampNeg) xi (Pgi - 1) _ _ _ hw hP hD hS (lv_sub hl [3, 5, 2, 1, 0] rfl)
set_option maxHeartbeats 4000000 in
set_option maxRecDepth 100000 in
theorem c_X2_atFirst (l : Launch) (D : va_G) (ak : Nat → ClassId) (ad : Nat → Nat) (sz : Nat) (pg : Nat) (pa : Nat → Nat) (Pst : Int32) (Pce : Int32) (Pgi : Int32) (Pln : Int32) (Ptold : Nat → Int32) (PgivenC : Nat → Int32) (Pleast : Nat → Int32) (Pgreat : Nat → Int32) (xi : Int32) (xc : Int32) (Φ : Int32 → Prop) (hf : wp_X2_atFirst Pgi Ptold PgivenC Pleast Pgreat xi xc Φ) : Met l yX2_atFirst wsX2_atFirst ({ frames := 2, cells := 0, slots := 0, locals := 34 }) (cPreK D ak ad [.ref pg, .int (xi), .int (xc)] ([]) sz ((wK_X2_atFirst ak ad pg pa Pst Pce Pgi Pln Ptold PgivenC Pleast Pgreat))) (cI D (S := Unit) (fun (r : Int32) (u : Unit) => Φ r ) (fun u => []) ([]) sz) 0 0 (va_A ([]) sz) := by
  refine Met.ofW (cc := cX2_atFirst) (maxL := 7) (ret := (some .int)) (by decide) rfl ?_
  intro p e s m args below meth c s₁ B hml hv
  obtain ⟨⟨rfl, hsz, hP, hE, hD0, hT⟩, hKT⟩ := hv
  have hx := B.exec
  have hb := B.bytes
  have hr := B.returns
  have hts := atoms_spec (ws := wsX2_atFirst) B.pre
  have hown : s.vm.findClass RX2 = some m.cls := findClass_of_methodNamed B.named
  have hlocks := B.notSynchronized
  subst hsz
  have hD := hD0.self (sz := s.heap.size)
  generalize hAe : va_A ([]) s.heap.size = A at hD hT hKT ⊢
  have hA : ∀ q : Nat, s.heap.size ≤ q → A q := fun q h => by rw [← hAe]; exact Or.inr h
  have hS : va_S A s.heap s.heap [] := va_S.rf
  have hl := lv_entry ([.ref pg, .int (xi), .int (xc)]) (n := 7) (Nat.le_of_ble_eq_true rfl)
  rw [lg_entry_eq]
  generalize (lg_sl ([.ref pg, .int (xi), .int (xc)]) ++ List.replicate (7 - (lg_sl ([.ref pg, .int (xi), .int (xc)])).length) Slot.unset).toArray = ls at hl ⊢
  have hl : lv_has ls 7 [(0, .ref pg), (1, .int (xi)), (2, .int (xc))] := hl
  exact kj_X2_atFirst_e hx hb hown hts hml hE hT hA (Nat.le_of_ble_eq_true rfl) (Nat.le_of_ble_eq_true rfl) ⟨Nat.le_of_ble_eq_true rfl, Nat.le_of_ble_eq_true rfl⟩ pg pa Pst Pce Pgi Pln Ptold PgivenC Pleast Pgreat xi xc hKT Φ (fun r  H locs ls hw hP hD hS => W.iret (v := r) hx hb hr (fun t ht hW => ⟨⟨r, (), rfl, hw, by rw [ht]; exact hP, by rw [hAe]; exact hD⟩, by rw [hAe]; exact hS.F ht⟩) hS.2.2 dX2_atFirst_70)  _ _ _ hf hP hD hS hl

def wp_X7_within (xi : Int32) (xc : Int32)  (Φ : Int32 → Prop) : Prop := (xi < 0 → Φ 0 ) ∧ (¬ xi < 0 → (xc ≤ xi → Φ 0 ) ∧ (¬ xc ≤ xi → Φ 1 ))
set_option maxHeartbeats 4000000 in
set_option maxRecDepth 100000 in
theorem kj_X7_within_e {p : Program} {l : Launch} {e : Env} {R : Room} {s : State} {m : MethodId} {args : Array Value} {below : List Frame} {meth : Method} {c : Code} {cells slots : Nat} {Q : State → Prop} {A : Nat → Prop} {D : va_G} {ak : Nat → ClassId} {ad : Nat → Nat} (hx : p.tables.exec = Jvm.exec) (hb : c.code = cX7_within) (hown : s.vm.findClass RX7 = some m.cls) (hts : ∀ w ∈ wsX7_within, w.before args s = true) (hml : c.maxLocals = 2) (hE : EV D ak s) (hT : ST D ak ad A s s.heap) (hA : ∀ q, s.heap.size ≤ q → A q) (xi : Int32) (xc : Int32)  (Φ : Int32 → Prop)
    (kR14 : ∀ (r : Int32)  (H : Heap) (locs : List Loc) (ls : Array Slot), (r = 0 ∨ r = 1) → Φ r  → va_P D vwCl [] H → va_D A [] → va_S A s.heap H locs → W p l e R s m args below meth c H locs cells slots Q (F0 m 14 ls [.int r]))
    : ∀  (H : Heap) (locs : List Loc) (ls : Array Slot), wp_X7_within xi xc  Φ → va_P D vwCl [] H → va_D A [] → va_S A s.heap H locs → lv_has ls 2 [(0, .int (xi)), (1, .int (xc))] → W p l e R s m args below meth c H locs cells slots Q (F0 m 0 ls ([])) := by
  intro  H locs ls hw hP hD hS hl
  delta wp_X7_within at hw
  refine lv_iload_n hx hb dX7_within_0 rfl (lv_at hl 0 rfl) ?_
  refine lv_if_lt (tgt := 13) hx hb dX7_within_1 (by decide) (fun c_1 => ?_) (fun c_1 => ?_)
  · replace hw := hw.1 c_1
    refine lv_iconst (v := 0) hx hb dX7_within_13 (by decide) ?_
    exact kR14 0  _ _ _ (Or.inl rfl) hw hP hD hS
  · replace hw := hw.2 c_1
    refine lv_iload_n hx hb dX7_within_4 rfl (lv_at hl 0 rfl) ?_
    refine lv_iload_n hx hb dX7_within_5 rfl (lv_at hl 1 rfl) ?_
    refine lv_icmp_ge (tgt := 13) hx hb dX7_within_6 (by decide) (fun c_2 => ?_) (fun c_2 => ?_)
    · replace hw := hw.1 c_2
      refine lv_iconst (v := 0) hx hb dX7_within_13 (by decide) ?_
      exact kR14 0  _ _ _ (Or.inl rfl) hw hP hD hS
    · replace hw := hw.2 c_2
      refine lv_iconst (v := 1) hx hb dX7_within_9 (by decide) ?_
      refine lv_goto (tgt := 14) hx hb dX7_within_10 (by decide) ?_
      exact kR14 1  _ _ _ (Or.inr rfl) hw hP hD hS
set_option maxHeartbeats 4000000 in
set_option maxRecDepth 100000 in
theorem c_X7_within (l : Launch) (D : va_G) (ak : Nat → ClassId) (ad : Nat → Nat) (sz : Nat) (xi : Int32) (xc : Int32) (Φ : Int32 → Prop) (hf : wp_X7_within xi xc Φ) : Met l yX7_within wsX7_within ({ frames := 0, cells := 0, slots := 0, locals := 0 }) (cPre D ak ad [.int (xi), .int (xc)] ([]) sz) (cI D (S := Unit) (fun (r : Int32) (u : Unit) => Φ r ) (fun u => []) ([]) sz) 0 0 (va_A ([]) sz) := by
  refine Met.ofW (cc := cX7_within) (maxL := 2) (ret := (some .boolean)) (by decide) rfl ?_
  intro p e s m args below meth c s₁ B hml hv
  obtain ⟨rfl, hsz, hP, hE, hD0, hT⟩ := hv
  have hx := B.exec
  have hb := B.bytes
  have hr := B.returns
  have hts := atoms_spec (ws := wsX7_within) B.pre
  have hown : s.vm.findClass RX7 = some m.cls := findClass_of_methodNamed B.named
  have hlocks := B.notSynchronized
  subst hsz
  have hD := hD0.self (sz := s.heap.size)
  generalize hAe : va_A ([]) s.heap.size = A at hD hT ⊢
  have hA : ∀ q : Nat, s.heap.size ≤ q → A q := fun q h => by rw [← hAe]; exact Or.inr h
  have hS : va_S A s.heap s.heap [] := va_S.rf
  have hl := lv_entry ([.int (xi), .int (xc)]) (n := 2) (Nat.le_of_ble_eq_true rfl)
  rw [lg_entry_eq]
  generalize (lg_sl ([.int (xi), .int (xc)]) ++ List.replicate (2 - (lg_sl ([.int (xi), .int (xc)])).length) Slot.unset).toArray = ls at hl ⊢
  have hl : lv_has ls 2 [(0, .int (xi)), (1, .int (xc))] := hl
  exact kj_X7_within_e hx hb hown hts hml hE hT hA xi xc Φ (fun r  H locs ls hz hw hP hD hS => W.zret (v := r) hx hb hr (bl_zn hz) (fun t ht hW => ⟨⟨r, (), rfl, hw, by rw [ht]; exact hP, by rw [hAe]; exact hD⟩, by rw [hAe]; exact hS.F ht⟩) hS.2.2 dX7_within_14)  _ _ _ hf hP hD hS hl
end
