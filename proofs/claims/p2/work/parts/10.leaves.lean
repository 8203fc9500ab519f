theorem dX2_width_0 : decode cX2_width 0 = .ok (.iconst 1, 1) := by decide +kernel
theorem dX2_width_1 : decode cX2_width 1 = .ok (.aload_n 0, 1) := by decide +kernel
theorem dX2_width_2 : decode cX2_width 2 = .ok (.getfield 27, 3) := by decide +kernel
theorem dX2_width_5 : decode cX2_width 5 = .ok (.iload_n 1, 1) := by decide +kernel
theorem dX2_width_6 : decode cX2_width 6 = .ok (.iaload, 1) := by decide +kernel
theorem dX2_width_7 : decode cX2_width 7 = .ok (.aload_n 0, 1) := by decide +kernel
theorem dX2_width_8 : decode cX2_width 8 = .ok (.getfield 24, 3) := by decide +kernel
theorem dX2_width_11 : decode cX2_width 11 = .ok (.iload_n 1, 1) := by decide +kernel
theorem dX2_width_12 : decode cX2_width 12 = .ok (.iaload, 1) := by decide +kernel
theorem dX2_width_13 : decode cX2_width 13 = .ok (.isub, 1) := by decide +kernel
theorem dX2_width_14 : decode cX2_width 14 = .ok (.iconst 1, 1) := by decide +kernel
theorem dX2_width_15 : decode cX2_width 15 = .ok (.iadd, 1) := by decide +kernel
theorem dX2_width_16 : decode cX2_width 16 = .ok (.invokestatic 59, 3) := by decide +kernel
theorem dX2_width_19 : decode cX2_width 19 = .ok (.ireturn, 1) := by decide +kernel
theorem dX1_bearing_0 : decode cX1_bearing 0 = .ok (.aload_n 0, 1) := by decide +kernel
theorem dX1_bearing_1 : decode cX1_bearing 1 = .ok (.getfield 34, 3) := by decide +kernel
theorem dX1_bearing_4 : decode cX1_bearing 4 = .ok (.getfield 82, 3) := by decide +kernel
theorem dX1_bearing_7 : decode cX1_bearing 7 = .ok (.aload_n 0, 1) := by decide +kernel
theorem dX1_bearing_8 : decode cX1_bearing 8 = .ok (.getfield 9, 3) := by decide +kernel
theorem dX1_bearing_11 : decode cX1_bearing 11 = .ok (.iload_n 1, 1) := by decide +kernel
theorem dX1_bearing_12 : decode cX1_bearing 12 = .ok (.iaload, 1) := by decide +kernel
theorem dX1_bearing_13 : decode cX1_bearing 13 = .ok (.iaload, 1) := by decide +kernel
theorem dX1_bearing_14 : decode cX1_bearing 14 = .ok (.aload_n 0, 1) := by decide +kernel
theorem dX1_bearing_15 : decode cX1_bearing 15 = .ok (.getfield 15, 3) := by decide +kernel
theorem dX1_bearing_18 : decode cX1_bearing 18 = .ok (.iload_n 1, 1) := by decide +kernel
theorem dX1_bearing_19 : decode cX1_bearing 19 = .ok (.iaload, 1) := by decide +kernel
theorem dX1_bearing_20 : decode cX1_bearing 20 = .ok (.imul, 1) := by decide +kernel
theorem dX1_bearing_21 : decode cX1_bearing 21 = .ok (.ireturn, 1) := by decide +kernel
def wdt (gr le : Int32) : Int32 := if 1 < gr - le + 1 then gr - le + 1 else 1
theorem wdt_ne (gr le : Int32) : ¬ wdt gr le = 0 := by
  unfold wdt
  split
  · intro h
    rename_i h1
    rw [h] at h1
    exact absurd h1 (by decide)
  · decide
theorem in_n {j n : Nat} (h : j < n) (hn : n ≤ 6000) : vp_in (nI j) n := vp_in_nI h (by omega)

set_option maxHeartbeats 4000000 in
set_option maxRecDepth 100000 in
theorem c_X2_width (l : Launch) (D : va_G) (ak : Nat → ClassId) (ad : Nat → Nat) (sz : Nat) (h0 : Nat) (st : Nat) (ce : Nat) (gi : Nat) (ln : Nat) (p1 : Nat) (p2 : Nat) (p4 : Nat) (p6 : Nat) (p7 : Nat) (p8 : Nat) (p10 : Nat) (p11 : Nat) (p12 : Nat) (p13 : Nat) (p14 : Nat) (p15 : Nat) (p16 : Nat) (fle : Nat → Int32) (fgr : Nat → Int32) (i : Nat) (hi : i < 2) : Met l yX2_width wsX2_width ({ frames := 1, cells := 0, slots := 0, locals := 13 }) (cPreK D ak ad [.ref h0, .int (nI i)] ([]) sz ([(h0, .inr (2, [.int (nI st), .ref p1, .ref p2, .int (nI ce), .ref p4, .int (nI gi), .ref p6, .ref p7, .ref p8, .int (nI ln), .ref p10, .ref p11, .ref p12, .ref p13, .ref p14, .ref p15, .ref p16])), (p7, .inl (ak 0, 2, .inl (fle))), (p8, .inl (ak 0, 2, .inl (fgr)))])) (cI D (S := Unit) (fun (r : Int32) (u : Unit) => r = wdt (fgr i) (fle i)) (fun u => []) ([]) sz) 0 0 (va_A ([]) sz) := by
  refine Met.ofW (cc := cX2_width) (maxL := 2) (ret := (some .int)) (by decide) rfl ?_
  intro p e s m args below meth c s₁ B hml hv
  obtain ⟨⟨rfl, hsz, hP, hE, hD0, hT⟩, hKT⟩ := hv
  have hx := B.exec
  have hb := B.bytes
  have hr := B.returns
  have hts := atoms_spec (ws := wsX2_width) B.pre
  have hown : s.vm.findClass RX2 = some m.cls := findClass_of_methodNamed B.named
  have hlocks := B.notSynchronized
  subst hsz
  have hD := hD0.self (sz := s.heap.size)
  generalize hAe : va_A ([]) s.heap.size = A at hD hT hKT ⊢
  have hA : ∀ q : Nat, s.heap.size ≤ q → A q := fun q h => by rw [← hAe]; exact Or.inr h
  have hS : va_S A s.heap s.heap [] := va_S.rf
  have hl := lv_entry ([.ref h0, .int (nI i)]) (n := 2) (Nat.le_of_ble_eq_true rfl)
  rw [lg_entry_eq]
  generalize (lg_sl ([.ref h0, .int (nI i)]) ++ List.replicate (2 - (lg_sl ([.ref h0, .int (nI i)])).length) Slot.unset).toArray = ls at hl ⊢
  have hl : lv_has ls 2 [(0, .ref h0), (1, .int (nI i))] := hl
  have hP : va_P D vwCl [] s.heap := hP
  have hCW : ∀ {H : Heap} {locs : List Loc}, va_S A s.heap H locs → va_P D vwCl [(h0, .inr (2, [.int (nI st), .ref p1, .ref p2, .int (nI ce), .ref p4, .int (nI gi), .ref p6, .ref p7, .ref p8, .int (nI ln), .ref p10, .ref p11, .ref p12, .ref p13, .ref p14, .ref p15, .ref p16])), (p7, .inl (ak 0, 2, .inl (fle))), (p8, .inl (ak 0, 2, .inl (fgr)))] H := fun hS => (hKT.kept hS.2.1).1
  refine lv_iconst (v := 1) hx hb dX2_width_0 (by decide) ?_
  refine lv_aload_n hx hb dX2_width_1 rfl (lv_at hl 0 rfl) ?_
  refine va_get (D := D) (ci := 2) (v := .ref p8) (C := RX2) (T := TX2) (N := 17) hx hb hts (fun w h => List.mem_cons_of_mem _ (List.mem_append_right _ h)) hown hE.1 (hCW hS) 0 rfl rfl 8 (by decide) (hts (.fieldLink RX2 27 "WornLines$Programme" "greatest" "[I") (by decide +kernel)) (fun _ h9 => h9) rfl dX2_width_2 ?_
  refine lv_iload_n hx hb dX2_width_5 rfl (lv_at hl 1 rfl) ?_
  refine va_iald hx hb hE.1 (hCW hS) 2 0 rfl rfl (in_n hi (by decide)) dX2_width_6 ?_
  refine W.eq (g2 := F0 m 7 ls (.int (fgr i) :: .int (1) :: [])) (by rw [nI_clamp (by omega)]) ?_
  refine lv_aload_n hx hb dX2_width_7 rfl (lv_at hl 0 rfl) ?_
  refine va_get (D := D) (ci := 2) (v := .ref p7) (C := RX2) (T := TX2) (N := 17) hx hb hts (fun w h => List.mem_cons_of_mem _ (List.mem_append_right _ h)) hown hE.1 (hCW hS) 0 rfl rfl 7 (by decide) (hts (.fieldLink RX2 24 "WornLines$Programme" "least" "[I") (by decide +kernel)) (fun _ h9 => h9) rfl dX2_width_8 ?_
  refine lv_iload_n hx hb dX2_width_11 rfl (lv_at hl 1 rfl) ?_
  refine va_iald hx hb hE.1 (hCW hS) 1 0 rfl rfl (in_n hi (by decide)) dX2_width_12 ?_
  refine W.eq (g2 := F0 m 13 ls (.int (fle i) :: .int (fgr i) :: .int (1) :: [])) (by rw [nI_clamp (by omega)]) ?_
  refine lv_isub hx hb dX2_width_13 ?_
  refine lv_iconst (v := 1) hx hb dX2_width_14 (by decide) ?_
  refine lv_iadd hx hb dX2_width_15 ?_
  refine va_mmax hx hb (by rw [hml]; exact hl.1.symm) hown (hts (.methodLink RX2 59 Lib.Math.max.name) (by decide +kernel)) (hts (.static Lib.Math.max.name) (by decide +kernel)) (hts (.initialized "java/lang/Math") (by decide +kernel)) (hts (.code Lib.Math.max.name Lib.Math.max.code 2 (some .int)) (by decide +kernel)) (Nat.le_of_ble_eq_true rfl) (Nat.le_of_ble_eq_true rfl) (Nat.le_of_ble_eq_true rfl) (Nat.le_of_ble_eq_true rfl) dX2_width_16 ?_
  refine lv_topi (fun x_1 ex_1 => ?_)
  have hP9 := hP.sub (ws' := []) [] rfl
  have hD9 := hD.sub (ws' := []) [] (by decide) rfl
  refine W.widen (k := 0) (n := 0) (Nat.le_of_ble_eq_true rfl) (Nat.le_of_ble_eq_true rfl) ?_
  exact W.iret (v := x_1) hx hb hr (fun t ht hW => ⟨⟨x_1, (()), rfl, (by rw [ex_1]; unfold wdt; rfl), by rw [ht]; exact hP9, by rw [hAe]; exact hD9⟩, by rw [hAe]; exact hS.F ht⟩) hS.2.2 dX2_width_19

set_option maxHeartbeats 4000000 in
set_option maxRecDepth 100000 in
theorem c_X1_bearing (l : Launch) (D : va_G) (ak : Nat → ClassId) (ad : Nat → Nat) (sz : Nat) (h0 : Nat) (pg : Nat) (m1 : Nat) (m2 : Nat) (m3 : Nat) (m4 : Nat) (m5 : Nat) (m6 : Nat) (wy : Int32) (sta : Int32) (nx : Int32) (sp : Int32) (wr : Int32) (st : Nat) (ce : Nat) (gi : Nat) (ln : Nat) (p1 : Nat) (p2 : Nat) (p4 : Nat) (p6 : Nat) (p7 : Nat) (p8 : Nat) (p10 : Nat) (p11 : Nat) (p12 : Nat) (p13 : Nat) (p14 : Nat) (p15 : Nat) (p16 : Nat) (fbe : Nat → Int32) (gst : Nat → Int32) (gtw : Nat → Int32) (i : Nat) (k : Nat) (hi : i < 16) (hk : k < 4) (hg : gst i = nI k) : Met l yX1_bearing wsX1_bearing ({ frames := 0, cells := 0, slots := 0, locals := 0 }) (cPreK D ak ad [.ref h0, .int (nI i)] ([(h0, .inr (1, [.ref pg, .ref m1, .ref m2, .ref m3, .ref m4, .ref m5, .ref m6, .int (wy), .int (sta), .int (nx), .int (sp), .int (wr)])), (m1, .inl (ak 0, 16, .inl (gst))), (m2, .inl (ak 0, 16, .inl (gtw)))]) sz ([(pg, .inr (2, [.int (nI st), .ref p1, .ref p2, .int (nI ce), .ref p4, .int (nI gi), .ref p6, .ref p7, .ref p8, .int (nI ln), .ref p10, .ref p11, .ref p12, .ref p13, .ref p14, .ref p15, .ref p16])), (p1, .inl (ak 0, 4, .inl (fbe)))])) (cI D (S := Unit) (fun (r : Int32) (u : Unit) => r = fbe k * gtw i) (fun u => [(h0, .inr (1, [.ref pg, .ref m1, .ref m2, .ref m3, .ref m4, .ref m5, .ref m6, .int (wy), .int (sta), .int (nx), .int (sp), .int (wr)])), (m1, .inl (ak 0, 16, .inl (gst))), (m2, .inl (ak 0, 16, .inl (gtw)))]) ([(h0, .inr (1, [.ref pg, .ref m1, .ref m2, .ref m3, .ref m4, .ref m5, .ref m6, .int (wy), .int (sta), .int (nx), .int (sp), .int (wr)])), (m1, .inl (ak 0, 16, .inl (gst))), (m2, .inl (ak 0, 16, .inl (gtw)))]) sz) 0 0 (va_A ([(h0, .inr (1, [.ref pg, .ref m1, .ref m2, .ref m3, .ref m4, .ref m5, .ref m6, .int (wy), .int (sta), .int (nx), .int (sp), .int (wr)])), (m1, .inl (ak 0, 16, .inl (gst))), (m2, .inl (ak 0, 16, .inl (gtw)))]) sz) := by
  refine Met.ofW (cc := cX1_bearing) (maxL := 2) (ret := (some .int)) (by decide) rfl ?_
  intro p e s m args below meth c s₁ B hml hv
  obtain ⟨⟨rfl, hsz, hP, hE, hD0, hT⟩, hKT⟩ := hv
  have hx := B.exec
  have hb := B.bytes
  have hr := B.returns
  have hts := atoms_spec (ws := wsX1_bearing) B.pre
  have hown : s.vm.findClass RX1 = some m.cls := findClass_of_methodNamed B.named
  have hlocks := B.notSynchronized
  subst hsz
  have hD := hD0.self (sz := s.heap.size)
  generalize hAe : va_A ([(h0, .inr (1, [.ref pg, .ref m1, .ref m2, .ref m3, .ref m4, .ref m5, .ref m6, .int (wy), .int (sta), .int (nx), .int (sp), .int (wr)])), (m1, .inl (ak 0, 16, .inl (gst))), (m2, .inl (ak 0, 16, .inl (gtw)))]) s.heap.size = A at hD hT hKT ⊢
  have hA : ∀ q : Nat, s.heap.size ≤ q → A q := fun q h => by rw [← hAe]; exact Or.inr h
  have hS : va_S A s.heap s.heap [] := va_S.rf
  have hl := lv_entry ([.ref h0, .int (nI i)]) (n := 2) (Nat.le_of_ble_eq_true rfl)
  rw [lg_entry_eq]
  generalize (lg_sl ([.ref h0, .int (nI i)]) ++ List.replicate (2 - (lg_sl ([.ref h0, .int (nI i)])).length) Slot.unset).toArray = ls at hl ⊢
  have hl : lv_has ls 2 [(0, .ref h0), (1, .int (nI i))] := hl
  have hP : va_P D vwCl [(h0, .inr (1, [.ref pg, .ref m1, .ref m2, .ref m3, .ref m4, .ref m5, .ref m6, .int (wy), .int (sta), .int (nx), .int (sp), .int (wr)])), (m1, .inl (ak 0, 16, .inl (gst))), (m2, .inl (ak 0, 16, .inl (gtw)))] s.heap := hP
  have hCW : ∀ {H : Heap} {locs : List Loc}, va_S A s.heap H locs → va_P D vwCl [(pg, .inr (2, [.int (nI st), .ref p1, .ref p2, .int (nI ce), .ref p4, .int (nI gi), .ref p6, .ref p7, .ref p8, .int (nI ln), .ref p10, .ref p11, .ref p12, .ref p13, .ref p14, .ref p15, .ref p16])), (p1, .inl (ak 0, 4, .inl (fbe)))] H := fun hS => (hKT.kept hS.2.1).1
  refine lv_aload_n hx hb dX1_bearing_0 rfl (lv_at hl 0 rfl) ?_
  refine va_get (D := D) (ci := 1) (v := .ref pg) (C := RX1) (T := TX1) (N := 12) hx hb hts (fun w h => List.mem_cons_of_mem _ (List.mem_append_left _ (List.mem_append_right _ h))) hown hE.1 hP 0 rfl rfl 0 (by decide) (hts (.fieldLink RX1 34 "WornLines$Machine" "programme" "LWornLines$Programme;") (by decide +kernel)) (fun _ h9 => h9) rfl dX1_bearing_1 ?_
  refine va_get (D := D) (ci := 2) (v := .ref p1) (C := RX2) (T := TX2) (N := 17) hx hb hts (fun w h => List.mem_cons_of_mem _ (List.mem_append_right _ h)) hown hE.1 (hCW hS) 0 rfl rfl 1 (by decide) (hts (.fieldLink RX1 82 "WornLines$Programme" "bears" "[I") (by decide +kernel)) (fun _ h9 => h9) rfl dX1_bearing_4 ?_
  refine lv_aload_n hx hb dX1_bearing_7 rfl (lv_at hl 0 rfl) ?_
  refine va_get (D := D) (ci := 1) (v := .ref m1) (C := RX1) (T := TX1) (N := 12) hx hb hts (fun w h => List.mem_cons_of_mem _ (List.mem_append_left _ (List.mem_append_right _ h))) hown hE.1 hP 0 rfl rfl 1 (by decide) (hts (.fieldLink RX1 9 "WornLines$Machine" "stuffs" "[I") (by decide +kernel)) (fun _ h9 => h9) rfl dX1_bearing_8 ?_
  refine lv_iload_n hx hb dX1_bearing_11 rfl (lv_at hl 1 rfl) ?_
  refine va_iald hx hb hE.1 hP 1 0 rfl rfl (in_n hi (by decide)) dX1_bearing_12 ?_
  refine W.eq (g2 := F0 m 13 ls (.int (nI k) :: .ref p1 :: [])) (by rw [nI_clamp (by omega), hg]) ?_
  refine va_iald hx hb hE.1 (hCW hS) 1 0 rfl rfl (in_n hk (by decide)) dX1_bearing_13 ?_
  refine W.eq (g2 := F0 m 14 ls (.int (fbe k) :: [])) (by rw [nI_clamp (by omega)]) ?_
  refine lv_aload_n hx hb dX1_bearing_14 rfl (lv_at hl 0 rfl) ?_
  refine va_get (D := D) (ci := 1) (v := .ref m2) (C := RX1) (T := TX1) (N := 12) hx hb hts (fun w h => List.mem_cons_of_mem _ (List.mem_append_left _ (List.mem_append_right _ h))) hown hE.1 hP 0 rfl rfl 2 (by decide) (hts (.fieldLink RX1 15 "WornLines$Machine" "twins" "[I") (by decide +kernel)) (fun _ h9 => h9) rfl dX1_bearing_15 ?_
  refine lv_iload_n hx hb dX1_bearing_18 rfl (lv_at hl 1 rfl) ?_
  refine va_iald hx hb hE.1 hP 2 0 rfl rfl (in_n hi (by decide)) dX1_bearing_19 ?_
  refine W.eq (g2 := F0 m 20 ls (.int (gtw i) :: .int (fbe k) :: [])) (by rw [nI_clamp (by omega)]) ?_
  refine lv_imul hx hb dX1_bearing_20 ?_
  have hP9 := hP.sub (ws' := [(h0, .inr (1, [.ref pg, .ref m1, .ref m2, .ref m3, .ref m4, .ref m5, .ref m6, .int (wy), .int (sta), .int (nx), .int (sp), .int (wr)])), (m1, .inl (ak 0, 16, .inl (gst))), (m2, .inl (ak 0, 16, .inl (gtw)))]) [0, 1, 2] rfl
  have hD9 := hD.sub (ws' := [(h0, .inr (1, [.ref pg, .ref m1, .ref m2, .ref m3, .ref m4, .ref m5, .ref m6, .int (wy), .int (sta), .int (nx), .int (sp), .int (wr)])), (m1, .inl (ak 0, 16, .inl (gst))), (m2, .inl (ak 0, 16, .inl (gtw)))]) [0, 1, 2] (by decide) rfl
  refine W.widen (k := 0) (n := 0) (Nat.le_of_ble_eq_true rfl) (Nat.le_of_ble_eq_true rfl) ?_
  exact W.iret (v := (fbe k) * (gtw i)) hx hb hr (fun t ht hW => ⟨⟨(fbe k) * (gtw i), (()), rfl, rfl, by rw [ht]; exact hP9, by rw [hAe]; exact hD9⟩, by rw [hAe]; exact hS.F ht⟩) hS.2.2 dX1_bearing_21
