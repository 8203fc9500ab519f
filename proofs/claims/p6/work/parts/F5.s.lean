def xwL_cell : List Cond := .codeWith yL_cell cL_cell 4 (some .int) [(0, 9, 12, 13)] :: ([.classLink RL 13 kNSE, .methodLink RL 7 yX7_cell, .instanceMethod yX7_cell, .selects RX7 yX7_cell yX7_cell, .initialized RX7, .arrayClass .long] ++ xwX7_cell)
theorem xg_cellL : GoodIn xwL_cell (wsV RL 7 RX7 yX7_cell xwX7_cell) := goodIn_app (goodIn_r _ [2, 3, 4, 5] rfl (by decide +kernel)) (goodIn_sub (fun w h => List.mem_cons_of_mem _ (List.mem_append_right _ h)) (by decide +kernel))
def xwL_wrote : List Cond := .codeWith yL_wrote cL_wrote 4 (some .int) [(0, 9, 12, 13)] :: ([.classLink RL 13 kNSE, .methodLink RL 15 yX7_wrote, .instanceMethod yX7_wrote, .selects RX7 yX7_wrote yX7_wrote, .initialized RX7, .arrayClass .long] ++ xwX7_wrote)
theorem xg_wroteL : GoodIn xwL_wrote (wsV RL 15 RX7 yX7_wrote xwX7_wrote) := goodIn_app (goodIn_r _ [2, 3, 4, 5] rfl (by decide +kernel)) (goodIn_sub (fun w h => List.mem_cons_of_mem _ (List.mem_append_right _ h)) (by decide +kernel))
theorem dL_cell_0 : decode cL_cell 0 = .ok (.aload_n 2, 1) := by decide +kernel
theorem dL_cell_1 : decode cL_cell 1 = .ok (.iconst 0, 1) := by decide +kernel
theorem dL_cell_2 : decode cL_cell 2 = .ok (.aload_n 0, 1) := by decide +kernel
theorem dL_cell_3 : decode cL_cell 3 = .ok (.iload_n 1, 1) := by decide +kernel
theorem dL_cell_4 : decode cL_cell 4 = .ok (.invokevirtual 7, 3) := by decide +kernel
theorem dL_cell_12 : decode cL_cell 12 = .ok (.astore_n 3, 1) := by decide +kernel
theorem dL_cell_13 : decode cL_cell 13 = .ok (.iconst 1, 1) := by decide +kernel
theorem dL_cell_14 : decode cL_cell 14 = .ok (.ireturn, 1) := by decide +kernel
theorem dL_cell_7 : decode cL_cell 7 = .ok (.i2l, 1) := by decide +kernel
theorem dL_cell_8 : decode cL_cell 8 = .ok (.lastore, 1) := by decide +kernel
theorem dL_cell_9 : decode cL_cell 9 = .ok (.goto 6, 3) := by decide +kernel
theorem dL_cell_15 : decode cL_cell 15 = .ok (.iconst 0, 1) := by decide +kernel
theorem dL_cell_16 : decode cL_cell 16 = .ok (.ireturn, 1) := by decide +kernel
theorem dL_wrote_0 : decode cL_wrote 0 = .ok (.aload_n 2, 1) := by decide +kernel
theorem dL_wrote_1 : decode cL_wrote 1 = .ok (.iconst 0, 1) := by decide +kernel
theorem dL_wrote_2 : decode cL_wrote 2 = .ok (.aload_n 0, 1) := by decide +kernel
theorem dL_wrote_3 : decode cL_wrote 3 = .ok (.iload_n 1, 1) := by decide +kernel
theorem dL_wrote_4 : decode cL_wrote 4 = .ok (.invokevirtual 15, 3) := by decide +kernel
theorem dL_wrote_12 : decode cL_wrote 12 = .ok (.astore_n 3, 1) := by decide +kernel
theorem dL_wrote_13 : decode cL_wrote 13 = .ok (.iconst 1, 1) := by decide +kernel
theorem dL_wrote_14 : decode cL_wrote 14 = .ok (.ireturn, 1) := by decide +kernel
theorem dL_wrote_7 : decode cL_wrote 7 = .ok (.i2l, 1) := by decide +kernel
theorem dL_wrote_8 : decode cL_wrote 8 = .ok (.lastore, 1) := by decide +kernel
theorem dL_wrote_9 : decode cL_wrote 9 = .ok (.goto 6, 3) := by decide +kernel
theorem dL_wrote_15 : decode cL_wrote 15 = .ok (.iconst 0, 1) := by decide +kernel
theorem dL_wrote_16 : decode cL_wrote 16 = .ok (.ireturn, 1) := by decide +kernel
set_option maxHeartbeats 4000000 in
set_option maxRecDepth 100000 in
theorem x_Lcell (l : Launch) (hl0 : l.stackTraces = false) (D : va_G) (ak : Nat → ClassId) (ad : Nat → Nat) (sz h7 : Nat) (v : VW) (o0 : Nat) (L : va_W) (fo : Nat → Int64) (a0 : Int32) (hI : IX ak ad h7 v L) : Met l yL_cell xwL_cell ({ frames := 7, cells := 1, slots := 6, locals := 111 }) (cPreX D ak ad [.ref h7, .int a0, .ref o0] (L ++ [(o0, .inl (ak 1, 1, .inr (.inl fo)))]) sz) (cI D (S := va_W) (fun r L1 => ∃ f1 : Nat → Int64, L1 = L ++ [(o0, .inl (ak 1, 1, .inr (.inl f1)))] ∧ ((r = 1 ∧ f_cell v.2.2.1 a0 = none) ∨ (r = 0 ∧ ∃ w : Int32, f_cell v.2.2.1 a0 = some w ∧ f1 0 = w.toInt64))) (fun L1 => L1) (L ++ [(o0, .inl (ak 1, 1, .inr (.inl fo)))]) sz) 1 6 (va_A (L ++ [(o0, .inl (ak 1, 1, .inr (.inl fo)))]) sz) := by
  obtain ⟨xa, hL0⟩ := hI.head
  refine va_MetW (cc := cL_cell) (maxL := 4) (ret := (some .int)) (hh := [(0, 9, 12, 13)]) (by decide) rfl ?_
  intro p e s m args below meth c s₁ B hml hv
  obtain ⟨⟨rfl, hsz, hP, hE, hD0, hT⟩, hXE⟩ := hv
  have hx := B.exec
  have hb := B.bytes
  have hr := B.returns
  have hts := atoms_spec (ws := xwL_cell) B.pre
  have hown : s.vm.findClass RL = some m.cls := findClass_of_methodNamed B.named
  have hlocks := B.notSynchronized
  subst hsz
  have hD := hD0.self (sz := s.heap.size)
  generalize hAe : va_A (L ++ [(o0, .inl (ak 1, 1, .inr (.inl fo)))]) s.heap.size = A at hD hT hXE ⊢
  have hA : ∀ q : Nat, s.heap.size ≤ q → A q := fun q h => by rw [← hAe]; exact Or.inr h
  have hS : va_S A s.heap s.heap [] := va_S.rf
  have htab := vx_table (x := yL_cell) B (hts (.codeWith yL_cell cL_cell 4 (some .int) [(0, 9, 12, 13)]) List.mem_cons_self)
  have hl := lv_entry ([.ref h7, .int (a0), .ref o0]) (n := 4) (Nat.le_of_ble_eq_true rfl)
  rw [lg_entry_eq]
  generalize (lg_sl ([.ref h7, .int (a0), .ref o0]) ++ List.replicate (4 - (lg_sl ([.ref h7, .int (a0), .ref o0])).length) Slot.unset).toArray = ls at hl ⊢
  have hl : lv_has ls 4 [(0, .ref h7), (1, .int (a0)), (2, .ref o0)] := hl
  refine lv_aload_n hx hb dL_cell_0 rfl (lv_at hl 2 rfl) ?_
  refine lv_iconst (v := 0) hx hb dL_cell_1 (by decide) ?_
  refine lv_aload_n hx hb dL_cell_2 rfl (lv_at hl 0 rfl) ?_
  refine lv_iload_n hx hb dL_cell_3 rfl (lv_at hl 1 rfl) ?_
  have hP : va_P D vwCl ([] ++ (L ++ [(o0, .inl (ak 1, 1, .inr (.inl fo)))])) s.heap := hP
  have hD : va_D A ([] ++ (L ++ [(o0, .inl (ak 1, 1, .inr (.inl fo)))])) := hD
  have hF := lc_free hD hS hA
  refine vx_calli (vx_runV (As := [.int (a0)]) (rest := [.int 0, .ref o0]) ⟨hx, hb, hml, hown, hts⟩ (x_cell l hl0 D ak ad _ h7 v L a0 hI) (cwV 1 hts xg_cellL rfl rfl rfl (by decide +kernel) ⟨(Nat.le_of_ble_eq_true rfl), (Nat.le_of_ble_eq_true rfl)⟩) (lc_preVX (As := [.int (a0)]) hXE hE hT hP hD hS hA 0 6 rfl rfl hL0) rfl rfl hl.1 rfl (lv_room (Nat.le_of_ble_eq_true rfl)) dL_cell_4 ⟨(Nat.le_of_ble_eq_true rfl), (Nat.le_of_ble_eq_true rfl)⟩) hS (fun q _ h => hF q h) hF (fun q _ h => hF q h) (fun E ce q9 u t H1 locs1 ht hvm hpx hBX hz hk hS1 hce hcv hcl => ?_) (fun r u t H1 locs1 ht hvm hw hB hz hk hS1 => ?_)
  · obtain ⟨hE9, hno, hP9, hD9⟩ := hBX
    subst hE9
    rw [ht] at hP9
    obtain ⟨hP, hD⟩ := lc_join hP hD hF hk hP9 hD9
    refine vx_catch (name := kNSE) hown [] ⟨0, 9, 12, 13⟩ [] (by rw [htab]; rfl) (fun z h => nomatch h) (by decide) (by decide) (hts (.classLink RL 13 kNSE) (by decide +kernel)) (va_Nw.use rfl hXE.2.2.2.2.1) hce hcv hcl ?_
    refine lv_astore_n (lv' := [(3, .ref q9), (0, .ref h7), (1, .int (a0)), (2, .ref o0)]) hx hb dL_cell_12 rfl hl (by decide) rfl (fun ls hl => ?_)
    refine lv_iconst (v := 1) hx hb dL_cell_13 (by decide) ?_
    refine W.widen (k := 1) (n := 6) (Nat.le_of_ble_eq_true rfl) (Nat.le_of_ble_eq_true rfl) ?_
    exact W.iret (v := 1) hx hb hr (fun t ht hW => ⟨⟨1, L ++ [(o0, .inl (ak 1, 1, .inr (.inl fo)))], rfl, ⟨fo, rfl, Or.inl ⟨rfl, hno⟩⟩, by rw [ht]; exact hP, by rw [hAe]; exact hD⟩, by rw [hAe]; exact hS1.F ht⟩) hS1.2.2 dL_cell_14
  · obtain ⟨hP9, hD9⟩ := hB
    obtain ⟨hw, hso⟩ := hw
    subst hw
    rw [ht] at hP9
    obtain ⟨hP, hD⟩ := lc_join hP hD hF hk hP9 hD9
    have hP : va_P D vwCl (u ++ [(o0, .inl (ak 1, 1, .inr (.inl fo)))]) H1 := hP
    have hD : va_D A (u ++ [(o0, .inl (ak 1, 1, .inr (.inl fo)))]) := hD
    refine lv_i2l hx hb dL_cell_7 rfl ?_
    refine va_last hx hb hE.1 hP hD hS1 u.length 1 (by rw [List.getElem?_append_right (Nat.le_refl _), Nat.sub_self]; rfl) rfl (by unfold vp_in; decide) dL_cell_8 (fun H2 locs2 hP hD hS2 => ?_)
    rw [List.set_append_right _ _ (Nat.le_refl _), Nat.sub_self] at hP hD
    refine lv_goto (tgt := 15) hx hb dL_cell_9 (by decide) ?_
    refine lv_iconst (v := 0) hx hb dL_cell_15 (by decide) ?_
    refine W.widen (k := 1) (n := 6) (Nat.le_of_ble_eq_true rfl) (Nat.le_of_ble_eq_true rfl) ?_
    exact W.iret (v := 0) hx hb hr (fun t ht hW => ⟨⟨0, _, rfl, ⟨_, rfl, Or.inr ⟨rfl, r, hso, rfl⟩⟩, by rw [ht]; exact hP, by rw [hAe]; exact hD⟩, by rw [hAe]; exact hS2.F ht⟩) hS2.2.2 dL_cell_16
set_option maxHeartbeats 4000000 in
set_option maxRecDepth 100000 in
theorem x_Lwrote (l : Launch) (hl0 : l.stackTraces = false) (D : va_G) (ak : Nat → ClassId) (ad : Nat → Nat) (sz h7 : Nat) (v : VW) (o0 : Nat) (L : va_W) (fo : Nat → Int64) (a0 : Int32) (hI : IX ak ad h7 v L) : Met l yL_wrote xwL_wrote ({ frames := 7, cells := 1, slots := 6, locals := 111 }) (cPreX D ak ad [.ref h7, .int a0, .ref o0] (L ++ [(o0, .inl (ak 1, 1, .inr (.inl fo)))]) sz) (cI D (S := va_W) (fun r L1 => ∃ f1 : Nat → Int64, L1 = L ++ [(o0, .inl (ak 1, 1, .inr (.inl f1)))] ∧ ((r = 1 ∧ f_wrote v.2.2.1 a0 = none) ∨ (r = 0 ∧ ∃ w : Int32, f_wrote v.2.2.1 a0 = some w ∧ f1 0 = w.toInt64))) (fun L1 => L1) (L ++ [(o0, .inl (ak 1, 1, .inr (.inl fo)))]) sz) 1 6 (va_A (L ++ [(o0, .inl (ak 1, 1, .inr (.inl fo)))]) sz) := by
  obtain ⟨xa, hL0⟩ := hI.head
  refine va_MetW (cc := cL_wrote) (maxL := 4) (ret := (some .int)) (hh := [(0, 9, 12, 13)]) (by decide) rfl ?_
  intro p e s m args below meth c s₁ B hml hv
  obtain ⟨⟨rfl, hsz, hP, hE, hD0, hT⟩, hXE⟩ := hv
  have hx := B.exec
  have hb := B.bytes
  have hr := B.returns
  have hts := atoms_spec (ws := xwL_wrote) B.pre
  have hown : s.vm.findClass RL = some m.cls := findClass_of_methodNamed B.named
  have hlocks := B.notSynchronized
  subst hsz
  have hD := hD0.self (sz := s.heap.size)
  generalize hAe : va_A (L ++ [(o0, .inl (ak 1, 1, .inr (.inl fo)))]) s.heap.size = A at hD hT hXE ⊢
  have hA : ∀ q : Nat, s.heap.size ≤ q → A q := fun q h => by rw [← hAe]; exact Or.inr h
  have hS : va_S A s.heap s.heap [] := va_S.rf
  have htab := vx_table (x := yL_wrote) B (hts (.codeWith yL_wrote cL_wrote 4 (some .int) [(0, 9, 12, 13)]) List.mem_cons_self)
  have hl := lv_entry ([.ref h7, .int (a0), .ref o0]) (n := 4) (Nat.le_of_ble_eq_true rfl)
  rw [lg_entry_eq]
  generalize (lg_sl ([.ref h7, .int (a0), .ref o0]) ++ List.replicate (4 - (lg_sl ([.ref h7, .int (a0), .ref o0])).length) Slot.unset).toArray = ls at hl ⊢
  have hl : lv_has ls 4 [(0, .ref h7), (1, .int (a0)), (2, .ref o0)] := hl
  refine lv_aload_n hx hb dL_wrote_0 rfl (lv_at hl 2 rfl) ?_
  refine lv_iconst (v := 0) hx hb dL_wrote_1 (by decide) ?_
  refine lv_aload_n hx hb dL_wrote_2 rfl (lv_at hl 0 rfl) ?_
  refine lv_iload_n hx hb dL_wrote_3 rfl (lv_at hl 1 rfl) ?_
  have hP : va_P D vwCl ([] ++ (L ++ [(o0, .inl (ak 1, 1, .inr (.inl fo)))])) s.heap := hP
  have hD : va_D A ([] ++ (L ++ [(o0, .inl (ak 1, 1, .inr (.inl fo)))])) := hD
  have hF := lc_free hD hS hA
  refine vx_calli (vx_runV (As := [.int (a0)]) (rest := [.int 0, .ref o0]) ⟨hx, hb, hml, hown, hts⟩ (x_wrote l hl0 D ak ad _ h7 v L a0 hI) (cwV 1 hts xg_wroteL rfl rfl rfl (by decide +kernel) ⟨(Nat.le_of_ble_eq_true rfl), (Nat.le_of_ble_eq_true rfl)⟩) (lc_preVX (As := [.int (a0)]) hXE hE hT hP hD hS hA 0 6 rfl rfl hL0) rfl rfl hl.1 rfl (lv_room (Nat.le_of_ble_eq_true rfl)) dL_wrote_4 ⟨(Nat.le_of_ble_eq_true rfl), (Nat.le_of_ble_eq_true rfl)⟩) hS (fun q _ h => hF q h) hF (fun q _ h => hF q h) (fun E ce q9 u t H1 locs1 ht hvm hpx hBX hz hk hS1 hce hcv hcl => ?_) (fun r u t H1 locs1 ht hvm hw hB hz hk hS1 => ?_)
  · obtain ⟨hE9, hno, hP9, hD9⟩ := hBX
    subst hE9
    rw [ht] at hP9
    obtain ⟨hP, hD⟩ := lc_join hP hD hF hk hP9 hD9
    refine vx_catch (name := kNSE) hown [] ⟨0, 9, 12, 13⟩ [] (by rw [htab]; rfl) (fun z h => nomatch h) (by decide) (by decide) (hts (.classLink RL 13 kNSE) (by decide +kernel)) (va_Nw.use rfl hXE.2.2.2.2.1) hce hcv hcl ?_
    refine lv_astore_n (lv' := [(3, .ref q9), (0, .ref h7), (1, .int (a0)), (2, .ref o0)]) hx hb dL_wrote_12 rfl hl (by decide) rfl (fun ls hl => ?_)
    refine lv_iconst (v := 1) hx hb dL_wrote_13 (by decide) ?_
    refine W.widen (k := 1) (n := 6) (Nat.le_of_ble_eq_true rfl) (Nat.le_of_ble_eq_true rfl) ?_
    exact W.iret (v := 1) hx hb hr (fun t ht hW => ⟨⟨1, L ++ [(o0, .inl (ak 1, 1, .inr (.inl fo)))], rfl, ⟨fo, rfl, Or.inl ⟨rfl, hno⟩⟩, by rw [ht]; exact hP, by rw [hAe]; exact hD⟩, by rw [hAe]; exact hS1.F ht⟩) hS1.2.2 dL_wrote_14
  · obtain ⟨hP9, hD9⟩ := hB
    obtain ⟨hw, hso⟩ := hw
    subst hw
    rw [ht] at hP9
    obtain ⟨hP, hD⟩ := lc_join hP hD hF hk hP9 hD9
    have hP : va_P D vwCl (u ++ [(o0, .inl (ak 1, 1, .inr (.inl fo)))]) H1 := hP
    have hD : va_D A (u ++ [(o0, .inl (ak 1, 1, .inr (.inl fo)))]) := hD
    refine lv_i2l hx hb dL_wrote_7 rfl ?_
    refine va_last hx hb hE.1 hP hD hS1 u.length 1 (by rw [List.getElem?_append_right (Nat.le_refl _), Nat.sub_self]; rfl) rfl (by unfold vp_in; decide) dL_wrote_8 (fun H2 locs2 hP hD hS2 => ?_)
    rw [List.set_append_right _ _ (Nat.le_refl _), Nat.sub_self] at hP hD
    refine lv_goto (tgt := 15) hx hb dL_wrote_9 (by decide) ?_
    refine lv_iconst (v := 0) hx hb dL_wrote_15 (by decide) ?_
    refine W.widen (k := 1) (n := 6) (Nat.le_of_ble_eq_true rfl) (Nat.le_of_ble_eq_true rfl) ?_
    exact W.iret (v := 0) hx hb hr (fun t ht hW => ⟨⟨0, _, rfl, ⟨_, rfl, Or.inr ⟨rfl, r, hso, rfl⟩⟩, by rw [ht]; exact hP, by rw [hAe]; exact hD⟩, by rw [hAe]; exact hS2.F ht⟩) hS2.2.2 dL_wrote_16
