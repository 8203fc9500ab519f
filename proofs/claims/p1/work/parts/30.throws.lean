theorem dX7_cell_0 : decode cX7_cell 0 = .ok (.aload_n 0, 1) := by decide +kernel
theorem dX7_cell_1 : decode cX7_cell 1 = .ok (.getfield 37, 3) := by decide +kernel
theorem dX7_cell_4 : decode cX7_cell 4 = .ok (.getfield 155, 3) := by decide +kernel
theorem dX7_cell_7 : decode cX7_cell 7 = .ok (.ifCond .eq 20, 3) := by decide +kernel
theorem dX7_cell_27 : decode cX7_cell 27 = .ok (.new 164, 3) := by decide +kernel
theorem dX7_cell_30 : decode cX7_cell 30 = .ok (.dup, 1) := by decide +kernel
theorem dX7_cell_31 : decode cX7_cell 31 = .ok (.ldc 166, 2) := by decide +kernel
theorem dX7_cell_33 : decode cX7_cell 33 = .ok (.invokespecial 168, 3) := by decide +kernel
theorem dX7_cell_36 : decode cX7_cell 36 = .ok (.athrow, 1) := by decide +kernel
theorem dX7_wrote_0 : decode cX7_wrote 0 = .ok (.iload_n 1, 1) := by decide +kernel
theorem dX7_wrote_1 : decode cX7_wrote 1 = .ok (.aload_n 0, 1) := by decide +kernel
theorem dX7_wrote_2 : decode cX7_wrote 2 = .ok (.getfield 37, 3) := by decide +kernel
theorem dX7_wrote_5 : decode cX7_wrote 5 = .ok (.getfield 161, 3) := by decide +kernel
theorem dX7_wrote_8 : decode cX7_wrote 8 = .ok (.sipush 200, 3) := by decide +kernel
theorem dX7_wrote_11 : decode cX7_wrote 11 = .ok (.invokestatic 147, 3) := by decide +kernel
theorem dX7_wrote_14 : decode cX7_wrote 14 = .ok (.invokestatic 95, 3) := by decide +kernel
theorem dX7_wrote_17 : decode cX7_wrote 17 = .ok (.ifCond .ne 13, 3) := by decide +kernel
theorem dX7_wrote_20 : decode cX7_wrote 20 = .ok (.new 164, 3) := by decide +kernel
theorem dX7_wrote_23 : decode cX7_wrote 23 = .ok (.dup, 1) := by decide +kernel
theorem dX7_wrote_24 : decode cX7_wrote 24 = .ok (.ldc 173, 2) := by decide +kernel
theorem dX7_wrote_26 : decode cX7_wrote 26 = .ok (.invokespecial 168, 3) := by decide +kernel
theorem dX7_wrote_29 : decode cX7_wrote 29 = .ok (.athrow, 1) := by decide +kernel
theorem dL_cell_0 : decode cL_cell 0 = .ok (.aload_n 2, 1) := by decide +kernel
theorem dL_cell_1 : decode cL_cell 1 = .ok (.iconst 0, 1) := by decide +kernel
theorem dL_cell_2 : decode cL_cell 2 = .ok (.aload_n 0, 1) := by decide +kernel
theorem dL_cell_3 : decode cL_cell 3 = .ok (.iload_n 1, 1) := by decide +kernel
theorem dL_cell_4 : decode cL_cell 4 = .ok (.invokevirtual 7, 3) := by decide +kernel
theorem dL_cell_12 : decode cL_cell 12 = .ok (.astore_n 3, 1) := by decide +kernel
theorem dL_cell_13 : decode cL_cell 13 = .ok (.iconst 1, 1) := by decide +kernel
theorem dL_cell_14 : decode cL_cell 14 = .ok (.ireturn, 1) := by decide +kernel
theorem dL_wrote_0 : decode cL_wrote 0 = .ok (.aload_n 2, 1) := by decide +kernel
theorem dL_wrote_1 : decode cL_wrote 1 = .ok (.iconst 0, 1) := by decide +kernel
theorem dL_wrote_2 : decode cL_wrote 2 = .ok (.aload_n 0, 1) := by decide +kernel
theorem dL_wrote_3 : decode cL_wrote 3 = .ok (.iload_n 1, 1) := by decide +kernel
theorem dL_wrote_4 : decode cL_wrote 4 = .ok (.invokevirtual 15, 3) := by decide +kernel
theorem dL_wrote_12 : decode cL_wrote 12 = .ok (.astore_n 3, 1) := by decide +kernel
theorem dL_wrote_13 : decode cL_wrote 13 = .ok (.iconst 1, 1) := by decide +kernel
theorem dL_wrote_14 : decode cL_wrote 14 = .ok (.ireturn, 1) := by decide +kernel
def XE (A : Nat → Prop) (U : State) (H : Heap) : Prop := vx_Zq Bundle.tN "UNASSIGNED_STACK" Bundle.steD A U H ∧ vx_Zq Bundle.tN "SUPPRESSED_SENTINEL" Bundle.listD A U H ∧ (∃ a, vk_R RX7 166 "no such cell, or nothing is begun" a U) ∧ (∃ a, vk_R RX7 173 "not written, or not kept" a U) ∧ va_Nw (.castable kNSE kNSE) U ∧ ∀ y ∈ kND, va_Nw (.declares (Bundle.initS y)) U
theorem XE.kept {A : Nat → Prop} {U : State} {H H1 : Heap} (h : XE A U H) (hq : ∀ a : Nat, a < H.size → ¬ A a → H1[a]? = H[a]?) : XE A U H1 := ⟨h.1.kept hq, h.2.1.kept hq, h.2.2⟩
theorem XE.narrow {A B : Nat → Prop} {U : State} {H : Heap} (h : XE A U H) (hAB : ∀ q, B q → A q) : XE B U H := ⟨h.1.narrow hAB, h.2.1.narrow hAB, h.2.2⟩
theorem XE.warm {A : Nat → Prop} {s U : State} {H : Heap} (hW : s.WarmedH U.vm) (h : XE A s H) : XE A U H := ⟨h.1.moved hW.alike, h.2.1.moved hW.alike, h.2.2.1.imp (fun _ q => q.warm hW), h.2.2.2.1.imp (fun _ q => q.warm hW), va_Nw.warmC hW h.2.2.2.2.1, fun y hy => va_Nw.warmD hW (h.2.2.2.2.2 y hy)⟩
theorem XE.same {A : Nat → Prop} {s U : State} {H : Heap} (hv : s.vm = U.vm) (h : XE A s H) : XE A U H := ⟨h.1.moved (hv ▸ Vm.Alike.refl s.vm), h.2.1.moved (hv ▸ Vm.Alike.refl s.vm), h.2.2.1.imp (fun _ q => q.same hv.symm), h.2.2.2.1.imp (fun _ q => q.same hv.symm), va_Nw.same rfl hv h.2.2.2.2.1, fun y hy => va_Nw.same rfl hv (h.2.2.2.2.2 y hy)⟩
def cPreX (D : va_G) (ak : Nat → ClassId) (ad : Nat → Nat) (av : List Value) (ws : va_W) (sz : Nat) : Array Value → State → Prop := fun v U => cPre D ak ad av ws sz v U ∧ XE (va_A ws sz) U U.heap
theorem cPreX.blind {D : va_G} {ak : Nat → ClassId} {ad : Nat → Nat} {av : List Value} {ws : va_W} {sz : Nat} : FrameBlind (cPreX D ak ad av ws sz) := fun a U g mk q => ⟨cPre.blind a U g mk q.1, XE.same (s := U) (U := U.calling g mk a) rfl q.2⟩
theorem kc_preX {D : va_G} {ak : Nat → ClassId} {ad : Nat → Nat} {s : State} {H : Heap} {A : Nat → Prop} {ws : va_W} {locs : List Loc} {wc : va_W} {As : List Value} (hXE : XE A s s.heap) (hE : EV D ak s) (hT : ST ad A s s.heap) (hP : va_P D vwCl ws H) (hD : va_D A ws) (hS : va_S A s.heap H locs) (hA : ∀ q, s.heap.size ≤ q → A q) (isC : List Nat) (hn : va_nd isC = true) (hC : isC.map (fun i => ws[i]?) = wc.map some) (hC2 : isC.filterMap (fun i => ws[i]?) = wc) : PreS s H (cPreX D ak ad As wc H.size) As := by
  have h := kc_pre (As := As) hE hT hP hD hS hA isC hn hC hC2
  refine ⟨cPreX.blind, fun U hU hW => ⟨h.2 U hU hW, ?_⟩⟩
  rw [hU]
  exact ((hXE.kept hS.2.1).narrow (va_free hD hS hA isC hC)).warm hW
theorem kc_preVX {D : va_G} {ak : Nat → ClassId} {ad : Nat → Nat} {s : State} {H : Heap} {A : Nat → Prop} {ws : va_W} {locs : List Loc} {wc : va_W} {As : List Value} {C : String} {b : Nat} (hXE : XE A s s.heap) (hE : EV D ak s) (hT : ST ad A s s.heap) (hP : va_P D vwCl ws H) (hD : va_D A ws) (hS : va_S A s.heap H locs) (hA : ∀ q, s.heap.size ≤ q → A q) (isC : List Nat) (hn : va_nd isC = true) (hC : isC.map (fun i => ws[i]?) = wc.map some) (hC2 : isC.filterMap (fun i => ws[i]?) = wc) (q0 ci : Nat) {fs : List Value} {q : vw_C} (hc : vwCl[ci]? = some q) (hq : q.1 = C) (he : ws[q0]? = some (b, .inr (ci, fs))) : PreV s H C b (cPreX D ak ad (.ref b :: As) wc H.size) As := by
  subst hq
  have h := kc_preX (As := .ref b :: As) hXE hE hT hP hD hS hA isC hn hC hC2
  exact ⟨h.1, va_recv hE.1 hP hc he, h.2⟩
abbrev xT (ws : va_W) (sz : Nat) : String → State → State → Prop := vx_X (S := Unit) (fun _ => True) (fun E _ _ => E = kNSE) (va_A ws sz)
theorem x_ng : ∀ w ∈ (xnL.filter vx_no).filter (fun w => !goodWord w), w ∈ Cond.castable kNSE kNSE :: kND.map (fun y => Cond.declares (Bundle.initS y)) := by decide +kernel
theorem x_b {A : Nat → Prop} {s : State} {H : Heap} {args : Array Value} (h : XE A s H) : ∀ w ∈ Cond.castable kNSE kNSE :: kND.map (fun y => Cond.declares (Bundle.initS y)), w.before args s = true := by
  intro w hw
  rcases List.mem_cons.mp hw with e | hw
  · rw [e]
    exact va_Nw.use rfl h.2.2.2.2.1
  · obtain ⟨y, hy, rfl⟩ := List.mem_map.mp hw
    exact va_Nw.use rfl (h.2.2.2.2.2 y hy)
theorem x_ot : ∀ w ∈ Cond.classLink RX7 164 kNSE :: Cond.initialized kNSE :: xnL.filter vx_no, vx_ot w = true := by decide +kernel
def xwX7_cell : List Cond := .code yX7_cell cX7_cell 2 (some .int) :: ([.classLink RX7 164 kNSE, .initialized kNSE, .fieldLink RX7 37 "WornLines" "hand" "LWornLines$Machine;", .fieldLink RX7 155 "WornLines$Machine" "state" "I"] ++ wsX70 ++ wsX10 ++ (xnL.filter vx_no).filter goodWord)
def xwX7_wrote : List Cond := .code yX7_wrote cX7_wrote 2 (some .int) :: ([.classLink RX7 164 kNSE, .initialized kNSE, .fieldLink RX7 37 "WornLines" "hand" "LWornLines$Machine;", .fieldLink RX7 161 "WornLines$Machine" "written" "I", .methodLink RX7 147 Lib.Math.min.name, .static Lib.Math.min.name, .initialized "java/lang/Math", .code Lib.Math.min.name Lib.Math.min.code 2 (some .int), .methodLink RX7 95 yX7_within, .static yX7_within, .initialized RX7, .code yX7_within cX7_within 2 (some .boolean)] ++ wsX70 ++ wsX10 ++ (xnL.filter vx_no).filter goodWord)
theorem xg_wrote : GoodIn xwX7_wrote (va_wsS RX7 95 yX7_within wsX7_within) := goodIn_r _ [9, 10, 11, 12] rfl (by decide +kernel)
def xwL_cell : List Cond := .codeWith yL_cell cL_cell 4 (some .int) [(0, 9, 12, 13)] :: ([.classLink RL 13 kNSE, .methodLink RL 7 yX7_cell, .instanceMethod yX7_cell, .selects RX7 yX7_cell yX7_cell, .initialized RX7] ++ xwX7_cell)
def xwL_wrote : List Cond := .codeWith yL_wrote cL_wrote 4 (some .int) [(0, 9, 12, 13)] :: ([.classLink RL 13 kNSE, .methodLink RL 15 yX7_wrote, .instanceMethod yX7_wrote, .selects RX7 yX7_wrote yX7_wrote, .initialized RX7] ++ xwX7_wrote)
theorem xg_cellL : GoodIn xwL_cell (wsV RL 7 RX7 yX7_cell xwX7_cell) := goodIn_app (goodIn_r _ [2, 3, 4, 5] rfl (by decide +kernel)) (goodIn_sub (fun w h => List.mem_cons_of_mem _ (List.mem_append_right _ h)) (by decide +kernel))
theorem xg_wroteL : GoodIn xwL_wrote (wsV RL 15 RX7 yX7_wrote xwX7_wrote) := goodIn_app (goodIn_r _ [2, 3, 4, 5] rfl (by decide +kernel)) (goodIn_sub (fun w h => List.mem_cons_of_mem _ (List.mem_append_right _ h)) (by decide +kernel))

set_option maxHeartbeats 4000000 in
set_option maxRecDepth 100000 in
theorem c_X7_cell (l : Launch) (hl0 : l.stackTraces = false) (D : va_G) (ak : Nat → ClassId) (ad : Nat → Nat) (sz : Nat) (h0 : Nat) (xt : Nat) (xe : Nat) (xr : Nat) (xh : Nat) (xw : Nat) (xf : Nat) (xm : Nat) (xd : Nat) (xs : Nat) (xl : Nat) (b1 : Nat) (b2 : Nat) (b3 : Nat) (b4 : Nat) (b5 : Nat) (b6 : Nat) (a0 : Int32) : vx_Met l yX7_cell xwX7_cell ({ frames := 6, cells := 1, slots := 6, locals := 90 }) (cPreX D ak ad [.ref h0, .int (a0)] ([(h0, .inr (6, [.ref xt, .ref xe, .ref xr, .ref xh, .ref xw, .ref xf, .ref xm, .ref xd, .ref xs, .ref xl])), (xh, .inr (1, [.ref xe, .ref b1, .ref b2, .ref b3, .ref b4, .ref b5, .ref b6, .int (0), .int (0), .int (0), .int (0), .int (0)]))]) sz) (cI D (S := Unit) (fun (r : Int32) (u : Unit) => False) (fun u => []) ([(h0, .inr (6, [.ref xt, .ref xe, .ref xr, .ref xh, .ref xw, .ref xf, .ref xm, .ref xd, .ref xs, .ref xl])), (xh, .inr (1, [.ref xe, .ref b1, .ref b2, .ref b3, .ref b4, .ref b5, .ref b6, .int (0), .int (0), .int (0), .int (0), .int (0)]))]) sz) (xT ([(h0, .inr (6, [.ref xt, .ref xe, .ref xr, .ref xh, .ref xw, .ref xf, .ref xm, .ref xd, .ref xs, .ref xl])), (xh, .inr (1, [.ref xe, .ref b1, .ref b2, .ref b3, .ref b4, .ref b5, .ref b6, .int (0), .int (0), .int (0), .int (0), .int (0)]))]) sz) 1 6 (va_A ([(h0, .inr (6, [.ref xt, .ref xe, .ref xr, .ref xh, .ref xw, .ref xf, .ref xm, .ref xd, .ref xs, .ref xl])), (xh, .inr (1, [.ref xe, .ref b1, .ref b2, .ref b3, .ref b4, .ref b5, .ref b6, .int (0), .int (0), .int (0), .int (0), .int (0)]))]) sz) := by
  refine vx_ofW (cc := cX7_cell) (maxL := 2) (ret := (some .int)) (by decide) rfl ?_
  intro p e s m args below meth c s₁ B hml htab hv
  obtain ⟨⟨rfl, hsz, hP, hE, hD0, hT⟩, hXE⟩ := hv
  have hx := B.exec
  have hb := B.bytes
  have hr := B.returns
  have hts := atoms_spec (ws := xwX7_cell) B.pre
  have hown : s.vm.findClass RX7 = some m.cls := findClass_of_methodNamed B.named
  have hlocks := B.notSynchronized
  subst hsz
  have hD := hD0.self (sz := s.heap.size)
  generalize hAe : va_A ([(h0, .inr (6, [.ref xt, .ref xe, .ref xr, .ref xh, .ref xw, .ref xf, .ref xm, .ref xd, .ref xs, .ref xl])), (xh, .inr (1, [.ref xe, .ref b1, .ref b2, .ref b3, .ref b4, .ref b5, .ref b6, .int (0), .int (0), .int (0), .int (0), .int (0)]))]) s.heap.size = A at hD hT hXE ⊢
  have hA : ∀ q : Nat, s.heap.size ≤ q → A q := fun q h => by rw [← hAe]; exact Or.inr h
  have hS : va_S A s.heap s.heap [] := va_S.rf
  have hl := lv_entry ([.ref h0, .int (a0)]) (n := 2) (Nat.le_of_ble_eq_true rfl)
  rw [lg_entry_eq]
  generalize (lg_sl ([.ref h0, .int (a0)]) ++ List.replicate (2 - (lg_sl ([.ref h0, .int (a0)])).length) Slot.unset).toArray = ls at hl ⊢
  have hl : lv_has ls 2 [(0, .ref h0), (1, .int (a0))] := hl
  have hP : va_P D vwCl [(h0, .inr (6, [.ref xt, .ref xe, .ref xr, .ref xh, .ref xw, .ref xf, .ref xm, .ref xd, .ref xs, .ref xl])), (xh, .inr (1, [.ref xe, .ref b1, .ref b2, .ref b3, .ref b4, .ref b5, .ref b6, .int (0), .int (0), .int (0), .int (0), .int (0)]))] s.heap := hP
  refine lv_aload_n hx hb dX7_cell_0 rfl (lv_at hl 0 rfl) ?_
  refine va_get (D := D) (ci := 6) (v := .ref xh) (C := RX7) (T := TX7) (N := 10) hx hb hts (fun w h => List.mem_cons_of_mem _ (List.mem_append_left _ (List.mem_append_left _ (List.mem_append_right _ h)))) hown hE.1 hP 0 rfl rfl 3 (by decide) (hts (.fieldLink RX7 37 "WornLines" "hand" "LWornLines$Machine;") (by decide +kernel)) (fun _ h9 => h9) rfl dX7_cell_1 ?_
  refine va_get (D := D) (ci := 1) (v := .int (0)) (C := RX1) (T := TX1) (N := 12) hx hb hts (fun w h => List.mem_cons_of_mem _ (List.mem_append_left _ (List.mem_append_right _ h))) hown hE.1 hP 1 rfl rfl 8 (by decide) (hts (.fieldLink RX7 155 "WornLines$Machine" "state" "I") (by decide +kernel)) (fun _ h9 => h9) rfl dX7_cell_4 ?_
  refine lv_if_eq (tgt := 27) hx hb dX7_cell_7 (by decide) (fun c_7 => ?_) (fun c_7 => ?_)
  · obtain ⟨sa, hstr⟩ := hXE.2.2.1
    exact xn_throw (text := "no such cell, or nothing is begun") (is := 166) hx hb hl0 hown (hts (.classLink RX7 164 kNSE) (by decide +kernel)) (hts (.initialized kNSE) (by decide +kernel)) hstr (vx_hat (fun w h => hts w (List.mem_cons_of_mem _ (List.mem_append_right _ h))) x_ng (fun w h => x_b hXE w h)) x_ot hXE.1 hXE.2.1 hS (by rw [hml]; exact hl.1) dX7_cell_27 dX7_cell_30 dX7_cell_31 dX7_cell_33 dX7_cell_36 (fun x h => (htab x h).elim) (Nat.le_of_ble_eq_true rfl) (Nat.le_of_ble_eq_true rfl) (Nat.le_of_ble_eq_true rfl) (Nat.le_of_ble_eq_true rfl) hlocks (fun t _ h1 h2 => ⟨(), trivial, rfl, Nat.le_trans hS.1 h1, fun q hq hq2 => (h2 q (Nat.lt_of_lt_of_le hq hS.1)).trans (hS.2.1 q hq (by rw [← hAe]; exact hq2))⟩) hS.2.2 (Nat.le_refl _) (Nat.le_refl _)
  · exact absurd c_7 (by decide)

set_option maxHeartbeats 4000000 in
set_option maxRecDepth 100000 in
theorem c_X7_wrote (l : Launch) (hl0 : l.stackTraces = false) (D : va_G) (ak : Nat → ClassId) (ad : Nat → Nat) (sz : Nat) (h0 : Nat) (xt : Nat) (xe : Nat) (xr : Nat) (xh : Nat) (xw : Nat) (xf : Nat) (xm : Nat) (xd : Nat) (xs : Nat) (xl : Nat) (b1 : Nat) (b2 : Nat) (b3 : Nat) (b4 : Nat) (b5 : Nat) (b6 : Nat) (a0 : Int32) : vx_Met l yX7_wrote xwX7_wrote ({ frames := 6, cells := 1, slots := 6, locals := 90 }) (cPreX D ak ad [.ref h0, .int (a0)] ([(h0, .inr (6, [.ref xt, .ref xe, .ref xr, .ref xh, .ref xw, .ref xf, .ref xm, .ref xd, .ref xs, .ref xl])), (xh, .inr (1, [.ref xe, .ref b1, .ref b2, .ref b3, .ref b4, .ref b5, .ref b6, .int (0), .int (0), .int (0), .int (0), .int (0)]))]) sz) (cI D (S := Unit) (fun (r : Int32) (u : Unit) => False) (fun u => []) ([(h0, .inr (6, [.ref xt, .ref xe, .ref xr, .ref xh, .ref xw, .ref xf, .ref xm, .ref xd, .ref xs, .ref xl])), (xh, .inr (1, [.ref xe, .ref b1, .ref b2, .ref b3, .ref b4, .ref b5, .ref b6, .int (0), .int (0), .int (0), .int (0), .int (0)]))]) sz) (xT ([(h0, .inr (6, [.ref xt, .ref xe, .ref xr, .ref xh, .ref xw, .ref xf, .ref xm, .ref xd, .ref xs, .ref xl])), (xh, .inr (1, [.ref xe, .ref b1, .ref b2, .ref b3, .ref b4, .ref b5, .ref b6, .int (0), .int (0), .int (0), .int (0), .int (0)]))]) sz) 1 6 (va_A ([(h0, .inr (6, [.ref xt, .ref xe, .ref xr, .ref xh, .ref xw, .ref xf, .ref xm, .ref xd, .ref xs, .ref xl])), (xh, .inr (1, [.ref xe, .ref b1, .ref b2, .ref b3, .ref b4, .ref b5, .ref b6, .int (0), .int (0), .int (0), .int (0), .int (0)]))]) sz) := by
  refine vx_ofW (cc := cX7_wrote) (maxL := 2) (ret := (some .int)) (by decide) rfl ?_
  intro p e s m args below meth c s₁ B hml htab hv
  obtain ⟨⟨rfl, hsz, hP, hE, hD0, hT⟩, hXE⟩ := hv
  have hx := B.exec
  have hb := B.bytes
  have hr := B.returns
  have hts := atoms_spec (ws := xwX7_wrote) B.pre
  have hown : s.vm.findClass RX7 = some m.cls := findClass_of_methodNamed B.named
  have hlocks := B.notSynchronized
  subst hsz
  have hD := hD0.self (sz := s.heap.size)
  generalize hAe : va_A ([(h0, .inr (6, [.ref xt, .ref xe, .ref xr, .ref xh, .ref xw, .ref xf, .ref xm, .ref xd, .ref xs, .ref xl])), (xh, .inr (1, [.ref xe, .ref b1, .ref b2, .ref b3, .ref b4, .ref b5, .ref b6, .int (0), .int (0), .int (0), .int (0), .int (0)]))]) s.heap.size = A at hD hT hXE ⊢
  have hA : ∀ q : Nat, s.heap.size ≤ q → A q := fun q h => by rw [← hAe]; exact Or.inr h
  have hS : va_S A s.heap s.heap [] := va_S.rf
  have hl := lv_entry ([.ref h0, .int (a0)]) (n := 2) (Nat.le_of_ble_eq_true rfl)
  rw [lg_entry_eq]
  generalize (lg_sl ([.ref h0, .int (a0)]) ++ List.replicate (2 - (lg_sl ([.ref h0, .int (a0)])).length) Slot.unset).toArray = ls at hl ⊢
  have hl : lv_has ls 2 [(0, .ref h0), (1, .int (a0))] := hl
  have hP : va_P D vwCl [(h0, .inr (6, [.ref xt, .ref xe, .ref xr, .ref xh, .ref xw, .ref xf, .ref xm, .ref xd, .ref xs, .ref xl])), (xh, .inr (1, [.ref xe, .ref b1, .ref b2, .ref b3, .ref b4, .ref b5, .ref b6, .int (0), .int (0), .int (0), .int (0), .int (0)]))] s.heap := hP
  refine lv_iload_n hx hb dX7_wrote_0 rfl (lv_at hl 1 rfl) ?_
  refine lv_aload_n hx hb dX7_wrote_1 rfl (lv_at hl 0 rfl) ?_
  refine va_get (D := D) (ci := 6) (v := .ref xh) (C := RX7) (T := TX7) (N := 10) hx hb hts (fun w h => List.mem_cons_of_mem _ (List.mem_append_left _ (List.mem_append_left _ (List.mem_append_right _ h)))) hown hE.1 hP 0 rfl rfl 3 (by decide) (hts (.fieldLink RX7 37 "WornLines" "hand" "LWornLines$Machine;") (by decide +kernel)) (fun _ h9 => h9) rfl dX7_wrote_2 ?_
  refine va_get (D := D) (ci := 1) (v := .int (0)) (C := RX1) (T := TX1) (N := 12) hx hb hts (fun w h => List.mem_cons_of_mem _ (List.mem_append_left _ (List.mem_append_right _ h))) hown hE.1 hP 1 rfl rfl 11 (by decide) (hts (.fieldLink RX7 161 "WornLines$Machine" "written" "I") (by decide +kernel)) (fun _ h9 => h9) rfl dX7_wrote_5 ?_
  refine lv_sipush (v := 200) hx hb dX7_wrote_8 (by decide) ?_
  refine va_mmin hx hb (by rw [hml]; exact hl.1.symm) hown (hts (.methodLink RX7 147 Lib.Math.min.name) (by decide +kernel)) (hts (.static Lib.Math.min.name) (by decide +kernel)) (hts (.initialized "java/lang/Math") (by decide +kernel)) (hts (.code Lib.Math.min.name Lib.Math.min.code 2 (some .int)) (by decide +kernel)) (Nat.le_of_ble_eq_true rfl) (Nat.le_of_ble_eq_true rfl) (Nat.le_of_ble_eq_true rfl) (Nat.le_of_ble_eq_true rfl) dX7_wrote_11 ?_
  refine lv_topi (fun x_1 ex_1 => ?_)
  refine W.eq (g2 := F0 m 14 ls (.int (0) :: .int (a0) :: [])) (by rw [ex_1]; rfl) ?_
  refine kc_i (wc := []) (wr := [(h0, .inr (6, [.ref xt, .ref xe, .ref xr, .ref xh, .ref xw, .ref xf, .ref xm, .ref xd, .ref xs, .ref xl])), (xh, .inr (1, [.ref xe, .ref b1, .ref b2, .ref b3, .ref b4, .ref b5, .ref b6, .int (0), .int (0), .int (0), .int (0), .int (0)]))]) hP hD hS hA [] [0, 1] rfl rfl (by decide) (by decide) (va_runS (As := [.int (a0), .int (0)]) (rest := []) ⟨hx, hb, hml, hown, hts⟩ (c_X7_within0 l D ak ad _ (a0) ) (va_cwS 2 hts xg_wrote rfl rfl rfl (by decide +kernel) ⟨Nat.le_of_ble_eq_true rfl, Nat.le_of_ble_eq_true rfl⟩) (kc_pre (As := [.int (a0), .int (0)]) (wc := []) hE hT hP hD hS hA [] (by decide) rfl rfl) rfl rfl hl.1 rfl (lv_room (Nat.le_of_ble_eq_true rfl)) dX7_wrote_14 ⟨Nat.le_of_ble_eq_true rfl, Nat.le_of_ble_eq_true rfl⟩) (fun r_3 u_1 H locs hw_3 hP hD hS => ?_)
  have hP : va_P D vwCl [(h0, .inr (6, [.ref xt, .ref xe, .ref xr, .ref xh, .ref xw, .ref xf, .ref xm, .ref xd, .ref xs, .ref xl])), (xh, .inr (1, [.ref xe, .ref b1, .ref b2, .ref b3, .ref b4, .ref b5, .ref b6, .int (0), .int (0), .int (0), .int (0), .int (0)]))] H := hP
  have hD : va_D A [(h0, .inr (6, [.ref xt, .ref xe, .ref xr, .ref xh, .ref xw, .ref xf, .ref xm, .ref xd, .ref xs, .ref xl])), (xh, .inr (1, [.ref xe, .ref b1, .ref b2, .ref b3, .ref b4, .ref b5, .ref b6, .int (0), .int (0), .int (0), .int (0), .int (0)]))] := hD
  subst hw_3
  refine lv_if_ne (tgt := 30) hx hb dX7_wrote_17 (by decide) (fun c_17 => ?_) (fun c_17 => ?_)
  · exact absurd c_17 (by decide)
  · obtain ⟨sa, hstr⟩ := hXE.2.2.2.1
    exact xn_throw (text := "not written, or not kept") (is := 173) hx hb hl0 hown (hts (.classLink RX7 164 kNSE) (by decide +kernel)) (hts (.initialized kNSE) (by decide +kernel)) hstr (vx_hat (fun w h => hts w (List.mem_cons_of_mem _ (List.mem_append_right _ h))) x_ng (fun w h => x_b hXE w h)) x_ot hXE.1 hXE.2.1 hS (by rw [hml]; exact hl.1) dX7_wrote_20 dX7_wrote_23 dX7_wrote_24 dX7_wrote_26 dX7_wrote_29 (fun x h => (htab x h).elim) (Nat.le_of_ble_eq_true rfl) (Nat.le_of_ble_eq_true rfl) (Nat.le_of_ble_eq_true rfl) (Nat.le_of_ble_eq_true rfl) hlocks (fun t _ h1 h2 => ⟨(), trivial, rfl, Nat.le_trans hS.1 h1, fun q hq hq2 => (h2 q (Nat.lt_of_lt_of_le hq hS.1)).trans (hS.2.1 q hq (by rw [← hAe]; exact hq2))⟩) hS.2.2 (Nat.le_refl _) (Nat.le_refl _)

set_option maxHeartbeats 4000000 in
set_option maxRecDepth 100000 in
theorem c_L_cell (l : Launch) (hl0 : l.stackTraces = false) (D : va_G) (ak : Nat → ClassId) (ad : Nat → Nat) (sz : Nat) (h0 : Nat) (xt : Nat) (xe : Nat) (xr : Nat) (xh : Nat) (xw : Nat) (xf : Nat) (xm : Nat) (xd : Nat) (xs : Nat) (xl : Nat) (b1 : Nat) (b2 : Nat) (b3 : Nat) (b4 : Nat) (b5 : Nat) (b6 : Nat) (o0 : Nat) (a0 : Int32) : Met l yL_cell xwL_cell ({ frames := 7, cells := 1, slots := 6, locals := 111 }) (cPreX D ak ad [.ref h0, .int (a0), .ref o0] ([(h0, .inr (6, [.ref xt, .ref xe, .ref xr, .ref xh, .ref xw, .ref xf, .ref xm, .ref xd, .ref xs, .ref xl])), (xh, .inr (1, [.ref xe, .ref b1, .ref b2, .ref b3, .ref b4, .ref b5, .ref b6, .int (0), .int (0), .int (0), .int (0), .int (0)]))]) sz) (cI D (S := Unit) (fun (r : Int32) (u : Unit) => r = 1) (fun u => []) ([(h0, .inr (6, [.ref xt, .ref xe, .ref xr, .ref xh, .ref xw, .ref xf, .ref xm, .ref xd, .ref xs, .ref xl])), (xh, .inr (1, [.ref xe, .ref b1, .ref b2, .ref b3, .ref b4, .ref b5, .ref b6, .int (0), .int (0), .int (0), .int (0), .int (0)]))]) sz) 1 6 (va_A ([(h0, .inr (6, [.ref xt, .ref xe, .ref xr, .ref xh, .ref xw, .ref xf, .ref xm, .ref xd, .ref xs, .ref xl])), (xh, .inr (1, [.ref xe, .ref b1, .ref b2, .ref b3, .ref b4, .ref b5, .ref b6, .int (0), .int (0), .int (0), .int (0), .int (0)]))]) sz) := by
  refine va_MetW (cc := cL_cell) (maxL := 4) (ret := (some .int)) (hh := [(0, 9, 12, 13)]) (by decide) rfl ?_
  intro p e s m args below meth c s₁ B hml hv
  obtain ⟨⟨rfl, hsz, hP, hE, hD0, hT⟩, hXE⟩ := hv
  have hx := B.exec
  have hb := B.bytes
  have hr := B.returns
  have hts := atoms_spec (ws := xwL_cell) B.pre
  have hown : s.vm.findClass RL = some m.cls := findClass_of_methodNamed B.named
  have hlocks := B.notSynchronized
  subst hsz
  have hD := hD0.self (sz := s.heap.size)
  generalize hAe : va_A ([(h0, .inr (6, [.ref xt, .ref xe, .ref xr, .ref xh, .ref xw, .ref xf, .ref xm, .ref xd, .ref xs, .ref xl])), (xh, .inr (1, [.ref xe, .ref b1, .ref b2, .ref b3, .ref b4, .ref b5, .ref b6, .int (0), .int (0), .int (0), .int (0), .int (0)]))]) s.heap.size = A at hD hT hXE ⊢
  have hA : ∀ q : Nat, s.heap.size ≤ q → A q := fun q h => by rw [← hAe]; exact Or.inr h
  have hS : va_S A s.heap s.heap [] := va_S.rf
  have htab := vx_table (x := yL_cell) B (hts (.codeWith yL_cell cL_cell 4 (some .int) [(0, 9, 12, 13)]) List.mem_cons_self)
  have hl := lv_entry ([.ref h0, .int (a0), .ref o0]) (n := 4) (Nat.le_of_ble_eq_true rfl)
  rw [lg_entry_eq]
  generalize (lg_sl ([.ref h0, .int (a0), .ref o0]) ++ List.replicate (4 - (lg_sl ([.ref h0, .int (a0), .ref o0])).length) Slot.unset).toArray = ls at hl ⊢
  have hl : lv_has ls 4 [(0, .ref h0), (1, .int (a0)), (2, .ref o0)] := hl
  refine lv_aload_n hx hb dL_cell_0 rfl (lv_at hl 2 rfl) ?_
  refine lv_iconst (v := 0) hx hb dL_cell_1 (by decide) ?_
  refine lv_aload_n hx hb dL_cell_2 rfl (lv_at hl 0 rfl) ?_
  refine lv_iload_n hx hb dL_cell_3 rfl (lv_at hl 1 rfl) ?_
  have hF := va_free (wc := [(h0, .inr (6, [.ref xt, .ref xe, .ref xr, .ref xh, .ref xw, .ref xf, .ref xm, .ref xd, .ref xs, .ref xl])), (xh, .inr (1, [.ref xe, .ref b1, .ref b2, .ref b3, .ref b4, .ref b5, .ref b6, .int (0), .int (0), .int (0), .int (0), .int (0)]))]) hD hS hA [0, 1] rfl
  refine vx_calli (vx_runV (As := [.int (a0)]) (rest := [.int 0, .ref o0]) ⟨hx, hb, hml, hown, hts⟩ (c_X7_cell l hl0 D ak ad _ h0 xt xe xr xh xw xf xm xd xs xl b1 b2 b3 b4 b5 b6 a0) (cwV 1 hts xg_cellL rfl rfl rfl (by decide +kernel) ⟨Nat.le_of_ble_eq_true rfl, Nat.le_of_ble_eq_true rfl⟩) (kc_preVX (As := [.int (a0)]) (wc := [(h0, .inr (6, [.ref xt, .ref xe, .ref xr, .ref xh, .ref xw, .ref xf, .ref xm, .ref xd, .ref xs, .ref xl])), (xh, .inr (1, [.ref xe, .ref b1, .ref b2, .ref b3, .ref b4, .ref b5, .ref b6, .int (0), .int (0), .int (0), .int (0), .int (0)]))]) hXE hE hT hP hD hS hA [0, 1] (by decide) rfl rfl 0 6 rfl rfl rfl) rfl rfl hl.1 rfl (lv_room (Nat.le_of_ble_eq_true rfl)) dL_cell_4 ⟨Nat.le_of_ble_eq_true rfl, Nat.le_of_ble_eq_true rfl⟩) hS (fun q _ h => hF q h) hF (fun q _ h => hF q h) (fun E ce q9 u t H1 locs1 ht hvm hpx hBX hz hk hS1 hce hcv hcl => ?_) (fun r u t H1 locs1 ht hvm hw hB hz hk hS1 => hw.elim)
  subst hBX
  refine vx_catch (name := kNSE) hown [] ⟨0, 9, 12, 13⟩ [] (by rw [htab]; rfl) (fun z h => nomatch h) (by decide) (by decide) (hts (.classLink RL 13 kNSE) (by decide +kernel)) (va_Nw.use rfl hXE.2.2.2.2.1) hce hcv hcl ?_
  refine lv_astore_n (lv' := [(3, .ref q9), (0, .ref h0), (1, .int (a0)), (2, .ref o0)]) hx hb dL_cell_12 rfl hl (by decide) rfl (fun ls hl => ?_)
  refine lv_iconst (v := 1) hx hb dL_cell_13 (by decide) ?_
  refine W.widen (k := 1) (n := 6) (Nat.le_of_ble_eq_true rfl) (Nat.le_of_ble_eq_true rfl) ?_
  have hP9 : va_P D vwCl [] H1 := fun k q h => by simp at h
  have hD9 : va_D A [] := ⟨fun i j p q h => by simp at h, fun k q h => by simp at h⟩
  exact W.iret (v := 1) hx hb hr (fun t ht hW => ⟨⟨1, (()), rfl, rfl, by rw [ht]; exact hP9, by rw [hAe]; exact hD9⟩, by rw [hAe]; exact hS1.F ht⟩) hS1.2.2 dL_cell_14

set_option maxHeartbeats 4000000 in
set_option maxRecDepth 100000 in
theorem c_L_wrote (l : Launch) (hl0 : l.stackTraces = false) (D : va_G) (ak : Nat → ClassId) (ad : Nat → Nat) (sz : Nat) (h0 : Nat) (xt : Nat) (xe : Nat) (xr : Nat) (xh : Nat) (xw : Nat) (xf : Nat) (xm : Nat) (xd : Nat) (xs : Nat) (xl : Nat) (b1 : Nat) (b2 : Nat) (b3 : Nat) (b4 : Nat) (b5 : Nat) (b6 : Nat) (o0 : Nat) (a0 : Int32) : Met l yL_wrote xwL_wrote ({ frames := 7, cells := 1, slots := 6, locals := 111 }) (cPreX D ak ad [.ref h0, .int (a0), .ref o0] ([(h0, .inr (6, [.ref xt, .ref xe, .ref xr, .ref xh, .ref xw, .ref xf, .ref xm, .ref xd, .ref xs, .ref xl])), (xh, .inr (1, [.ref xe, .ref b1, .ref b2, .ref b3, .ref b4, .ref b5, .ref b6, .int (0), .int (0), .int (0), .int (0), .int (0)]))]) sz) (cI D (S := Unit) (fun (r : Int32) (u : Unit) => r = 1) (fun u => []) ([(h0, .inr (6, [.ref xt, .ref xe, .ref xr, .ref xh, .ref xw, .ref xf, .ref xm, .ref xd, .ref xs, .ref xl])), (xh, .inr (1, [.ref xe, .ref b1, .ref b2, .ref b3, .ref b4, .ref b5, .ref b6, .int (0), .int (0), .int (0), .int (0), .int (0)]))]) sz) 1 6 (va_A ([(h0, .inr (6, [.ref xt, .ref xe, .ref xr, .ref xh, .ref xw, .ref xf, .ref xm, .ref xd, .ref xs, .ref xl])), (xh, .inr (1, [.ref xe, .ref b1, .ref b2, .ref b3, .ref b4, .ref b5, .ref b6, .int (0), .int (0), .int (0), .int (0), .int (0)]))]) sz) := by
  refine va_MetW (cc := cL_wrote) (maxL := 4) (ret := (some .int)) (hh := [(0, 9, 12, 13)]) (by decide) rfl ?_
  intro p e s m args below meth c s₁ B hml hv
  obtain ⟨⟨rfl, hsz, hP, hE, hD0, hT⟩, hXE⟩ := hv
  have hx := B.exec
  have hb := B.bytes
  have hr := B.returns
  have hts := atoms_spec (ws := xwL_wrote) B.pre
  have hown : s.vm.findClass RL = some m.cls := findClass_of_methodNamed B.named
  have hlocks := B.notSynchronized
  subst hsz
  have hD := hD0.self (sz := s.heap.size)
  generalize hAe : va_A ([(h0, .inr (6, [.ref xt, .ref xe, .ref xr, .ref xh, .ref xw, .ref xf, .ref xm, .ref xd, .ref xs, .ref xl])), (xh, .inr (1, [.ref xe, .ref b1, .ref b2, .ref b3, .ref b4, .ref b5, .ref b6, .int (0), .int (0), .int (0), .int (0), .int (0)]))]) s.heap.size = A at hD hT hXE ⊢
  have hA : ∀ q : Nat, s.heap.size ≤ q → A q := fun q h => by rw [← hAe]; exact Or.inr h
  have hS : va_S A s.heap s.heap [] := va_S.rf
  have htab := vx_table (x := yL_wrote) B (hts (.codeWith yL_wrote cL_wrote 4 (some .int) [(0, 9, 12, 13)]) List.mem_cons_self)
  have hl := lv_entry ([.ref h0, .int (a0), .ref o0]) (n := 4) (Nat.le_of_ble_eq_true rfl)
  rw [lg_entry_eq]
  generalize (lg_sl ([.ref h0, .int (a0), .ref o0]) ++ List.replicate (4 - (lg_sl ([.ref h0, .int (a0), .ref o0])).length) Slot.unset).toArray = ls at hl ⊢
  have hl : lv_has ls 4 [(0, .ref h0), (1, .int (a0)), (2, .ref o0)] := hl
  refine lv_aload_n hx hb dL_wrote_0 rfl (lv_at hl 2 rfl) ?_
  refine lv_iconst (v := 0) hx hb dL_wrote_1 (by decide) ?_
  refine lv_aload_n hx hb dL_wrote_2 rfl (lv_at hl 0 rfl) ?_
  refine lv_iload_n hx hb dL_wrote_3 rfl (lv_at hl 1 rfl) ?_
  have hF := va_free (wc := [(h0, .inr (6, [.ref xt, .ref xe, .ref xr, .ref xh, .ref xw, .ref xf, .ref xm, .ref xd, .ref xs, .ref xl])), (xh, .inr (1, [.ref xe, .ref b1, .ref b2, .ref b3, .ref b4, .ref b5, .ref b6, .int (0), .int (0), .int (0), .int (0), .int (0)]))]) hD hS hA [0, 1] rfl
  refine vx_calli (vx_runV (As := [.int (a0)]) (rest := [.int 0, .ref o0]) ⟨hx, hb, hml, hown, hts⟩ (c_X7_wrote l hl0 D ak ad _ h0 xt xe xr xh xw xf xm xd xs xl b1 b2 b3 b4 b5 b6 a0) (cwV 1 hts xg_wroteL rfl rfl rfl (by decide +kernel) ⟨Nat.le_of_ble_eq_true rfl, Nat.le_of_ble_eq_true rfl⟩) (kc_preVX (As := [.int (a0)]) (wc := [(h0, .inr (6, [.ref xt, .ref xe, .ref xr, .ref xh, .ref xw, .ref xf, .ref xm, .ref xd, .ref xs, .ref xl])), (xh, .inr (1, [.ref xe, .ref b1, .ref b2, .ref b3, .ref b4, .ref b5, .ref b6, .int (0), .int (0), .int (0), .int (0), .int (0)]))]) hXE hE hT hP hD hS hA [0, 1] (by decide) rfl rfl 0 6 rfl rfl rfl) rfl rfl hl.1 rfl (lv_room (Nat.le_of_ble_eq_true rfl)) dL_wrote_4 ⟨Nat.le_of_ble_eq_true rfl, Nat.le_of_ble_eq_true rfl⟩) hS (fun q _ h => hF q h) hF (fun q _ h => hF q h) (fun E ce q9 u t H1 locs1 ht hvm hpx hBX hz hk hS1 hce hcv hcl => ?_) (fun r u t H1 locs1 ht hvm hw hB hz hk hS1 => hw.elim)
  subst hBX
  refine vx_catch (name := kNSE) hown [] ⟨0, 9, 12, 13⟩ [] (by rw [htab]; rfl) (fun z h => nomatch h) (by decide) (by decide) (hts (.classLink RL 13 kNSE) (by decide +kernel)) (va_Nw.use rfl hXE.2.2.2.2.1) hce hcv hcl ?_
  refine lv_astore_n (lv' := [(3, .ref q9), (0, .ref h0), (1, .int (a0)), (2, .ref o0)]) hx hb dL_wrote_12 rfl hl (by decide) rfl (fun ls hl => ?_)
  refine lv_iconst (v := 1) hx hb dL_wrote_13 (by decide) ?_
  refine W.widen (k := 1) (n := 6) (Nat.le_of_ble_eq_true rfl) (Nat.le_of_ble_eq_true rfl) ?_
  have hP9 : va_P D vwCl [] H1 := fun k q h => by simp at h
  have hD9 : va_D A [] := ⟨fun i j p q h => by simp at h, fun k q h => by simp at h⟩
  exact W.iret (v := 1) hx hb hr (fun t ht hW => ⟨⟨1, (()), rfl, rfl, by rw [ht]; exact hP9, by rw [hAe]; exact hD9⟩, by rw [hAe]; exact hS1.F ht⟩) hS1.2.2 dL_wrote_14
