def XE (A : Nat → Prop) (U : State) (H : Heap) : Prop := vx_Zq Bundle.tN "UNASSIGNED_STACK" Bundle.steD A U H ∧ vx_Zq Bundle.tN "SUPPRESSED_SENTINEL" Bundle.listD A U H ∧ (∃ a, vk_R RX7 166 "no such cell, or nothing is begun" a U) ∧ (∃ a, vk_R RX7 173 "not written, or not kept" a U) ∧ va_Nw (.castable kNSE kNSE) U ∧ ∀ y ∈ kND, va_Nw (.declares (Bundle.initS y)) U
theorem XE.kept {A : Nat → Prop} {U : State} {H H1 : Heap} (h : XE A U H) (hq : ∀ a : Nat, a < H.size → ¬ A a → H1[a]? = H[a]?) : XE A U H1 := ⟨h.1.kept hq, h.2.1.kept hq, h.2.2⟩
theorem XE.narrow {A B : Nat → Prop} {U : State} {H : Heap} (h : XE A U H) (hAB : ∀ q, B q → A q) : XE B U H := ⟨h.1.narrow hAB, h.2.1.narrow hAB, h.2.2⟩
theorem XE.warm {A : Nat → Prop} {s U : State} {H : Heap} (hW : s.WarmedH U.vm) (h : XE A s H) : XE A U H := ⟨h.1.moved hW.alike, h.2.1.moved hW.alike, h.2.2.1.imp (fun _ q => q.warm hW), h.2.2.2.1.imp (fun _ q => q.warm hW), va_Nw.warmC hW h.2.2.2.2.1, fun y hy => va_Nw.warmD hW (h.2.2.2.2.2 y hy)⟩
theorem XE.same {A : Nat → Prop} {s U : State} {H : Heap} (hv : s.vm = U.vm) (h : XE A s H) : XE A U H := ⟨h.1.moved (hv ▸ Vm.Alike.refl s.vm), h.2.1.moved (hv ▸ Vm.Alike.refl s.vm), h.2.2.1.imp (fun _ q => q.same hv.symm), h.2.2.2.1.imp (fun _ q => q.same hv.symm), va_Nw.same rfl hv h.2.2.2.2.1, fun y hy => va_Nw.same rfl hv (h.2.2.2.2.2 y hy)⟩
def cPreX (D : va_G) (ak : Nat → ClassId) (ad : Nat → Nat) (av : List Value) (ws : va_W) (sz : Nat) : Array Value → State → Prop := fun v U => cPre D ak ad av ws sz v U ∧ XE (va_A ws sz) U U.heap
theorem cPreX.blind {D : va_G} {ak : Nat → ClassId} {ad : Nat → Nat} {av : List Value} {ws : va_W} {sz : Nat} : FrameBlind (cPreX D ak ad av ws sz) := fun a U g mk q => ⟨cPre.blind a U g mk q.1, XE.same (s := U) (U := U.calling g mk a) rfl q.2⟩
theorem kc_preX {D : va_G} {ak : Nat → ClassId} {ad : Nat → Nat} {s : State} {H : Heap} {A : Nat → Prop} {ws : va_W} {locs : List Loc} {wc : va_W} {As : List Value} (hXE : XE A s s.heap) (hE : EV D ak s) (hT : ST D ak ad A s s.heap) (hP : va_P D vwCl ws H) (hD : va_D A ws) (hS : va_S A s.heap H locs) (hA : ∀ q, s.heap.size ≤ q → A q) (isC : List Nat) (hn : va_nd isC = true) (hC : isC.map (fun i => ws[i]?) = wc.map some) (hC2 : isC.filterMap (fun i => ws[i]?) = wc) : PreS s H (cPreX D ak ad As wc H.size) As := by
  have h := kc_pre (As := As) hE hT hP hD hS hA isC hn hC hC2
  refine ⟨cPreX.blind, fun U hU hW => ⟨h.2 U hU hW, ?_⟩⟩
  rw [hU]
  exact ((hXE.kept hS.2.1).narrow (va_free hD hS hA isC hC)).warm hW
theorem kc_preVX {D : va_G} {ak : Nat → ClassId} {ad : Nat → Nat} {s : State} {H : Heap} {A : Nat → Prop} {ws : va_W} {locs : List Loc} {wc : va_W} {As : List Value} {C : String} {b : Nat} (hXE : XE A s s.heap) (hE : EV D ak s) (hT : ST D ak ad A s s.heap) (hP : va_P D vwCl ws H) (hD : va_D A ws) (hS : va_S A s.heap H locs) (hA : ∀ q, s.heap.size ≤ q → A q) (isC : List Nat) (hn : va_nd isC = true) (hC : isC.map (fun i => ws[i]?) = wc.map some) (hC2 : isC.filterMap (fun i => ws[i]?) = wc) (q0 ci : Nat) {fs : List Value} {q : vw_C} (hc : vwCl[ci]? = some q) (hq : q.1 = C) (he : ws[q0]? = some (b, .inr (ci, fs))) : PreV s H C b (cPreX D ak ad (.ref b :: As) wc H.size) As := by
  subst hq
  have h := kc_preX (As := .ref b :: As) hXE hE hT hP hD hS hA isC hn hC hC2
  exact ⟨h.1, va_recv hE.1 hP hc he, h.2⟩
theorem x_ng : ∀ w ∈ (xnL.filter vx_no).filter (fun w => !goodWord w), w ∈ Cond.castable kNSE kNSE :: kND.map (fun y => Cond.declares (Bundle.initS y)) := by decide +kernel
theorem x_b {A : Nat → Prop} {s : State} {H : Heap} {args : Array Value} (h : XE A s H) : ∀ w ∈ Cond.castable kNSE kNSE :: kND.map (fun y => Cond.declares (Bundle.initS y)), w.before args s = true := by
  intro w hw
  rcases List.mem_cons.mp hw with e | hw
  · rw [e]
    exact va_Nw.use rfl h.2.2.2.2.1
  · obtain ⟨y, hy, rfl⟩ := List.mem_map.mp hw
    exact va_Nw.use rfl (h.2.2.2.2.2 y hy)
theorem x_ot : ∀ w ∈ Cond.classLink RX7 164 kNSE :: Cond.initialized kNSE :: xnL.filter vx_no, vx_ot w = true := by decide +kernel
section LCX
variable {D : va_G} {ak : Nat → ClassId} {ad : Nat → Nat} {s : State} {H : Heap} {A : Nat → Prop} {U C V : va_W} {locs : List Loc}
theorem lc_preX {As : List Value} (hXE : XE A s s.heap) (hE : EV D ak s) (hT : ST D ak ad A s s.heap) (hP : va_P D vwCl (U ++ (C ++ V)) H) (hD : va_D A (U ++ (C ++ V))) (hS : va_S A s.heap H locs) (hA : ∀ q, s.heap.size ≤ q → A q) : PreS s H (cPreX D ak ad As C H.size) As := by
  have h := lc_pre (As := As) hE hT hP hD hS hA
  refine ⟨cPreX.blind, fun W hU hW => ⟨h.2 W hU hW, ?_⟩⟩
  rw [hU]
  exact ((hXE.kept hS.2.1).narrow (lc_free hD hS hA)).warm hW
theorem lc_preVX {As : List Value} {Cn : String} {b : Nat} (hXE : XE A s s.heap) (hE : EV D ak s) (hT : ST D ak ad A s s.heap) (hP : va_P D vwCl (U ++ (C ++ V)) H) (hD : va_D A (U ++ (C ++ V))) (hS : va_S A s.heap H locs) (hA : ∀ q, s.heap.size ≤ q → A q) (q0 ci : Nat) {fs : List Value} {q : vw_C} (hc : vwCl[ci]? = some q) (hq : q.1 = Cn) (he : C[q0]? = some (b, .inr (ci, fs))) : PreV s H Cn b (cPreX D ak ad (.ref b :: As) C H.size) As := by
  subst hq
  have h := lc_preX (As := .ref b :: As) hXE hE hT hP hD hS hA
  exact ⟨h.1, va_recv hE.1 hP hc (lc_mid q0 _ he), h.2⟩
end LCX
section LC0
variable {p : Program} {l : Launch} {e : Env} {R : Room} {s : State} {m : MethodId} {args : Array Value} {below : List Frame} {meth : Method} {c : Code} {H : Heap} {locs : List Loc} {cells slots : Nat} {Q : State → Prop}
variable {pc : Nat} {ls : Array Slot} {rest st0 : List Value} {a : Array Value} {A : Nat → Prop} {mc ms : Nat} {D : va_G} {ws : va_W}
/-- a call of a method that has no cells: the world stays -/
theorem lc_i0 {S : Type} {post : Int32 → S → Prop} {w : S → va_W} (hP : va_P D vwCl ws H) (hD : va_D A ws) (hS : va_S A s.heap H locs) (hA : ∀ q, s.heap.size ≤ q → A q)
    (hr : va_Run p l e R s m args below meth c H locs cells slots mc ms (F0 m pc ls st0) rest (cI D post w [] H.size a) (va_A [] H.size))
    (kk : ∀ (r : Int32) (u : S) (H1 : Heap) (locs1 : List Loc), post r u → va_P D vwCl ws H1 → va_D A ws → va_S A s.heap H1 locs1 → W p l e R s m args below meth c H1 locs1 (cells + mc) (slots + ms) Q (F0 m (pc + 3) ls (.int r :: rest))) : W p l e R s m args below meth c H locs cells slots Q (F0 m pc ls st0) := by
  have hz0 : ∀ q, va_A [] H.size q → H.size ≤ q := by
    intro q h
    rcases h with ⟨k, e, h⟩ | h
    · simp at h
    · exact h
  have hF : ∀ q, va_A [] H.size q → A q := fun q h => hA q (Nat.le_trans hS.1 (hz0 q h))
  refine va_calli hr hS (fun q _ h => hF q h) hF (fun r u t H1 locs1 ht hvm hw hB hz hk hS1 => ?_)
  exact kk r u H1 locs1 hw (fun k q hq => (hP k q hq).kept (hk q.1 (hP k q hq).lt (fun z => Nat.not_le.mpr (hP k q hq).lt (hz0 _ z)))) hD hS1
end LC0
theorem IX.hand {ak : Nat → ClassId} {ad : Nat → Nat} {h7 : Nat} {v : VW} {L : va_W} (h : IX ak ad h7 v L) : ∃ (xa ma : Nat → Nat) (pg : Nat) (w0 st nx sp : Int32) (u : Nat) (fc fk : Nat → Int32) (k : Nat) (pa : Nat → Nat) (ps pe pi_ pn : Nat), L[0]? = some (h7, .inr (6, wob xa)) ∧ L[10]? = some (xa 3, .inr (1, xob ma pg w0 st nx sp (nI u))) ∧ L[14]? = some (ma 3, .inl (ak 0, 6, .inl fc)) ∧ L[15]? = some (ma 4, .inl (ak 0, 200, .inl fk)) ∧ L[k]? = some (pg, .inr (2, pob pa (nI ps) (nI pe) (nI pi_) (nI pn))) ∧ pe ≤ 6 ∧ u ≤ 1000000 ∧ (st = 0 ↔ v.2.2.1.2.2.2.1 = 0) ∧ pe = nC v.2.2.1.1 ∧ u = v.2.2.1.2.2.2.2.2.2.2.2.length ∧ (¬ v.2.2.1.2.2.2.1 = 0 → AGn (nC v.2.2.1.1) v.2.2.1.2.2.2.2.2.2.2.1 fc) ∧ KE9 200 v.2.2.1.2.2.2.2.2.2.2.2 fk := by
  obtain ⟨xa, ta, ra, ma, wa, ga, sa, la, gq, mk, ka, M, tr, bm, sf, sn, so, lp, lu, lt, lk, lr, PL, GA, rfl, _, _, ⟨hg, _, _, hM, _⟩, _⟩ := h
  obtain ⟨pa, cl, ps, pe, pi_, pn, be, co, to_, gc, le, gr, ac, sq, tg, fr, mi, en, cd, hPK, hQ, hq⟩ := hg
  have h0 := hq _ (List.mem_cons_self)
  obtain ⟨i, hi⟩ := List.getElem?_of_mem h0
  have hO : MO9 v.2.2.1 := hM.2.1
  have hC := hM.2.2.2
  have h4 : v.2.2.1.2.2.2.1 ≤ 4 := hO.2.2.1
  have hl : v.2.2.1.2.2.2.2.2.2.2.2.length ≤ v.2.2.1.2.2.2.2.2.1 := hO.2.2.2.2.2.1
  have hl2 : v.2.2.1.2.2.2.2.2.1 ≤ 1000000 := hO.2.2.2.2.2.2.1
  have he : nI pe = nI (nC v.2.2.1.1) := hQ.2.2.2.2.1
  have h6 : nC v.2.2.1.1 ≤ 6 := hQ.2.1
  have hpe : pe ≤ 6 := hPK.2.1
  refine ⟨xa, ma, (M 0).1, (M 0).2.1 0, (M 0).2.1 1, (M 0).2.1 2, (M 0).2.1 3, v.2.2.1.2.2.2.2.2.2.2.2.length, (M 0).2.2 3, (M 0).2.2 4, 86 + i, pa, ps, pe, pi_, pn, rfl, ?_, rfl, rfl, ?_, hpe, by omega, ?_, (nI_eq (by omega) (by omega)).mp he, rfl, hC.2.2.2.2.2.1, hC.2.2.2.2.2.2⟩
  · rw [← hC.2.2.2.1]
    rfl
  · rw [List.getElem?_append_right (by rw [XL_len]; omega), XL_len, show 86 + i - 86 = i by omega]
    exact hi
  · rw [hC.1]
    exact nI_eq (b := 0) (by omega) (by decide)
/-- what a throw leaves: the whole row as it was -/
abbrev xTL (D : va_G) (L : va_W) (sz : Nat) (P : Prop) : String → State → State → Prop := vx_X (S := Unit) (fun _ => True) (fun E _ t => E = kNSE ∧ P ∧ va_P D vwCl L t.heap ∧ va_D (va_A L sz) L) (va_A L sz)
def xwX7_cell : List Cond := .code yX7_cell cX7_cell 2 (some .int) :: ([.classLink RX7 164 kNSE, .initialized kNSE, .fieldLink RX7 37 "WornLines" "hand" "LWornLines$Machine;", .fieldLink RX7 155 "WornLines$Machine" "state" "I", .fieldLink RX7 89 "WornLines$Machine" "programme" "LWornLines$Programme;", .fieldLink RX7 128 "WornLines$Programme" "cells" "I", .fieldLink RX7 171 "WornLines$Machine" "cells" "[I", .methodLink RX7 95 yX7_within, .static yX7_within, .initialized RX7, .code yX7_within cX7_within 2 (some .boolean)] ++ wsX70 ++ wsX10 ++ wsX20 ++ (xnL.filter vx_no).filter goodWord)
def xwX7_wrote : List Cond := .code yX7_wrote cX7_wrote 2 (some .int) :: ([.classLink RX7 164 kNSE, .initialized kNSE, .fieldLink RX7 37 "WornLines" "hand" "LWornLines$Machine;", .fieldLink RX7 161 "WornLines$Machine" "written" "I", .methodLink RX7 147 Lib.Math.min.name, .static Lib.Math.min.name, .initialized "java/lang/Math", .code Lib.Math.min.name Lib.Math.min.code 2 (some .int), .fieldLink RX7 175 "WornLines$Machine" "kept" "[I", .methodLink RX7 95 yX7_within, .static yX7_within, .initialized RX7, .code yX7_within cX7_within 2 (some .boolean)] ++ wsX70 ++ wsX10 ++ wsX20 ++ (xnL.filter vx_no).filter goodWord)
theorem xg_cell : GoodIn xwX7_cell (va_wsS RX7 95 yX7_within wsX7_within) := goodIn_r _ [8, 9, 10, 11] rfl (by decide +kernel)
theorem xg_wrote : GoodIn xwX7_wrote (va_wsS RX7 95 yX7_within wsX7_within) := goodIn_r _ [10, 11, 12, 13] rfl (by decide +kernel)
theorem dX7_cell_0 : decode cX7_cell 0 = .ok (.aload_n 0, 1) := by decide +kernel
theorem dX7_cell_1 : decode cX7_cell 1 = .ok (.getfield 37, 3) := by decide +kernel
theorem dX7_cell_4 : decode cX7_cell 4 = .ok (.getfield 155, 3) := by decide +kernel
theorem dX7_cell_7 : decode cX7_cell 7 = .ok (.ifCond .eq 20, 3) := by decide +kernel
theorem dX7_cell_27 : decode cX7_cell 27 = .ok (.new 164, 3) := by decide +kernel
theorem dX7_cell_30 : decode cX7_cell 30 = .ok (.dup, 1) := by decide +kernel
theorem dX7_cell_31 : decode cX7_cell 31 = .ok (.ldc 166, 2) := by decide +kernel
theorem dX7_cell_33 : decode cX7_cell 33 = .ok (.invokespecial 168, 3) := by decide +kernel
theorem dX7_cell_36 : decode cX7_cell 36 = .ok (.athrow, 1) := by decide +kernel
theorem dX7_cell_10 : decode cX7_cell 10 = .ok (.iload_n 1, 1) := by decide +kernel
theorem dX7_cell_11 : decode cX7_cell 11 = .ok (.aload_n 0, 1) := by decide +kernel
theorem dX7_cell_12 : decode cX7_cell 12 = .ok (.getfield 37, 3) := by decide +kernel
theorem dX7_cell_15 : decode cX7_cell 15 = .ok (.getfield 89, 3) := by decide +kernel
theorem dX7_cell_18 : decode cX7_cell 18 = .ok (.getfield 128, 3) := by decide +kernel
theorem dX7_cell_21 : decode cX7_cell 21 = .ok (.invokestatic 95, 3) := by decide +kernel
theorem dX7_cell_24 : decode cX7_cell 24 = .ok (.ifCond .ne 13, 3) := by decide +kernel
theorem dX7_cell_37 : decode cX7_cell 37 = .ok (.aload_n 0, 1) := by decide +kernel
theorem dX7_cell_38 : decode cX7_cell 38 = .ok (.getfield 37, 3) := by decide +kernel
theorem dX7_cell_41 : decode cX7_cell 41 = .ok (.getfield 171, 3) := by decide +kernel
theorem dX7_cell_44 : decode cX7_cell 44 = .ok (.iload_n 1, 1) := by decide +kernel
theorem dX7_cell_45 : decode cX7_cell 45 = .ok (.iaload, 1) := by decide +kernel
theorem dX7_cell_46 : decode cX7_cell 46 = .ok (.ireturn, 1) := by decide +kernel
theorem dX7_wrote_0 : decode cX7_wrote 0 = .ok (.iload_n 1, 1) := by decide +kernel
theorem dX7_wrote_1 : decode cX7_wrote 1 = .ok (.aload_n 0, 1) := by decide +kernel
theorem dX7_wrote_2 : decode cX7_wrote 2 = .ok (.getfield 37, 3) := by decide +kernel
theorem dX7_wrote_5 : decode cX7_wrote 5 = .ok (.getfield 161, 3) := by decide +kernel
theorem dX7_wrote_8 : decode cX7_wrote 8 = .ok (.sipush 200, 3) := by decide +kernel
theorem dX7_wrote_11 : decode cX7_wrote 11 = .ok (.invokestatic 147, 3) := by decide +kernel
theorem dX7_wrote_14 : decode cX7_wrote 14 = .ok (.invokestatic 95, 3) := by decide +kernel
theorem dX7_wrote_17 : decode cX7_wrote 17 = .ok (.ifCond .ne 13, 3) := by decide +kernel
theorem dX7_wrote_30 : decode cX7_wrote 30 = .ok (.aload_n 0, 1) := by decide +kernel
theorem dX7_wrote_31 : decode cX7_wrote 31 = .ok (.getfield 37, 3) := by decide +kernel
theorem dX7_wrote_34 : decode cX7_wrote 34 = .ok (.getfield 175, 3) := by decide +kernel
theorem dX7_wrote_37 : decode cX7_wrote 37 = .ok (.iload_n 1, 1) := by decide +kernel
theorem dX7_wrote_38 : decode cX7_wrote 38 = .ok (.iaload, 1) := by decide +kernel
theorem dX7_wrote_39 : decode cX7_wrote 39 = .ok (.ireturn, 1) := by decide +kernel
theorem dX7_wrote_20 : decode cX7_wrote 20 = .ok (.new 164, 3) := by decide +kernel
theorem dX7_wrote_23 : decode cX7_wrote 23 = .ok (.dup, 1) := by decide +kernel
theorem dX7_wrote_24 : decode cX7_wrote 24 = .ok (.ldc 173, 2) := by decide +kernel
theorem dX7_wrote_26 : decode cX7_wrote 26 = .ok (.invokespecial 168, 3) := by decide +kernel
theorem dX7_wrote_29 : decode cX7_wrote 29 = .ok (.athrow, 1) := by decide +kernel
set_option maxHeartbeats 4000000 in
set_option maxRecDepth 100000 in
theorem x_cell (l : Launch) (hl0 : l.stackTraces = false) (D : va_G) (ak : Nat → ClassId) (ad : Nat → Nat) (sz h7 : Nat) (v : VW) (L : va_W) (a0 : Int32) (hI : IX ak ad h7 v L) : vx_Met l yX7_cell xwX7_cell ({ frames := 6, cells := 1, slots := 6, locals := 90 }) (cPreX D ak ad [.ref h7, .int a0] L sz) (cI D (S := va_W) (fun r L1 => L1 = L ∧ f_cell v.2.2.1 a0 = some r) (fun L1 => L1) L sz) (xTL D L sz (f_cell v.2.2.1 a0 = none)) 1 6 (va_A L sz) := by
  obtain ⟨xa, ma, pg, w0, st, nx, sp, u0, fc, fk, k0, pa, ps, pe, pi_, pn, hL0, hL1, hL2, hL3, hL4, hpe, hu0, hst, hpe2, hu2, hfc, hfk⟩ := hI.hand
  refine vx_ofW (cc := cX7_cell) (maxL := 2) (ret := (some .int)) (by decide) rfl ?_
  intro p e s m args below meth c s₁ B hml htab hv
  obtain ⟨⟨rfl, hsz, hP, hE, hD0, hT⟩, hXE⟩ := hv
  have hx := B.exec
  have hb := B.bytes
  have hr := B.returns
  have hts := atoms_spec (ws := xwX7_cell) B.pre
  have hown : s.vm.findClass RX7 = some m.cls := findClass_of_methodNamed B.named
  have hlocks := B.notSynchronized
  subst hsz
  have hD := hD0.self (sz := s.heap.size)
  generalize hAe : va_A L s.heap.size = A at hD hT hXE ⊢
  have hA : ∀ q : Nat, s.heap.size ≤ q → A q := fun q h => by rw [← hAe]; exact Or.inr h
  have hS : va_S A s.heap s.heap [] := va_S.rf
  have hl := lv_entry ([.ref h7, .int (a0)]) (n := 2) (Nat.le_of_ble_eq_true rfl)
  rw [lg_entry_eq]
  generalize (lg_sl ([.ref h7, .int (a0)]) ++ List.replicate (2 - (lg_sl ([.ref h7, .int (a0)])).length) Slot.unset).toArray = ls at hl ⊢
  have hl : lv_has ls 2 [(0, .ref h7), (1, .int (a0))] := hl
  refine lv_aload_n hx hb dX7_cell_0 rfl (lv_at hl 0 rfl) ?_
  refine va_get (D := D) (ci := 6) (v := .ref (xa 3)) (C := RX7) (T := TX7) (N := 10) hx hb hts (fun w h => List.mem_cons_of_mem _ (List.mem_append_left _ (List.mem_append_left _ (List.mem_append_left _ (List.mem_append_right _ h))))) hown hE.1 hP 0 hL0 rfl 3 (by decide) (hts (.fieldLink RX7 37 "WornLines" "hand" "LWornLines$Machine;") (by decide +kernel)) (fun _ h9 => h9) rfl dX7_cell_1 ?_
  refine va_get (D := D) (ci := 1) (v := .int st) (C := RX1) (T := TX1) (N := 12) hx hb hts (fun w h => List.mem_cons_of_mem _ (List.mem_append_left _ (List.mem_append_left _ (List.mem_append_right _ h)))) hown hE.1 hP 10 hL1 rfl 8 (by decide) (hts (.fieldLink RX7 155 "WornLines$Machine" "state" "I") (by decide +kernel)) (fun _ h9 => h9) rfl dX7_cell_4 ?_
  refine lv_if_eq (tgt := 27) hx hb dX7_cell_7 (by decide) (fun c_7 => ?_) (fun c_7 => ?_)
  · have hno : f_cell v.2.2.1 a0 = none := f_cell_n0 (hst.mp c_7)
    obtain ⟨sa, hstr⟩ := hXE.2.2.1
    exact xn_throw (text := "no such cell, or nothing is begun") (is := 166) hx hb hl0 hown (hts (.classLink RX7 164 kNSE) (by decide +kernel)) (hts (.initialized kNSE) (by decide +kernel)) hstr (vx_hat (fun w h => hts w (List.mem_cons_of_mem _ (List.mem_append_right _ h))) x_ng (fun w h => x_b hXE w h)) x_ot hXE.1 hXE.2.1 hS (by rw [hml]; exact hl.1) dX7_cell_27 dX7_cell_30 dX7_cell_31 dX7_cell_33 dX7_cell_36 (fun x h => (htab x h).elim) (Nat.le_of_ble_eq_true rfl) (Nat.le_of_ble_eq_true rfl) (Nat.le_of_ble_eq_true rfl) (Nat.le_of_ble_eq_true rfl) hlocks (fun t _ h1 h2 => ⟨(), trivial, ⟨rfl, hno, fun k q hk => (hP k q hk).kept (h2 q.1 (hP k q hk).lt), by rw [hAe]; exact hD⟩, Nat.le_trans hS.1 h1, fun q hq hq2 => (h2 q (Nat.lt_of_lt_of_le hq hS.1)).trans (hS.2.1 q hq (by rw [← hAe]; exact hq2))⟩) hS.2.2 (Nat.le_refl _) (Nat.le_refl _)
  refine lv_iload_n hx hb dX7_cell_10 rfl (lv_at hl 1 rfl) ?_
  refine lv_aload_n hx hb dX7_cell_11 rfl (lv_at hl 0 rfl) ?_
  refine va_get (D := D) (ci := 6) (v := .ref (xa 3)) (C := RX7) (T := TX7) (N := 10) hx hb hts (fun w h => List.mem_cons_of_mem _ (List.mem_append_left _ (List.mem_append_left _ (List.mem_append_left _ (List.mem_append_right _ h))))) hown hE.1 hP 0 hL0 rfl 3 (by decide) (hts (.fieldLink RX7 37 "WornLines" "hand" "LWornLines$Machine;") (by decide +kernel)) (fun _ h9 => h9) rfl dX7_cell_12 ?_
  refine va_get (D := D) (ci := 1) (v := .ref pg) (C := RX1) (T := TX1) (N := 12) hx hb hts (fun w h => List.mem_cons_of_mem _ (List.mem_append_left _ (List.mem_append_left _ (List.mem_append_right _ h)))) hown hE.1 hP 10 hL1 rfl 0 (by decide) (hts (.fieldLink RX7 89 "WornLines$Machine" "programme" "LWornLines$Programme;") (by decide +kernel)) (fun _ h9 => h9) rfl dX7_cell_15 ?_
  refine va_get (D := D) (ci := 2) (v := .int (nI pe)) (C := RX2) (T := TX2) (N := 17) hx hb hts (fun w h => List.mem_cons_of_mem _ (List.mem_append_left _ (List.mem_append_right _ h))) hown hE.1 hP k0 hL4 rfl 3 (by decide) (hts (.fieldLink RX7 128 "WornLines$Programme" "cells" "I") (by decide +kernel)) (fun _ h9 => h9) rfl dX7_cell_18 ?_
  refine lc_i0 hP hD hS hA (va_runS (As := [.int (a0), .int (nI pe)]) (rest := []) ⟨hx, hb, hml, hown, hts⟩ (c_X7_within l D ak ad _ a0 (nI pe) (fun r => (r = 0 ∧ ixO a0 pe = none) ∨ (r = 1 ∧ ¬ a0 < 0 ∧ ¬ nI pe ≤ a0)) ⟨fun z => Or.inl ⟨rfl, ixO_lt z⟩, fun z => ⟨fun y => Or.inl ⟨rfl, ixO_ge y⟩, fun y => Or.inr ⟨rfl, z, y⟩⟩⟩) (va_cwS 2 hts xg_cell rfl rfl rfl (by decide +kernel) ⟨(Nat.le_of_ble_eq_true rfl), (Nat.le_of_ble_eq_true rfl)⟩) (kc_pre (As := [.int (a0), .int (nI pe)]) (wc := []) hE hT hP hD hS hA [] (by decide) rfl rfl) rfl rfl hl.1 rfl (lv_room (Nat.le_of_ble_eq_true rfl)) dX7_cell_21 ⟨(Nat.le_of_ble_eq_true rfl), (Nat.le_of_ble_eq_true rfl)⟩) (fun r _ H locs hw hP hD hS => ?_)
  refine lv_if_ne (tgt := 37) hx hb dX7_cell_24 (by decide) (fun c_24 => ?_) (fun c_24 => ?_)
  · have h9 := hw.resolve_left (fun h => c_24 h.1)
    have hin : vp_in a0 6 := inO hpe (by decide) h9.2.1 h9.2.2
    have hst0 : ¬ v.2.2.1.2.2.2.1 = 0 := fun h => c_7 (hst.mpr h)
    have hso : f_cell v.2.2.1 a0 = some (fc a0.toNatClampNeg) := by
      obtain ⟨j, hj, ej, e⟩ := ixO_in (n := pe) (by omega) h9.2.1 h9.2.2
      rw [hpe2] at e hj
      rw [f_cell_s hst0 e, ← hfc hst0 j hj, ej, nI_clamp (n := j) (by omega)]
    refine lv_aload_n hx hb dX7_cell_37 rfl (lv_at hl 0 rfl) ?_
    refine va_get (D := D) (ci := 6) (v := .ref (xa 3)) (C := RX7) (T := TX7) (N := 10) hx hb hts (fun w h => List.mem_cons_of_mem _ (List.mem_append_left _ (List.mem_append_left _ (List.mem_append_left _ (List.mem_append_right _ h))))) hown hE.1 hP 0 hL0 rfl 3 (by decide) (hts (.fieldLink RX7 37 "WornLines" "hand" "LWornLines$Machine;") (by decide +kernel)) (fun _ h9 => h9) rfl dX7_cell_38 ?_
    refine va_get (D := D) (ci := 1) (v := .ref (ma 3)) (C := RX1) (T := TX1) (N := 12) hx hb hts (fun w h => List.mem_cons_of_mem _ (List.mem_append_left _ (List.mem_append_left _ (List.mem_append_right _ h)))) hown hE.1 hP 10 hL1 rfl 4 (by decide) (hts (.fieldLink RX7 171 "WornLines$Machine" "cells" "[I") (by decide +kernel)) (fun _ h9 => h9) rfl dX7_cell_41 ?_
    refine lv_iload_n hx hb dX7_cell_44 rfl (lv_at hl 1 rfl) ?_
    refine va_iald hx hb hE.1 hP 14 0 hL2 rfl hin dX7_cell_45 ?_
    refine vx_ret (W.widen (k := 1) (n := 6) (Nat.le_of_ble_eq_true rfl) (Nat.le_of_ble_eq_true rfl) ?_)
    exact W.iret hx hb hr (fun t ht hW => ⟨⟨_, L, rfl, ⟨rfl, hso⟩, by rw [ht]; exact hP, by rw [hAe]; exact hD⟩, by rw [hAe]; exact hS.F ht⟩) hS.2.2 dX7_cell_46
  · have hno : f_cell v.2.2.1 a0 = none := hw.elim (fun h => f_cell_n1 (hpe2 ▸ h.2)) (fun h => absurd (h.1.symm.trans c_24) (by decide))
    obtain ⟨sa, hstr⟩ := hXE.2.2.1
    exact xn_throw (text := "no such cell, or nothing is begun") (is := 166) hx hb hl0 hown (hts (.classLink RX7 164 kNSE) (by decide +kernel)) (hts (.initialized kNSE) (by decide +kernel)) hstr (vx_hat (fun w h => hts w (List.mem_cons_of_mem _ (List.mem_append_right _ h))) x_ng (fun w h => x_b hXE w h)) x_ot hXE.1 hXE.2.1 hS (by rw [hml]; exact hl.1) dX7_cell_27 dX7_cell_30 dX7_cell_31 dX7_cell_33 dX7_cell_36 (fun x h => (htab x h).elim) (Nat.le_of_ble_eq_true rfl) (Nat.le_of_ble_eq_true rfl) (Nat.le_of_ble_eq_true rfl) (Nat.le_of_ble_eq_true rfl) hlocks (fun t _ h1 h2 => ⟨(), trivial, ⟨rfl, hno, fun k q hk => (hP k q hk).kept (h2 q.1 (hP k q hk).lt), by rw [hAe]; exact hD⟩, Nat.le_trans hS.1 h1, fun q hq hq2 => (h2 q (Nat.lt_of_lt_of_le hq hS.1)).trans (hS.2.1 q hq (by rw [← hAe]; exact hq2))⟩) hS.2.2 (Nat.le_refl _) (Nat.le_refl _)
set_option maxHeartbeats 4000000 in
set_option maxRecDepth 100000 in
theorem x_wrote (l : Launch) (hl0 : l.stackTraces = false) (D : va_G) (ak : Nat → ClassId) (ad : Nat → Nat) (sz h7 : Nat) (v : VW) (L : va_W) (a0 : Int32) (hI : IX ak ad h7 v L) : vx_Met l yX7_wrote xwX7_wrote ({ frames := 6, cells := 1, slots := 6, locals := 90 }) (cPreX D ak ad [.ref h7, .int a0] L sz) (cI D (S := va_W) (fun r L1 => L1 = L ∧ f_wrote v.2.2.1 a0 = some r) (fun L1 => L1) L sz) (xTL D L sz (f_wrote v.2.2.1 a0 = none)) 1 6 (va_A L sz) := by
  obtain ⟨xa, ma, pg, w0, st, nx, sp, u0, fc, fk, k0, pa, ps, pe, pi_, pn, hL0, hL1, hL2, hL3, hL4, hpe, hu0, hst, hpe2, hu2, hfc, hfk⟩ := hI.hand
  refine vx_ofW (cc := cX7_wrote) (maxL := 2) (ret := (some .int)) (by decide) rfl ?_
  intro p e s m args below meth c s₁ B hml htab hv
  obtain ⟨⟨rfl, hsz, hP, hE, hD0, hT⟩, hXE⟩ := hv
  have hx := B.exec
  have hb := B.bytes
  have hr := B.returns
  have hts := atoms_spec (ws := xwX7_wrote) B.pre
  have hown : s.vm.findClass RX7 = some m.cls := findClass_of_methodNamed B.named
  have hlocks := B.notSynchronized
  subst hsz
  have hD := hD0.self (sz := s.heap.size)
  generalize hAe : va_A L s.heap.size = A at hD hT hXE ⊢
  have hA : ∀ q : Nat, s.heap.size ≤ q → A q := fun q h => by rw [← hAe]; exact Or.inr h
  have hS : va_S A s.heap s.heap [] := va_S.rf
  have hl := lv_entry ([.ref h7, .int (a0)]) (n := 2) (Nat.le_of_ble_eq_true rfl)
  rw [lg_entry_eq]
  generalize (lg_sl ([.ref h7, .int (a0)]) ++ List.replicate (2 - (lg_sl ([.ref h7, .int (a0)])).length) Slot.unset).toArray = ls at hl ⊢
  have hl : lv_has ls 2 [(0, .ref h7), (1, .int (a0))] := hl
  refine lv_iload_n hx hb dX7_wrote_0 rfl (lv_at hl 1 rfl) ?_
  refine lv_aload_n hx hb dX7_wrote_1 rfl (lv_at hl 0 rfl) ?_
  refine va_get (D := D) (ci := 6) (v := .ref (xa 3)) (C := RX7) (T := TX7) (N := 10) hx hb hts (fun w h => List.mem_cons_of_mem _ (List.mem_append_left _ (List.mem_append_left _ (List.mem_append_left _ (List.mem_append_right _ h))))) hown hE.1 hP 0 hL0 rfl 3 (by decide) (hts (.fieldLink RX7 37 "WornLines" "hand" "LWornLines$Machine;") (by decide +kernel)) (fun _ h9 => h9) rfl dX7_wrote_2 ?_
  refine va_get (D := D) (ci := 1) (v := .int (nI u0)) (C := RX1) (T := TX1) (N := 12) hx hb hts (fun w h => List.mem_cons_of_mem _ (List.mem_append_left _ (List.mem_append_left _ (List.mem_append_right _ h)))) hown hE.1 hP 10 hL1 rfl 11 (by decide) (hts (.fieldLink RX7 161 "WornLines$Machine" "written" "I") (by decide +kernel)) (fun _ h9 => h9) rfl dX7_wrote_5 ?_
  refine lv_sipush (v := 200) hx hb dX7_wrote_8 (by decide) ?_
  refine va_mmin hx hb (by rw [hml]; exact hl.1.symm) hown (hts (.methodLink RX7 147 Lib.Math.min.name) (by decide +kernel)) (hts (.static Lib.Math.min.name) (by decide +kernel)) (hts (.initialized "java/lang/Math") (by decide +kernel)) (hts (.code Lib.Math.min.name Lib.Math.min.code 2 (some .int)) (by decide +kernel)) (Nat.le_of_ble_eq_true rfl) (Nat.le_of_ble_eq_true rfl) (Nat.le_of_ble_eq_true rfl) (Nat.le_of_ble_eq_true rfl) dX7_wrote_11 ?_
  refine lv_topi (fun x_1 ex_1 => ?_)
  have hv1 : x_1 = nI (min 200 u0) := by
    rw [ex_1]
    exact if_min (a := 200) (b := u0) (by decide) (by omega)
  subst hv1
  have hv2 : min 200 u0 ≤ 200 := Nat.min_le_left _ _
  have hv3 : min 200 u0 = min v.2.2.1.2.2.2.2.2.2.2.2.length 200 := by rw [hu2]; exact Nat.min_comm _ _
  refine lc_i0 hP hD hS hA (va_runS (As := [.int (a0), .int (nI (min 200 u0))]) (rest := []) ⟨hx, hb, hml, hown, hts⟩ (c_X7_within l D ak ad _ a0 (nI (min 200 u0)) (fun r => (r = 0 ∧ ixO a0 (min 200 u0) = none) ∨ (r = 1 ∧ ¬ a0 < 0 ∧ ¬ nI (min 200 u0) ≤ a0)) ⟨fun z => Or.inl ⟨rfl, ixO_lt z⟩, fun z => ⟨fun y => Or.inl ⟨rfl, ixO_ge y⟩, fun y => Or.inr ⟨rfl, z, y⟩⟩⟩) (va_cwS 2 hts xg_wrote rfl rfl rfl (by decide +kernel) ⟨(Nat.le_of_ble_eq_true rfl), (Nat.le_of_ble_eq_true rfl)⟩) (kc_pre (As := [.int (a0), .int (nI (min 200 u0))]) (wc := []) hE hT hP hD hS hA [] (by decide) rfl rfl) rfl rfl hl.1 rfl (lv_room (Nat.le_of_ble_eq_true rfl)) dX7_wrote_14 ⟨(Nat.le_of_ble_eq_true rfl), (Nat.le_of_ble_eq_true rfl)⟩) (fun r _ H locs hw hP hD hS => ?_)
  refine lv_if_ne (tgt := 30) hx hb dX7_wrote_17 (by decide) (fun c_17 => ?_) (fun c_17 => ?_)
  · have h9 := hw.resolve_left (fun h => c_17 h.1)
    have hin : vp_in a0 200 := inO hv2 (by decide) h9.2.1 h9.2.2
    have hso : f_wrote v.2.2.1 a0 = some (fk a0.toNatClampNeg) := by
      obtain ⟨j, hj, ej, e⟩ := ixO_in (n := min 200 u0) (by omega) h9.2.1 h9.2.2
      rw [hv3] at e hj
      rw [f_wrote_s e hj hfk, ej, nI_clamp (n := j) (by omega)]
    refine lv_aload_n hx hb dX7_wrote_30 rfl (lv_at hl 0 rfl) ?_
    refine va_get (D := D) (ci := 6) (v := .ref (xa 3)) (C := RX7) (T := TX7) (N := 10) hx hb hts (fun w h => List.mem_cons_of_mem _ (List.mem_append_left _ (List.mem_append_left _ (List.mem_append_left _ (List.mem_append_right _ h))))) hown hE.1 hP 0 hL0 rfl 3 (by decide) (hts (.fieldLink RX7 37 "WornLines" "hand" "LWornLines$Machine;") (by decide +kernel)) (fun _ h9 => h9) rfl dX7_wrote_31 ?_
    refine va_get (D := D) (ci := 1) (v := .ref (ma 4)) (C := RX1) (T := TX1) (N := 12) hx hb hts (fun w h => List.mem_cons_of_mem _ (List.mem_append_left _ (List.mem_append_left _ (List.mem_append_right _ h)))) hown hE.1 hP 10 hL1 rfl 5 (by decide) (hts (.fieldLink RX7 175 "WornLines$Machine" "kept" "[I") (by decide +kernel)) (fun _ h9 => h9) rfl dX7_wrote_34 ?_
    refine lv_iload_n hx hb dX7_wrote_37 rfl (lv_at hl 1 rfl) ?_
    refine va_iald hx hb hE.1 hP 15 0 hL3 rfl hin dX7_wrote_38 ?_
    refine vx_ret (W.widen (k := 1) (n := 6) (Nat.le_of_ble_eq_true rfl) (Nat.le_of_ble_eq_true rfl) ?_)
    exact W.iret hx hb hr (fun t ht hW => ⟨⟨_, L, rfl, ⟨rfl, hso⟩, by rw [ht]; exact hP, by rw [hAe]; exact hD⟩, by rw [hAe]; exact hS.F ht⟩) hS.2.2 dX7_wrote_39
  · have hno : f_wrote v.2.2.1 a0 = none := hw.elim (fun h => f_wrote_n (hv3 ▸ h.2)) (fun h => absurd (h.1.symm.trans c_17) (by decide))
    obtain ⟨sa, hstr⟩ := hXE.2.2.2.1
    exact xn_throw (text := "not written, or not kept") (is := 173) hx hb hl0 hown (hts (.classLink RX7 164 kNSE) (by decide +kernel)) (hts (.initialized kNSE) (by decide +kernel)) hstr (vx_hat (fun w h => hts w (List.mem_cons_of_mem _ (List.mem_append_right _ h))) x_ng (fun w h => x_b hXE w h)) x_ot hXE.1 hXE.2.1 hS (by rw [hml]; exact hl.1) dX7_wrote_20 dX7_wrote_23 dX7_wrote_24 dX7_wrote_26 dX7_wrote_29 (fun x h => (htab x h).elim) (Nat.le_of_ble_eq_true rfl) (Nat.le_of_ble_eq_true rfl) (Nat.le_of_ble_eq_true rfl) (Nat.le_of_ble_eq_true rfl) hlocks (fun t _ h1 h2 => ⟨(), trivial, ⟨rfl, hno, fun k q hk => (hP k q hk).kept (h2 q.1 (hP k q hk).lt), by rw [hAe]; exact hD⟩, Nat.le_trans hS.1 h1, fun q hq hq2 => (h2 q (Nat.lt_of_lt_of_le hq hS.1)).trans (hS.2.1 q hq (by rw [← hAe]; exact hq2))⟩) hS.2.2 (Nat.le_refl _) (Nat.le_refl _)
