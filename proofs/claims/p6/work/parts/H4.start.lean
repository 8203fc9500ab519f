theorem dL_law_0 : decode cL_law 0 = .ok (.new 8, 3) := by decide +kernel
theorem dL_law_3 : decode cL_law 3 = .ok (.dup, 1) := by decide +kernel
theorem dL_law_4 : decode cL_law 4 = .ok (.invokespecial 18, 3) := by decide +kernel
theorem dL_law_7 : decode cL_law 7 = .ok (.astore_n 1, 1) := by decide +kernel
theorem dL_law_8 : decode cL_law 8 = .ok (.new 19, 3) := by decide +kernel
theorem dL_law_11 : decode cL_law 11 = .ok (.dup, 1) := by decide +kernel
theorem dL_law_12 : decode cL_law 12 = .ok (.invokespecial 21, 3) := by decide +kernel
theorem dL_law_15 : decode cL_law 15 = .ok (.astore_n 2, 1) := by decide +kernel
theorem dL_law_16 : decode cL_law 16 = .ok (.iconst 1, 1) := by decide +kernel
theorem dL_law_17 : decode cL_law 17 = .ok (.newarray .long, 2) := by decide +kernel
theorem dL_law_19 : decode cL_law 19 = .ok (.astore_n 3, 1) := by decide +kernel
theorem dL_law_20 : decode cL_law 20 = .ok (.iconst 0, 1) := by decide +kernel
theorem dL_law_21 : decode cL_law 21 = .ok (.istore 4, 2) := by decide +kernel
theorem lk_sw {D : va_G} {X : va_W} {q : Nat × va_E} {H : Heap} (h : va_P D vwCl (X ++ [q]) H) : va_P D vwCl ([] ++ ([q] ++ X)) H := va_P.swap (a := []) (b := X) (c := [q]) h
theorem lk_swD {A : Nat → Prop} {X : va_W} {q : Nat × va_E} (h : va_D A (X ++ [q])) : va_D A ([] ++ ([q] ++ X)) := va_D.swap (a := []) (b := X) (c := [q]) h
set_option maxHeartbeats 8000000 in
set_option maxRecDepth 100000 in
theorem whole_start {p : Program} {e : Env} {s : State} {m : MethodId} {below : List Frame} {meth : Method} {c : Code} (l : Launch) (hl0 : l.stackTraces = false) {b L : Nat} {xs : Nat → Int32} (hL : L ≤ 3584) (C0 : lw_At p s m meth c b L xs) : W p l e room_1 s m #[Value.ref b] below meth c s.heap [] 0 0 (lw_Z below #[Value.ref b] s) (entryFrame m ([Value.ref b] : List Value).toArray 7) := by
  obtain ⟨hx, hb, hr, hml, hown, hts, hX, hbl, hlocks, hgv⟩ := id C0
  have hown : s.vm.findClass RL = some m.cls := hown
  obtain ⟨A, hAe⟩ : ∃ A : Nat → Prop, A = fun q => s.heap.size ≤ q := ⟨_, rfl⟩
  have hA : ∀ q : Nat, s.heap.size ≤ q → A q := fun q h => by rw [hAe]; exact h
  have hA0 : ∀ a : Nat, a < s.heap.size → ¬ A a := fun a h => by rw [hAe]; exact Nat.not_le.mpr h
  obtain ⟨D, ak, hE⟩ := st_ev hts
  obtain ⟨ad, hT⟩ := st_tok (D := D) (ak := ak) (A := A) hts hgv hA0
  have hXE : XE A s s.heap := st_xe hts hgv hA0
  have hS : va_S A s.heap s.heap [] := va_S.rf
  have hP : va_P D vwCl [] s.heap := fun k q h => by simp at h
  have hD : va_D A [] := ⟨fun i j p q h => by simp at h, fun k q h => by simp at h⟩
  have hl := lv_entry ([.ref b]) (n := 7) (Nat.le_of_ble_eq_true rfl)
  rw [lg_entry_eq]
  generalize (lg_sl ([.ref b]) ++ List.replicate (7 - (lg_sl ([.ref b])).length) Slot.unset).toArray = ls at hl ⊢
  have hl : lv_has ls 7 [(0, .ref b)] := hl
  refine va_new (ci := 6) (fs := [.null, .null, .null, .null, .null, .null, .null, .null, .null, .null]) (C := RX7) (T := TX7) (N := 10) hx hb hts (fun w h => (gw_X7 w h).1) tyX7 tyX7_ok hown (hts (.classLink RL 8 RX7) (lwAt_mem (i := 1018) rfl)) (hts (.instantiable RX7 10) (lwAt_mem (i := 1019) rfl)) (hts (.initialized RX7) (lwAt_mem (i := 1001) rfl)) hE.1 hP hD hS hA rfl (by decide) (Nat.le_of_ble_eq_true rfl) (Nat.le_of_ble_eq_true rfl) dL_law_0 (fun x0 H hP hD hS => ?_)
  have hP : va_P D vwCl ([] ++ ([(x0, .inr (6, [.null, .null, .null, .null, .null, .null, .null, .null, .null, .null]))] ++ [])) H := hP
  have hD : va_D A ([] ++ ([(x0, .inr (6, [.null, .null, .null, .null, .null, .null, .null, .null, .null, .null]))] ++ [])) := hD
  refine W.widen (k := 1) (n := 10) (Nat.le_of_ble_eq_true rfl) (Nat.le_of_ble_eq_true rfl) ?_
  refine lv_dup hx hb dL_law_3 rfl ?_
  refine lc_v (U := []) (C := [(x0, .inr (6, [.null, .null, .null, .null, .null, .null, .null, .null, .null, .null]))]) (V := []) hP hD hS hA (va_runI (As := []) (rest := [.ref x0]) ⟨hx, hb, hml, hown, hts⟩ (x_init l D ak ad _ x0) (cwI 0 hts hg_X7_init rfl rfl rfl (hts (.initialized RX7) (lwAt_mem (i := 1001) rfl)) (hts (.methodLink RL 18 yX7_init) (lwAt_mem (i := 1020) rfl)) (hts (.instanceMethod yX7_init) (lwAt_mem (i := 1021) rfl)) rfl (by decide +kernel) ⟨Nat.le_of_ble_eq_true rfl, Nat.le_of_ble_eq_true rfl⟩) (lc_pre (U := []) (C := [(x0, .inr (6, [.null, .null, .null, .null, .null, .null, .null, .null, .null, .null]))]) (V := []) (As := [.ref x0]) hE hT hP hD hS hA) rfl rfl hl.1 rfl (lv_room (Nat.le_of_ble_eq_true rfl)) dL_law_4 ⟨Nat.le_of_ble_eq_true rfl, Nat.le_of_ble_eq_true rfl⟩) (fun LX H locs hI hP hD hS => ?_)
  rw [List.append_nil] at hP hD
  have hP : va_P D vwCl LX H := hP
  have hD : va_D A LX := hD
  refine W.widen (k := 100) (n := 10080) (Nat.le_of_ble_eq_true rfl) (Nat.le_of_ble_eq_true rfl) ?_
  refine lv_astore_n (lv' := [(1, .ref x0), (0, .ref b)]) hx hb dL_law_7 rfl hl (by decide) rfl (fun ls hl => ?_)
  refine va_new (ci := 7) (fs := [.int (0), .int (0), .null, .int (0), .int (0), .int (0), .int (0), .long (0), .int (0), .int (0), .null, .null, .null, .null, .null, .null, .null, .null, .null, .null, .null, .null, .null, .null, .null, .null, .null, .null, .null, .int (0), .null, .null, .null, .null, .null, .null, .null, .null, .null, .null, .null, .null, .int (0), .int (0), .int (0), .int (0), .int (0), .null, .null, .int (0), .null, .null, .null, .int (0), .int (0), .int (0), .int (0), .int (0), .null, .null, .null, .null, .null, .null, .null, .null, .null, .null, .int (0)]) (C := RX8) (T := TX8) (N := 69) hx hb hts (fun w h => (gw_X8 w h).1) tyX8 tyX8_ok hown (hts (.classLink RL 19 RX8) (lwAt_mem (i := 4138) rfl)) (hts (.instantiable RX8 69) (lwAt_mem (i := 4139) rfl)) (hts (.initialized RX8) (lwAt_mem (i := 1010) rfl)) hE.1 hP hD hS hA rfl (by decide) (Nat.le_of_ble_eq_true rfl) (Nat.le_of_ble_eq_true rfl) dL_law_8 (fun m0 H hP hD hS => ?_)
  have hP : va_P D vwCl ([] ++ ([(m0, .inr (7, [.int (0), .int (0), .null, .int (0), .int (0), .int (0), .int (0), .long (0), .int (0), .int (0), .null, .null, .null, .null, .null, .null, .null, .null, .null, .null, .null, .null, .null, .null, .null, .null, .null, .null, .null, .int (0), .null, .null, .null, .null, .null, .null, .null, .null, .null, .null, .null, .null, .int (0), .int (0), .int (0), .int (0), .int (0), .null, .null, .int (0), .null, .null, .null, .int (0), .int (0), .int (0), .int (0), .int (0), .null, .null, .null, .null, .null, .null, .null, .null, .null, .null, .int (0)]))] ++ LX)) H := lk_sw hP
  have hD : va_D A ([] ++ ([(m0, .inr (7, [.int (0), .int (0), .null, .int (0), .int (0), .int (0), .int (0), .long (0), .int (0), .int (0), .null, .null, .null, .null, .null, .null, .null, .null, .null, .null, .null, .null, .null, .null, .null, .null, .null, .null, .null, .int (0), .null, .null, .null, .null, .null, .null, .null, .null, .null, .null, .null, .null, .int (0), .int (0), .int (0), .int (0), .int (0), .null, .null, .int (0), .null, .null, .null, .int (0), .int (0), .int (0), .int (0), .int (0), .null, .null, .null, .null, .null, .null, .null, .null, .null, .null, .int (0)]))] ++ LX)) := lk_swD hD
  refine W.widen (k := 101) (n := 10149) (Nat.le_of_ble_eq_true rfl) (Nat.le_of_ble_eq_true rfl) ?_
  refine lv_dup hx hb dL_law_11 rfl ?_
  refine lc_v (U := []) (C := [(m0, .inr (7, [.int (0), .int (0), .null, .int (0), .int (0), .int (0), .int (0), .long (0), .int (0), .int (0), .null, .null, .null, .null, .null, .null, .null, .null, .null, .null, .null, .null, .null, .null, .null, .null, .null, .null, .null, .int (0), .null, .null, .null, .null, .null, .null, .null, .null, .null, .null, .null, .null, .int (0), .int (0), .int (0), .int (0), .int (0), .null, .null, .int (0), .null, .null, .null, .int (0), .int (0), .int (0), .int (0), .int (0), .null, .null, .null, .null, .null, .null, .null, .null, .null, .null, .int (0)]))]) (V := LX) hP hD hS hA (va_runI (As := []) (rest := [.ref m0]) ⟨hx, hb, hml, hown, hts⟩ (m_init l D ak ad _ m0) (cwI 0 hts hg_X8_init rfl rfl rfl (hts (.initialized RX8) (lwAt_mem (i := 1010) rfl)) (hts (.methodLink RL 21 yX8_init) (lwAt_mem (i := 4140) rfl)) (hts (.instanceMethod yX8_init) (lwAt_mem (i := 4141) rfl)) rfl (by decide +kernel) ⟨Nat.le_of_ble_eq_true rfl, Nat.le_of_ble_eq_true rfl⟩) (lc_pre (U := []) (C := [(m0, .inr (7, [.int (0), .int (0), .null, .int (0), .int (0), .int (0), .int (0), .long (0), .int (0), .int (0), .null, .null, .null, .null, .null, .null, .null, .null, .null, .null, .null, .null, .null, .null, .null, .null, .null, .null, .null, .int (0), .null, .null, .null, .null, .null, .null, .null, .null, .null, .null, .null, .null, .int (0), .int (0), .int (0), .int (0), .int (0), .null, .null, .int (0), .null, .null, .null, .int (0), .int (0), .int (0), .int (0), .int (0), .null, .null, .null, .null, .null, .null, .null, .null, .null, .null, .int (0)]))]) (V := LX) (As := [.ref m0]) hE hT hP hD hS hA) rfl rfl hl.1 rfl (lv_room (Nat.le_of_ble_eq_true rfl)) dL_law_12 ⟨Nat.le_of_ble_eq_true rfl, Nat.le_of_ble_eq_true rfl⟩) (fun LM H locs hJ hP hD hS => ?_)
  have hP : va_P D vwCl (LM ++ LX) H := hP
  have hD : va_D A (LM ++ LX) := hD
  refine W.widen (k := 148) (n := 22803) (Nat.le_of_ble_eq_true rfl) (Nat.le_of_ble_eq_true rfl) ?_
  refine lv_astore_n (lv' := [(2, .ref m0), (1, .ref x0), (0, .ref b)]) hx hb dL_law_15 rfl hl (by decide) rfl (fun ls hl => ?_)
  refine lv_iconst (v := 1) hx hb dL_law_16 (by decide) ?_
  refine kn_a (atype := .long) (ty := .long) (a0 := (1, .inr (.inl (fun _ => 0)))) (N' := 1) hx hb (hts (.arrayClass .long) (lwAt_mem (i := 1061) rfl)) hE 1 rfl rfl (fun _ h => h) hP hD hS hA (fun cA => vp_cell_l cA 1 (fun _ => 0)) (by decide) (rfl) (by decide +kernel) (Nat.le_of_ble_eq_true rfl) (Nat.le_of_ble_eq_true rfl) dL_law_17 (fun o0 H hP hD hS => ?_)
  rw [List.append_assoc] at hP hD
  refine W.widen (k := 149) (n := 22804) (Nat.le_of_ble_eq_true rfl) (Nat.le_of_ble_eq_true rfl) ?_
  refine lv_astore_n (lv' := [(3, .ref o0), (2, .ref m0), (1, .ref x0), (0, .ref b)]) hx hb dL_law_19 rfl hl (by decide) rfl (fun ls hl => ?_)
  refine lv_iconst (v := 0) hx hb dL_law_20 (by decide) ?_
  refine lv_istore (lv' := [(4, .int (nI 0)), (3, .ref o0), (2, .ref m0), (1, .ref x0), (0, .ref b)]) hx hb dL_law_21 hl (by decide) rfl (fun ls hl => ?_)
  exact lk_loop l C0 hAe hl0 hE hT hXE hL 512 0 149 22804 (by omega) (Nat.zero_le _) (Nat.le_of_ble_eq_true rfl) (Nat.le_of_ble_eq_true rfl) v0 LX LM (fun _ => 0) H locs ls hI hJ hP hD hS hl
