theorem dX1_lineOf_0 : decode cX1_lineOf 0 = .ok (.aload_n 0, 1) := by decide +kernel
theorem dX1_lineOf_1 : decode cX1_lineOf 1 = .ok (.getfield 34, 3) := by decide +kernel
theorem dX1_lineOf_4 : decode cX1_lineOf 4 = .ok (.getfield 92, 3) := by decide +kernel
theorem dX1_lineOf_7 : decode cX1_lineOf 7 = .ok (.ifCond .ne 5, 3) := by decide +kernel
theorem dX1_lineOf_12 : decode cX1_lineOf 12 = .ok (.iload_n 1, 1) := by decide +kernel
theorem dX1_lineOf_13 : decode cX1_lineOf 13 = .ok (.aload_n 0, 1) := by decide +kernel
theorem dX1_lineOf_14 : decode cX1_lineOf 14 = .ok (.getfield 34, 3) := by decide +kernel
theorem dX1_lineOf_17 : decode cX1_lineOf 17 = .ok (.getfield 92, 3) := by decide +kernel
theorem dX1_lineOf_20 : decode cX1_lineOf 20 = .ok (.irem, 1) := by decide +kernel
theorem dX1_lineOf_21 : decode cX1_lineOf 21 = .ok (.istore_n 2, 1) := by decide +kernel
theorem dX1_lineOf_22 : decode cX1_lineOf 22 = .ok (.iload_n 2, 1) := by decide +kernel
theorem dX1_lineOf_23 : decode cX1_lineOf 23 = .ok (.ifCond .ge 15, 3) := by decide +kernel
theorem dX1_lineOf_38 : decode cX1_lineOf 38 = .ok (.iload_n 2, 1) := by decide +kernel
theorem dX1_lineOf_39 : decode cX1_lineOf 39 = .ok (.ireturn, 1) := by decide +kernel
theorem dX1_lineOf_26 : decode cX1_lineOf 26 = .ok (.iload_n 2, 1) := by decide +kernel
theorem dX1_lineOf_27 : decode cX1_lineOf 27 = .ok (.aload_n 0, 1) := by decide +kernel
theorem dX1_lineOf_28 : decode cX1_lineOf 28 = .ok (.getfield 34, 3) := by decide +kernel
theorem dX1_lineOf_31 : decode cX1_lineOf 31 = .ok (.getfield 92, 3) := by decide +kernel
theorem dX1_lineOf_34 : decode cX1_lineOf 34 = .ok (.iadd, 1) := by decide +kernel
theorem dX1_lineOf_35 : decode cX1_lineOf 35 = .ok (.goto 4, 3) := by decide +kernel
theorem dX1_write_0 : decode cX1_write 0 = .ok (.aload_n 0, 1) := by decide +kernel
theorem dX1_write_1 : decode cX1_write 1 = .ok (.getfield 64, 3) := by decide +kernel
theorem dX1_write_4 : decode cX1_write 4 = .ok (.aload_n 0, 1) := by decide +kernel
theorem dX1_write_5 : decode cX1_write 5 = .ok (.getfield 38, 3) := by decide +kernel
theorem dX1_write_8 : decode cX1_write 8 = .ok (.arraylength, 1) := by decide +kernel
theorem dX1_write_9 : decode cX1_write 9 = .ok (.if_icmp .ge 13, 3) := by decide +kernel
theorem dX1_write_22 : decode cX1_write 22 = .ok (.aload_n 0, 1) := by decide +kernel
theorem dX1_write_23 : decode cX1_write 23 = .ok (.dup, 1) := by decide +kernel
theorem dX1_write_24 : decode cX1_write 24 = .ok (.getfield 64, 3) := by decide +kernel
theorem dX1_write_27 : decode cX1_write 27 = .ok (.iconst 1, 1) := by decide +kernel
theorem dX1_write_28 : decode cX1_write 28 = .ok (.iadd, 1) := by decide +kernel
theorem dX1_write_29 : decode cX1_write 29 = .ok (.putfield 64, 3) := by decide +kernel
theorem dX1_write_32 : decode cX1_write 32 = .ok (.return_, 1) := by decide +kernel
theorem dX1_write_12 : decode cX1_write 12 = .ok (.aload_n 0, 1) := by decide +kernel
theorem dX1_write_13 : decode cX1_write 13 = .ok (.getfield 38, 3) := by decide +kernel
theorem dX1_write_16 : decode cX1_write 16 = .ok (.aload_n 0, 1) := by decide +kernel
theorem dX1_write_17 : decode cX1_write 17 = .ok (.getfield 64, 3) := by decide +kernel
theorem dX1_write_20 : decode cX1_write 20 = .ok (.iload_n 1, 1) := by decide +kernel
theorem dX1_write_21 : decode cX1_write 21 = .ok (.iastore, 1) := by decide +kernel
theorem rem_t (x y : Int32) (h : 0 < y.toInt) : (x - x / y * y).toInt = x.toInt.tmod y.toInt := by
  have hb : (x.toInt.tmod y.toInt).bmod (2 ^ 32) = x.toInt.tmod y.toInt := by
    have h1 : x.toInt.tmod y.toInt < y.toInt := Int.tmod_lt_of_pos _ h
    have h2 : -y.toInt < x.toInt.tmod y.toInt := Int.lt_tmod_of_pos x.toInt h
    have h3 := y.toInt_lt
    apply Int.bmod_eq_of_le <;> omega
  rw [Int32.toInt_sub, Int32.toInt_mul, Int32.toInt_div]
  rw [← hb, Int.tmod_def, Int.bmod_mul_bmod, Int.sub_bmod_bmod, Int.mul_comm]
def lnOf (v : Int32) (ln : Nat) : Nat := (v.toInt % (ln : Int)).toNat
theorem lnOf_lt (v : Int32) {ln : Nat} (h : 0 < ln) : lnOf v ln < ln := by
  unfold lnOf
  have h1 := Int.emod_nonneg v.toInt (b := (ln : Int)) (by omega)
  have h2 := Int.emod_lt_of_pos v.toInt (b := (ln : Int)) (by omega)
  omega
theorem lnOf_eq (v x : Int32) {ln : Nat} (h : 0 < ln) (hl : ln ≤ 16) (e : x = v - v / nI ln * nI ln) : (x < 0 → x + nI ln = nI (lnOf v ln)) ∧ (¬ x < 0 → x = nI (lnOf v ln)) := by
  have hn : (nI ln).toInt = (ln : Int) := nI_toInt (by omega)
  have ht : x.toInt = v.toInt.tmod (ln : Int) := by rw [e, rem_t v (nI ln) (by rw [hn]; omega), hn]
  have hk := lnOf_lt v h
  have hm : ((lnOf v ln : Nat) : Int) = v.toInt % (ln : Int) := by
    unfold lnOf
    have h1 := Int.emod_nonneg v.toInt (b := (ln : Int)) (by omega)
    omega
  have hr : (nI (lnOf v ln)).toInt = v.toInt % (ln : Int) := by rw [nI_toInt (by omega), hm]
  have hx : x.toInt % (ln : Int) = v.toInt % (ln : Int) := by rw [ht, Int.tmod_def]; exact Int.sub_mul_emod_self_left ..
  have b1 : x.toInt < ln := by rw [ht]; exact Int.tmod_lt_of_pos _ (by omega)
  have b2 : -(ln : Int) < x.toInt := by rw [ht]; exact Int.lt_tmod_of_pos _ (by omega)
  have z0 : (0 : Int32).toInt = 0 := rfl
  constructor
  · intro hneg
    have h0 := Int32.lt_iff_toInt_lt.mp hneg
    rw [z0] at h0
    have h1 : (x.toInt + ln) % (ln : Int) = x.toInt + ln := Int.emod_eq_of_lt (by omega) (by omega)
    rw [Int.add_emod_right, hx] at h1
    apply Int32.toInt_inj.mp
    rw [hr, h1, Int32.toInt_add, hn]
    apply Int.bmod_eq_of_le <;> omega
  · intro hneg
    have h0 := Int32.le_iff_toInt_le.mp (Int32.not_lt.mp hneg)
    rw [z0] at h0
    have h1 : x.toInt % (ln : Int) = x.toInt := Int.emod_eq_of_lt (by omega) (by omega)
    apply Int32.toInt_inj.mp
    rw [hr, ← hx, h1]

set_option maxHeartbeats 4000000 in
set_option maxRecDepth 100000 in
theorem c_X1_lineOf (l : Launch) (D : va_G) (ak : Nat → ClassId) (ad : Nat → Nat) (sz : Nat) (h0 : Nat) (pg : Nat) (m1 : Nat) (m2 : Nat) (m3 : Nat) (m4 : Nat) (m5 : Nat) (m6 : Nat) (wy : Int32) (sta : Int32) (nx : Int32) (sp : Int32) (wr : Int32) (st : Nat) (ce : Nat) (gi : Nat) (ln : Nat) (p1 : Nat) (p2 : Nat) (p4 : Nat) (p6 : Nat) (p7 : Nat) (p8 : Nat) (p10 : Nat) (p11 : Nat) (p12 : Nat) (p13 : Nat) (p14 : Nat) (p15 : Nat) (p16 : Nat) (v : Int32) (h1 : 0 < ln) (h2 : ln ≤ 16) : Met l yX1_lineOf wsX1_lineOf ({ frames := 0, cells := 0, slots := 0, locals := 0 }) (cPreK D ak ad [.ref h0, .int (v)] ([(h0, .inr (1, [.ref pg, .ref m1, .ref m2, .ref m3, .ref m4, .ref m5, .ref m6, .int (wy), .int (sta), .int (nx), .int (sp), .int (wr)]))]) sz ([(pg, .inr (2, [.int (nI st), .ref p1, .ref p2, .int (nI ce), .ref p4, .int (nI gi), .ref p6, .ref p7, .ref p8, .int (nI ln), .ref p10, .ref p11, .ref p12, .ref p13, .ref p14, .ref p15, .ref p16]))])) (cI D (S := Unit) (fun (r : Int32) (u : Unit) => r = nI (lnOf v ln)) (fun u => [(h0, .inr (1, [.ref pg, .ref m1, .ref m2, .ref m3, .ref m4, .ref m5, .ref m6, .int (wy), .int (sta), .int (nx), .int (sp), .int (wr)]))]) ([(h0, .inr (1, [.ref pg, .ref m1, .ref m2, .ref m3, .ref m4, .ref m5, .ref m6, .int (wy), .int (sta), .int (nx), .int (sp), .int (wr)]))]) sz) 0 0 (va_A ([(h0, .inr (1, [.ref pg, .ref m1, .ref m2, .ref m3, .ref m4, .ref m5, .ref m6, .int (wy), .int (sta), .int (nx), .int (sp), .int (wr)]))]) sz) := by
  refine Met.ofW (cc := cX1_lineOf) (maxL := 3) (ret := (some .int)) (by decide) rfl ?_
  intro p e s m args below meth c s₁ B hml hv
  obtain ⟨⟨rfl, hsz, hP, hE, hD0, hT⟩, hKT⟩ := hv
  have hx := B.exec
  have hb := B.bytes
  have hr := B.returns
  have hts := atoms_spec (ws := wsX1_lineOf) B.pre
  have hown : s.vm.findClass RX1 = some m.cls := findClass_of_methodNamed B.named
  have hlocks := B.notSynchronized
  subst hsz
  have hD := hD0.self (sz := s.heap.size)
  generalize hAe : va_A ([(h0, .inr (1, [.ref pg, .ref m1, .ref m2, .ref m3, .ref m4, .ref m5, .ref m6, .int (wy), .int (sta), .int (nx), .int (sp), .int (wr)]))]) s.heap.size = A at hD hT hKT ⊢
  have hA : ∀ q : Nat, s.heap.size ≤ q → A q := fun q h => by rw [← hAe]; exact Or.inr h
  have hS : va_S A s.heap s.heap [] := va_S.rf
  have hl := lv_entry ([.ref h0, .int (v)]) (n := 3) (Nat.le_of_ble_eq_true rfl)
  rw [lg_entry_eq]
  generalize (lg_sl ([.ref h0, .int (v)]) ++ List.replicate (3 - (lg_sl ([.ref h0, .int (v)])).length) Slot.unset).toArray = ls at hl ⊢
  have hl : lv_has ls 3 [(0, .ref h0), (1, .int (v))] := hl
  have hP : va_P D vwCl [(h0, .inr (1, [.ref pg, .ref m1, .ref m2, .ref m3, .ref m4, .ref m5, .ref m6, .int (wy), .int (sta), .int (nx), .int (sp), .int (wr)]))] s.heap := hP
  have hCW : ∀ {H : Heap} {locs : List Loc}, va_S A s.heap H locs → va_P D vwCl [(pg, .inr (2, [.int (nI st), .ref p1, .ref p2, .int (nI ce), .ref p4, .int (nI gi), .ref p6, .ref p7, .ref p8, .int (nI ln), .ref p10, .ref p11, .ref p12, .ref p13, .ref p14, .ref p15, .ref p16]))] H := fun hS => (hKT.kept hS.2.1).1
  refine lv_aload_n hx hb dX1_lineOf_0 rfl (lv_at hl 0 rfl) ?_
  refine va_get (D := D) (ci := 1) (v := .ref pg) (C := RX1) (T := TX1) (N := 12) hx hb hts (fun w h => List.mem_cons_of_mem _ (List.mem_append_left _ (List.mem_append_right _ h))) hown hE.1 hP 0 rfl rfl 0 (by decide) (hts (.fieldLink RX1 34 "WornLines$Machine" "programme" "LWornLines$Programme;") (by decide +kernel)) (fun _ h9 => h9) rfl dX1_lineOf_1 ?_
  refine va_get (D := D) (ci := 2) (v := .int (nI ln)) (C := RX2) (T := TX2) (N := 17) hx hb hts (fun w h => List.mem_cons_of_mem _ (List.mem_append_right _ h)) hown hE.1 (hCW hS) 0 rfl rfl 9 (by decide) (hts (.fieldLink RX1 92 "WornLines$Programme" "lines" "I") (by decide +kernel)) (fun _ h9 => h9) rfl dX1_lineOf_4 ?_
  refine lv_if_ne (tgt := 12) hx hb dX1_lineOf_7 (by decide) (fun c_7 => ?_) (fun c_7 => ?_)
  · refine lv_iload_n hx hb dX1_lineOf_12 rfl (lv_at hl 1 rfl) ?_
    refine lv_aload_n hx hb dX1_lineOf_13 rfl (lv_at hl 0 rfl) ?_
    refine va_get (D := D) (ci := 1) (v := .ref pg) (C := RX1) (T := TX1) (N := 12) hx hb hts (fun w h => List.mem_cons_of_mem _ (List.mem_append_left _ (List.mem_append_right _ h))) hown hE.1 hP 0 rfl rfl 0 (by decide) (hts (.fieldLink RX1 34 "WornLines$Machine" "programme" "LWornLines$Programme;") (by decide +kernel)) (fun _ h9 => h9) rfl dX1_lineOf_14 ?_
    refine va_get (D := D) (ci := 2) (v := .int (nI ln)) (C := RX2) (T := TX2) (N := 17) hx hb hts (fun w h => List.mem_cons_of_mem _ (List.mem_append_right _ h)) hown hE.1 (hCW hS) 0 rfl rfl 9 (by decide) (hts (.fieldLink RX1 92 "WornLines$Programme" "lines" "I") (by decide +kernel)) (fun _ h9 => h9) rfl dX1_lineOf_17 ?_
    refine lv_irem hx hb dX1_lineOf_20 (nI_ne0 h1 (by omega)) ?_
    refine lv_topi (fun x_1 ex_1 => ?_)
    refine lv_istore_n (lv' := [(2, .int (x_1)), (0, .ref h0), (1, .int (v))]) hx hb dX1_lineOf_21 rfl hl (by decide) rfl (fun ls hl => ?_)
    refine lv_iload_n hx hb dX1_lineOf_22 rfl (lv_at hl 0 rfl) ?_
    refine lv_if_ge (tgt := 38) hx hb dX1_lineOf_23 (by decide) (fun c_23 => ?_) (fun c_23 => ?_)
    · refine lv_iload_n hx hb dX1_lineOf_38 rfl (lv_at hl 0 rfl) ?_
      have hP9 := hP.sub (ws' := [(h0, .inr (1, [.ref pg, .ref m1, .ref m2, .ref m3, .ref m4, .ref m5, .ref m6, .int (wy), .int (sta), .int (nx), .int (sp), .int (wr)]))]) [0] rfl
      have hD9 := hD.sub (ws' := [(h0, .inr (1, [.ref pg, .ref m1, .ref m2, .ref m3, .ref m4, .ref m5, .ref m6, .int (wy), .int (sta), .int (nx), .int (sp), .int (wr)]))]) [0] (by decide) rfl
      refine W.widen (k := 0) (n := 0) (Nat.le_of_ble_eq_true rfl) (Nat.le_of_ble_eq_true rfl) ?_
      exact W.iret (v := x_1) hx hb hr (fun t ht hW => ⟨⟨x_1, (()), rfl, (by first | exact (lnOf_eq v _ h1 h2 ex_1).1 (Int32.not_le.mp c_23) | exact (lnOf_eq v _ h1 h2 ex_1).2 (Int32.not_lt.mpr c_23)), by rw [ht]; exact hP9, by rw [hAe]; exact hD9⟩, by rw [hAe]; exact hS.F ht⟩) hS.2.2 dX1_lineOf_39
    · refine lv_iload_n hx hb dX1_lineOf_26 rfl (lv_at hl 0 rfl) ?_
      refine lv_aload_n hx hb dX1_lineOf_27 rfl (lv_at hl 1 rfl) ?_
      refine va_get (D := D) (ci := 1) (v := .ref pg) (C := RX1) (T := TX1) (N := 12) hx hb hts (fun w h => List.mem_cons_of_mem _ (List.mem_append_left _ (List.mem_append_right _ h))) hown hE.1 hP 0 rfl rfl 0 (by decide) (hts (.fieldLink RX1 34 "WornLines$Machine" "programme" "LWornLines$Programme;") (by decide +kernel)) (fun _ h9 => h9) rfl dX1_lineOf_28 ?_
      refine va_get (D := D) (ci := 2) (v := .int (nI ln)) (C := RX2) (T := TX2) (N := 17) hx hb hts (fun w h => List.mem_cons_of_mem _ (List.mem_append_right _ h)) hown hE.1 (hCW hS) 0 rfl rfl 9 (by decide) (hts (.fieldLink RX1 92 "WornLines$Programme" "lines" "I") (by decide +kernel)) (fun _ h9 => h9) rfl dX1_lineOf_31 ?_
      refine lv_iadd hx hb dX1_lineOf_34 ?_
      refine lv_goto (tgt := 39) hx hb dX1_lineOf_35 (by decide) ?_
      have hP9 := hP.sub (ws' := [(h0, .inr (1, [.ref pg, .ref m1, .ref m2, .ref m3, .ref m4, .ref m5, .ref m6, .int (wy), .int (sta), .int (nx), .int (sp), .int (wr)]))]) [0] rfl
      have hD9 := hD.sub (ws' := [(h0, .inr (1, [.ref pg, .ref m1, .ref m2, .ref m3, .ref m4, .ref m5, .ref m6, .int (wy), .int (sta), .int (nx), .int (sp), .int (wr)]))]) [0] (by decide) rfl
      refine W.widen (k := 0) (n := 0) (Nat.le_of_ble_eq_true rfl) (Nat.le_of_ble_eq_true rfl) ?_
      exact W.iret (v := (x_1) + (nI ln)) hx hb hr (fun t ht hW => ⟨⟨(x_1) + (nI ln), (()), rfl, (by first | exact (lnOf_eq v _ h1 h2 ex_1).1 (Int32.not_le.mp c_23) | exact (lnOf_eq v _ h1 h2 ex_1).2 (Int32.not_lt.mpr c_23)), by rw [ht]; exact hP9, by rw [hAe]; exact hD9⟩, by rw [hAe]; exact hS.F ht⟩) hS.2.2 dX1_lineOf_39
  · exact absurd c_7 (nI_ne0 h1 (by omega))

set_option maxHeartbeats 4000000 in
set_option maxRecDepth 100000 in
theorem c_X1_write (l : Launch) (D : va_G) (ak : Nat → ClassId) (ad : Nat → Nat) (sz : Nat) (h0 : Nat) (pg : Nat) (m1 : Nat) (m2 : Nat) (m3 : Nat) (m4 : Nat) (m5 : Nat) (m6 : Nat) (wy : Int32) (sta : Int32) (nx : Int32) (sp : Int32) (kn : Nat) (w : Nat) (gke : Nat → Int32) (v : Int32) (hw : w < 2 ^ 30) (hk : kn < 2 ^ 30) : Met l yX1_write wsX1_write ({ frames := 0, cells := 0, slots := 0, locals := 0 }) (cPre D ak ad [.ref h0, .int (v)] ([(h0, .inr (1, [.ref pg, .ref m1, .ref m2, .ref m3, .ref m4, .ref m5, .ref m6, .int (wy), .int (sta), .int (nx), .int (sp), .int (nI w)])), (m5, .inl (ak 0, kn, .inl (gke)))]) sz) (cV D (S := (Nat → Int32)) (fun (u : (Nat → Int32)) => u = if w < kn then upd gke w v else gke) (fun u => [(h0, .inr (1, [.ref pg, .ref m1, .ref m2, .ref m3, .ref m4, .ref m5, .ref m6, .int (wy), .int (sta), .int (nx), .int (sp), .int (nI (w + 1))])), (m5, .inl (ak 0, kn, .inl (u)))]) ([(h0, .inr (1, [.ref pg, .ref m1, .ref m2, .ref m3, .ref m4, .ref m5, .ref m6, .int (wy), .int (sta), .int (nx), .int (sp), .int (nI w)])), (m5, .inl (ak 0, kn, .inl (gke)))]) sz) 0 0 (va_A ([(h0, .inr (1, [.ref pg, .ref m1, .ref m2, .ref m3, .ref m4, .ref m5, .ref m6, .int (wy), .int (sta), .int (nx), .int (sp), .int (nI w)])), (m5, .inl (ak 0, kn, .inl (gke)))]) sz) := by
  refine Met.ofW (cc := cX1_write) (maxL := 2) (ret := none) (by decide) rfl ?_
  intro p e s m args below meth c s₁ B hml hv
  obtain ⟨rfl, hsz, hP, hE, hD0, hT⟩ := hv
  have hx := B.exec
  have hb := B.bytes
  have hr := B.returns
  have hts := atoms_spec (ws := wsX1_write) B.pre
  have hown : s.vm.findClass RX1 = some m.cls := findClass_of_methodNamed B.named
  have hlocks := B.notSynchronized
  subst hsz
  have hD := hD0.self (sz := s.heap.size)
  generalize hAe : va_A ([(h0, .inr (1, [.ref pg, .ref m1, .ref m2, .ref m3, .ref m4, .ref m5, .ref m6, .int (wy), .int (sta), .int (nx), .int (sp), .int (nI w)])), (m5, .inl (ak 0, kn, .inl (gke)))]) s.heap.size = A at hD hT ⊢
  have hA : ∀ q : Nat, s.heap.size ≤ q → A q := fun q h => by rw [← hAe]; exact Or.inr h
  have hS : va_S A s.heap s.heap [] := va_S.rf
  have hl := lv_entry ([.ref h0, .int (v)]) (n := 2) (Nat.le_of_ble_eq_true rfl)
  rw [lg_entry_eq]
  generalize (lg_sl ([.ref h0, .int (v)]) ++ List.replicate (2 - (lg_sl ([.ref h0, .int (v)])).length) Slot.unset).toArray = ls at hl ⊢
  have hl : lv_has ls 2 [(0, .ref h0), (1, .int (v))] := hl
  have hP : va_P D vwCl [(h0, .inr (1, [.ref pg, .ref m1, .ref m2, .ref m3, .ref m4, .ref m5, .ref m6, .int (wy), .int (sta), .int (nx), .int (sp), .int (nI w)])), (m5, .inl (ak 0, kn, .inl (gke)))] s.heap := hP
  refine lv_aload_n hx hb dX1_write_0 rfl (lv_at hl 0 rfl) ?_
  refine va_get (D := D) (ci := 1) (v := .int (nI w)) (C := RX1) (T := TX1) (N := 12) hx hb hts (fun w h => List.mem_cons_of_mem _ (List.mem_append_right _ h)) hown hE.1 hP 0 rfl rfl 11 (by decide) (hts (.fieldLink RX1 64 "WornLines$Machine" "written" "I") (by decide +kernel)) (fun _ h9 => h9) rfl dX1_write_1 ?_
  refine lv_aload_n hx hb dX1_write_4 rfl (lv_at hl 0 rfl) ?_
  refine va_get (D := D) (ci := 1) (v := .ref m5) (C := RX1) (T := TX1) (N := 12) hx hb hts (fun w h => List.mem_cons_of_mem _ (List.mem_append_right _ h)) hown hE.1 hP 0 rfl rfl 5 (by decide) (hts (.fieldLink RX1 38 "WornLines$Machine" "kept" "[I") (by decide +kernel)) (fun _ h9 => h9) rfl dX1_write_5 ?_
  refine va_alen hx hb hE.1 hP 1 0 rfl rfl (v := nI (kn)) rfl dX1_write_8 ?_
  refine lv_icmp_ge (tgt := 22) hx hb dX1_write_9 (by decide) (fun c_9 => ?_) (fun c_9 => ?_)
  · have hge : kn ≤ w := (nI_leI (by omega) (by omega)).mp c_9
    refine lv_aload_n hx hb dX1_write_22 rfl (lv_at hl 0 rfl) ?_
    refine lv_dup hx hb dX1_write_23 rfl ?_
    refine va_get (D := D) (ci := 1) (v := .int (nI w)) (C := RX1) (T := TX1) (N := 12) hx hb hts (fun w h => List.mem_cons_of_mem _ (List.mem_append_right _ h)) hown hE.1 hP 0 rfl rfl 11 (by decide) (hts (.fieldLink RX1 64 "WornLines$Machine" "written" "I") (by decide +kernel)) (fun _ h9 => h9) rfl dX1_write_24 ?_
    refine lv_iconst (v := 1) hx hb dX1_write_27 (by decide) ?_
    refine lv_iadd hx hb dX1_write_28 ?_
    refine W.eq (g2 := F0 m 29 ls (.int (nI (w + 1)) :: .ref h0 :: [])) (by rw [nI_1]) ?_
    refine va_put (D := D) (ci := 1) (v := .int (nI (w + 1))) (ty := .int) (C := RX1) (T := TX1) (N := 12) hx hb hts (fun w h => List.mem_cons_of_mem _ (List.mem_append_right _ h)) tyX1 tyX1_ok nmX1 hown hE.1 hP hD hS 0 rfl rfl 11 (by decide) (hts (.fieldLink RX1 64 "WornLines$Machine" "written" "I") (by decide +kernel)) (fun _ h9 => h9) rfl (by decide +kernel) rfl rfl (Nat.le_of_ble_eq_true rfl) dX1_write_29 (fun H locs hP hD hS => ?_)
    have hP : va_P D vwCl [(h0, .inr (1, [.ref pg, .ref m1, .ref m2, .ref m3, .ref m4, .ref m5, .ref m6, .int (wy), .int (sta), .int (nx), .int (sp), .int (nI (w + 1))])), (m5, .inl (ak 0, kn, .inl (gke)))] H := hP
    have hD : va_D A [(h0, .inr (1, [.ref pg, .ref m1, .ref m2, .ref m3, .ref m4, .ref m5, .ref m6, .int (wy), .int (sta), .int (nx), .int (sp), .int (nI (w + 1))])), (m5, .inl (ak 0, kn, .inl (gke)))] := hD
    have hP9 := hP.sub (ws' := [(h0, .inr (1, [.ref pg, .ref m1, .ref m2, .ref m3, .ref m4, .ref m5, .ref m6, .int (wy), .int (sta), .int (nx), .int (sp), .int (nI (w + 1))])), (m5, .inl (ak 0, kn, .inl (gke)))]) [0, 1] rfl
    have hD9 := hD.sub (ws' := [(h0, .inr (1, [.ref pg, .ref m1, .ref m2, .ref m3, .ref m4, .ref m5, .ref m6, .int (wy), .int (sta), .int (nx), .int (sp), .int (nI (w + 1))])), (m5, .inl (ak 0, kn, .inl (gke)))]) [0, 1] (by decide) rfl
    refine W.widen (k := 0) (n := 0) (Nat.le_of_ble_eq_true rfl) (Nat.le_of_ble_eq_true rfl) ?_
    exact W.vret hx hb hr (fun t ht hW => ⟨⟨(gke), rfl, (by first | rw [if_neg (by omega)] | rw [if_pos (by omega), nI_clamp (by omega)]), by rw [ht]; exact hP9, by rw [hAe]; exact hD9⟩, by rw [hAe]; exact hS.F ht⟩) hS.2.2 dX1_write_32
  · have hlt : w < kn := Nat.lt_of_not_le (fun h => c_9 (nI_le h (by omega)))
    refine lv_aload_n hx hb dX1_write_12 rfl (lv_at hl 0 rfl) ?_
    refine va_get (D := D) (ci := 1) (v := .ref m5) (C := RX1) (T := TX1) (N := 12) hx hb hts (fun w h => List.mem_cons_of_mem _ (List.mem_append_right _ h)) hown hE.1 hP 0 rfl rfl 5 (by decide) (hts (.fieldLink RX1 38 "WornLines$Machine" "kept" "[I") (by decide +kernel)) (fun _ h9 => h9) rfl dX1_write_13 ?_
    refine lv_aload_n hx hb dX1_write_16 rfl (lv_at hl 0 rfl) ?_
    refine va_get (D := D) (ci := 1) (v := .int (nI w)) (C := RX1) (T := TX1) (N := 12) hx hb hts (fun w h => List.mem_cons_of_mem _ (List.mem_append_right _ h)) hown hE.1 hP 0 rfl rfl 11 (by decide) (hts (.fieldLink RX1 64 "WornLines$Machine" "written" "I") (by decide +kernel)) (fun _ h9 => h9) rfl dX1_write_17 ?_
    refine lv_iload_n hx hb dX1_write_20 rfl (lv_at hl 1 rfl) ?_
    refine va_iast hx hb hE.1 hP hD hS 1 0 rfl rfl (vp_in_nI hlt (by omega)) dX1_write_21 (fun H locs hP hD hS => ?_)
    have hP : va_P D vwCl [(h0, .inr (1, [.ref pg, .ref m1, .ref m2, .ref m3, .ref m4, .ref m5, .ref m6, .int (wy), .int (sta), .int (nx), .int (sp), .int (nI w)])), (m5, .inl (ak 0, kn, .inl (upd (gke) ((nI w : Int32).toNatClampNeg) (v))))] H := hP
    have hD : va_D A [(h0, .inr (1, [.ref pg, .ref m1, .ref m2, .ref m3, .ref m4, .ref m5, .ref m6, .int (wy), .int (sta), .int (nx), .int (sp), .int (nI w)])), (m5, .inl (ak 0, kn, .inl (upd (gke) ((nI w : Int32).toNatClampNeg) (v))))] := hD
    refine lv_aload_n hx hb dX1_write_22 rfl (lv_at hl 0 rfl) ?_
    refine lv_dup hx hb dX1_write_23 rfl ?_
    refine va_get (D := D) (ci := 1) (v := .int (nI w)) (C := RX1) (T := TX1) (N := 12) hx hb hts (fun w h => List.mem_cons_of_mem _ (List.mem_append_right _ h)) hown hE.1 hP 0 rfl rfl 11 (by decide) (hts (.fieldLink RX1 64 "WornLines$Machine" "written" "I") (by decide +kernel)) (fun _ h9 => h9) rfl dX1_write_24 ?_
    refine lv_iconst (v := 1) hx hb dX1_write_27 (by decide) ?_
    refine lv_iadd hx hb dX1_write_28 ?_
    refine W.eq (g2 := F0 m 29 ls (.int (nI (w + 1)) :: .ref h0 :: [])) (by rw [nI_1]) ?_
    refine va_put (D := D) (ci := 1) (v := .int (nI (w + 1))) (ty := .int) (C := RX1) (T := TX1) (N := 12) hx hb hts (fun w h => List.mem_cons_of_mem _ (List.mem_append_right _ h)) tyX1 tyX1_ok nmX1 hown hE.1 hP hD hS 0 rfl rfl 11 (by decide) (hts (.fieldLink RX1 64 "WornLines$Machine" "written" "I") (by decide +kernel)) (fun _ h9 => h9) rfl (by decide +kernel) rfl rfl (Nat.le_of_ble_eq_true rfl) dX1_write_29 (fun H locs hP hD hS => ?_)
    have hP : va_P D vwCl [(h0, .inr (1, [.ref pg, .ref m1, .ref m2, .ref m3, .ref m4, .ref m5, .ref m6, .int (wy), .int (sta), .int (nx), .int (sp), .int (nI (w + 1))])), (m5, .inl (ak 0, kn, .inl (upd (gke) ((nI w : Int32).toNatClampNeg) (v))))] H := hP
    have hD : va_D A [(h0, .inr (1, [.ref pg, .ref m1, .ref m2, .ref m3, .ref m4, .ref m5, .ref m6, .int (wy), .int (sta), .int (nx), .int (sp), .int (nI (w + 1))])), (m5, .inl (ak 0, kn, .inl (upd (gke) ((nI w : Int32).toNatClampNeg) (v))))] := hD
    have hP9 := hP.sub (ws' := [(h0, .inr (1, [.ref pg, .ref m1, .ref m2, .ref m3, .ref m4, .ref m5, .ref m6, .int (wy), .int (sta), .int (nx), .int (sp), .int (nI (w + 1))])), (m5, .inl (ak 0, kn, .inl (upd (gke) ((nI w : Int32).toNatClampNeg) (v))))]) [0, 1] rfl
    have hD9 := hD.sub (ws' := [(h0, .inr (1, [.ref pg, .ref m1, .ref m2, .ref m3, .ref m4, .ref m5, .ref m6, .int (wy), .int (sta), .int (nx), .int (sp), .int (nI (w + 1))])), (m5, .inl (ak 0, kn, .inl (upd (gke) ((nI w : Int32).toNatClampNeg) (v))))]) [0, 1] (by decide) rfl
    refine W.widen (k := 0) (n := 0) (Nat.le_of_ble_eq_true rfl) (Nat.le_of_ble_eq_true rfl) ?_
    exact W.vret hx hb hr (fun t ht hW => ⟨⟨(upd (gke) ((nI w : Int32).toNatClampNeg) (v)), rfl, (by first | rw [if_neg (by omega)] | rw [if_pos (by omega), nI_clamp (by omega)]), by rw [ht]; exact hP9, by rw [hAe]; exact hD9⟩, by rw [hAe]; exact hS.F ht⟩) hS.2.2 dX1_write_32
