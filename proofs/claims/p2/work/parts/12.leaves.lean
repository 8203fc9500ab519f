theorem dX1_mend_0 : decode cX1_mend 0 = .ok (.iload_n 2, 1) := by decide +kernel
theorem dX1_mend_1 : decode cX1_mend 1 = .ok (.ifCond .le 21, 3) := by decide +kernel
theorem dX1_mend_22 : decode cX1_mend 22 = .ok (.return_, 1) := by decide +kernel
theorem dX1_mend_4 : decode cX1_mend 4 = .ok (.aload_n 0, 1) := by decide +kernel
theorem dX1_mend_5 : decode cX1_mend 5 = .ok (.getfield 18, 3) := by decide +kernel
theorem dX1_mend_8 : decode cX1_mend 8 = .ok (.iload_n 1, 1) := by decide +kernel
theorem dX1_mend_9 : decode cX1_mend 9 = .ok (.iconst 0, 1) := by decide +kernel
theorem dX1_mend_10 : decode cX1_mend 10 = .ok (.aload_n 0, 1) := by decide +kernel
theorem dX1_mend_11 : decode cX1_mend 11 = .ok (.getfield 18, 3) := by decide +kernel
theorem dX1_mend_14 : decode cX1_mend 14 = .ok (.iload_n 1, 1) := by decide +kernel
theorem dX1_mend_15 : decode cX1_mend 15 = .ok (.iaload, 1) := by decide +kernel
theorem dX1_mend_16 : decode cX1_mend 16 = .ok (.iload_n 2, 1) := by decide +kernel
theorem dX1_mend_17 : decode cX1_mend 17 = .ok (.isub, 1) := by decide +kernel
theorem dX1_mend_18 : decode cX1_mend 18 = .ok (.invokestatic 135, 3) := by decide +kernel
theorem dX1_mend_21 : decode cX1_mend 21 = .ok (.iastore, 1) := by decide +kernel
theorem dX1_joined_0 : decode cX1_joined 0 = .ok (.iload_n 0, 1) := by decide +kernel
theorem dX1_joined_1 : decode cX1_joined 1 = .ok (.tableswitch 97 4 9 #[39, 53, 67, 78, 89, 93], 39) := by decide +kernel
theorem dX1_joined_40 : decode cX1_joined 40 = .ok (.iload_n 1, 1) := by decide +kernel
theorem dX1_joined_41 : decode cX1_joined 41 = .ok (.ifCond .eq 11, 3) := by decide +kernel
theorem dX1_joined_52 : decode cX1_joined 52 = .ok (.iconst 0, 1) := by decide +kernel
theorem dX1_joined_53 : decode cX1_joined 53 = .ok (.ireturn, 1) := by decide +kernel
theorem dX1_joined_44 : decode cX1_joined 44 = .ok (.iload_n 2, 1) := by decide +kernel
theorem dX1_joined_45 : decode cX1_joined 45 = .ok (.ifCond .eq 7, 3) := by decide +kernel
theorem dX1_joined_48 : decode cX1_joined 48 = .ok (.iconst 1, 1) := by decide +kernel
theorem dX1_joined_49 : decode cX1_joined 49 = .ok (.goto 4, 3) := by decide +kernel
theorem dX1_joined_54 : decode cX1_joined 54 = .ok (.iload_n 1, 1) := by decide +kernel
theorem dX1_joined_55 : decode cX1_joined 55 = .ok (.ifCond .ne 7, 3) := by decide +kernel
theorem dX1_joined_62 : decode cX1_joined 62 = .ok (.iconst 1, 1) := by decide +kernel
theorem dX1_joined_63 : decode cX1_joined 63 = .ok (.goto 4, 3) := by decide +kernel
theorem dX1_joined_67 : decode cX1_joined 67 = .ok (.ireturn, 1) := by decide +kernel
theorem dX1_joined_58 : decode cX1_joined 58 = .ok (.iload_n 2, 1) := by decide +kernel
theorem dX1_joined_59 : decode cX1_joined 59 = .ok (.ifCond .eq 7, 3) := by decide +kernel
theorem dX1_joined_66 : decode cX1_joined 66 = .ok (.iconst 0, 1) := by decide +kernel
theorem dX1_joined_68 : decode cX1_joined 68 = .ok (.iload_n 1, 1) := by decide +kernel
theorem dX1_joined_69 : decode cX1_joined 69 = .ok (.iload_n 2, 1) := by decide +kernel
theorem dX1_joined_70 : decode cX1_joined 70 = .ok (.if_icmp .ge 7, 3) := by decide +kernel
theorem dX1_joined_77 : decode cX1_joined 77 = .ok (.iconst 0, 1) := by decide +kernel
theorem dX1_joined_78 : decode cX1_joined 78 = .ok (.ireturn, 1) := by decide +kernel
theorem dX1_joined_73 : decode cX1_joined 73 = .ok (.iconst 1, 1) := by decide +kernel
theorem dX1_joined_74 : decode cX1_joined 74 = .ok (.goto 4, 3) := by decide +kernel
theorem dX1_joined_79 : decode cX1_joined 79 = .ok (.iload_n 1, 1) := by decide +kernel
theorem dX1_joined_80 : decode cX1_joined 80 = .ok (.iload_n 2, 1) := by decide +kernel
theorem dX1_joined_81 : decode cX1_joined 81 = .ok (.if_icmp .ne 7, 3) := by decide +kernel
theorem dX1_joined_88 : decode cX1_joined 88 = .ok (.iconst 0, 1) := by decide +kernel
theorem dX1_joined_89 : decode cX1_joined 89 = .ok (.ireturn, 1) := by decide +kernel
theorem dX1_joined_84 : decode cX1_joined 84 = .ok (.iconst 1, 1) := by decide +kernel
theorem dX1_joined_85 : decode cX1_joined 85 = .ok (.goto 4, 3) := by decide +kernel
theorem dX1_joined_90 : decode cX1_joined 90 = .ok (.iload_n 1, 1) := by decide +kernel
theorem dX1_joined_91 : decode cX1_joined 91 = .ok (.iload_n 2, 1) := by decide +kernel
theorem dX1_joined_92 : decode cX1_joined 92 = .ok (.iadd, 1) := by decide +kernel
theorem dX1_joined_93 : decode cX1_joined 93 = .ok (.ireturn, 1) := by decide +kernel
theorem dX1_joined_94 : decode cX1_joined 94 = .ok (.iload_n 1, 1) := by decide +kernel
theorem dX1_joined_95 : decode cX1_joined 95 = .ok (.iload_n 2, 1) := by decide +kernel
theorem dX1_joined_96 : decode cX1_joined 96 = .ok (.isub, 1) := by decide +kernel
theorem dX1_joined_97 : decode cX1_joined 97 = .ok (.ireturn, 1) := by decide +kernel
theorem dX1_joined_98 : decode cX1_joined 98 = .ok (.iload_n 1, 1) := by decide +kernel
theorem dX1_joined_99 : decode cX1_joined 99 = .ok (.iload_n 2, 1) := by decide +kernel
theorem dX1_joined_100 : decode cX1_joined 100 = .ok (.imul, 1) := by decide +kernel
theorem dX1_joined_101 : decode cX1_joined 101 = .ok (.ireturn, 1) := by decide +kernel
def mx0 (v : Int32) : Int32 := if 0 < v then v else 0
def jn (o a b : Int32) : Int32 := if o = 4 then (if a = 0 ∨ b = 0 then 0 else 1) else if o = 5 then (if a = 0 ∧ b = 0 then 0 else 1) else if o = 6 then (if a < b then 1 else 0) else if o = 7 then (if a = b then 1 else 0) else if o = 8 then a + b else if o = 9 then a - b else a * b
theorem jn4 (a b : Int32) : jn 4 a b = if a = 0 ∨ b = 0 then 0 else 1 := by rw [jn, if_pos rfl]
theorem jn5 (a b : Int32) : jn 5 a b = if a = 0 ∧ b = 0 then 0 else 1 := by rw [jn, if_neg (by decide), if_pos rfl]
theorem jn6 (a b : Int32) : jn 6 a b = if a < b then 1 else 0 := by rw [jn, if_neg (by decide), if_neg (by decide), if_pos rfl]
theorem jn7 (a b : Int32) : jn 7 a b = if a = b then 1 else 0 := by rw [jn, if_neg (by decide), if_neg (by decide), if_neg (by decide), if_pos rfl]
theorem jn8 (a b : Int32) : jn 8 a b = a + b := by rw [jn, if_neg (by decide), if_neg (by decide), if_neg (by decide), if_neg (by decide), if_pos rfl]
theorem jn9 (a b : Int32) : jn 9 a b = a - b := by rw [jn, if_neg (by decide), if_neg (by decide), if_neg (by decide), if_neg (by decide), if_neg (by decide), if_pos rfl]

set_option maxHeartbeats 4000000 in
set_option maxRecDepth 100000 in
theorem c_X1_mend (l : Launch) (D : va_G) (ak : Nat → ClassId) (ad : Nat → Nat) (sz : Nat) (h0 : Nat) (pg : Nat) (m1 : Nat) (m2 : Nat) (m3 : Nat) (m4 : Nat) (m5 : Nat) (m6 : Nat) (wy : Int32) (sta : Int32) (nx : Int32) (sp : Int32) (wr : Int32) (gwo : Nat → Int32) (i : Nat) (bw : Int32) (hi : i < 16) : Met l yX1_mend wsX1_mend ({ frames := 1, cells := 0, slots := 0, locals := 15 }) (cPre D ak ad [.ref h0, .int (nI i), .int (bw)] ([(h0, .inr (1, [.ref pg, .ref m1, .ref m2, .ref m3, .ref m4, .ref m5, .ref m6, .int (wy), .int (sta), .int (nx), .int (sp), .int (wr)])), (m3, .inl (ak 0, 16, .inl (gwo)))]) sz) (cV D (S := (Nat → Int32)) (fun (u : (Nat → Int32)) => u = if 0 < bw then upd gwo i (mx0 (gwo i - bw)) else gwo) (fun u => [(h0, .inr (1, [.ref pg, .ref m1, .ref m2, .ref m3, .ref m4, .ref m5, .ref m6, .int (wy), .int (sta), .int (nx), .int (sp), .int (wr)])), (m3, .inl (ak 0, 16, .inl (u)))]) ([(h0, .inr (1, [.ref pg, .ref m1, .ref m2, .ref m3, .ref m4, .ref m5, .ref m6, .int (wy), .int (sta), .int (nx), .int (sp), .int (wr)])), (m3, .inl (ak 0, 16, .inl (gwo)))]) sz) 0 0 (va_A ([(h0, .inr (1, [.ref pg, .ref m1, .ref m2, .ref m3, .ref m4, .ref m5, .ref m6, .int (wy), .int (sta), .int (nx), .int (sp), .int (wr)])), (m3, .inl (ak 0, 16, .inl (gwo)))]) sz) := by
  refine Met.ofW (cc := cX1_mend) (maxL := 3) (ret := none) (by decide) rfl ?_
  intro p e s m args below meth c s₁ B hml hv
  obtain ⟨rfl, hsz, hP, hE, hD0, hT⟩ := hv
  have hx := B.exec
  have hb := B.bytes
  have hr := B.returns
  have hts := atoms_spec (ws := wsX1_mend) B.pre
  have hown : s.vm.findClass RX1 = some m.cls := findClass_of_methodNamed B.named
  have hlocks := B.notSynchronized
  subst hsz
  have hD := hD0.self (sz := s.heap.size)
  generalize hAe : va_A ([(h0, .inr (1, [.ref pg, .ref m1, .ref m2, .ref m3, .ref m4, .ref m5, .ref m6, .int (wy), .int (sta), .int (nx), .int (sp), .int (wr)])), (m3, .inl (ak 0, 16, .inl (gwo)))]) s.heap.size = A at hD hT ⊢
  have hA : ∀ q : Nat, s.heap.size ≤ q → A q := fun q h => by rw [← hAe]; exact Or.inr h
  have hS : va_S A s.heap s.heap [] := va_S.rf
  have hl := lv_entry ([.ref h0, .int (nI i), .int (bw)]) (n := 3) (Nat.le_of_ble_eq_true rfl)
  rw [lg_entry_eq]
  generalize (lg_sl ([.ref h0, .int (nI i), .int (bw)]) ++ List.replicate (3 - (lg_sl ([.ref h0, .int (nI i), .int (bw)])).length) Slot.unset).toArray = ls at hl ⊢
  have hl : lv_has ls 3 [(0, .ref h0), (1, .int (nI i)), (2, .int (bw))] := hl
  have hP : va_P D vwCl [(h0, .inr (1, [.ref pg, .ref m1, .ref m2, .ref m3, .ref m4, .ref m5, .ref m6, .int (wy), .int (sta), .int (nx), .int (sp), .int (wr)])), (m3, .inl (ak 0, 16, .inl (gwo)))] s.heap := hP
  refine lv_iload_n hx hb dX1_mend_0 rfl (lv_at hl 2 rfl) ?_
  refine lv_if_le (tgt := 22) hx hb dX1_mend_1 (by decide) (fun c_1 => ?_) (fun c_1 => ?_)
  · have hP9 := hP.sub (ws' := [(h0, .inr (1, [.ref pg, .ref m1, .ref m2, .ref m3, .ref m4, .ref m5, .ref m6, .int (wy), .int (sta), .int (nx), .int (sp), .int (wr)])), (m3, .inl (ak 0, 16, .inl (gwo)))]) [0, 1] rfl
    have hD9 := hD.sub (ws' := [(h0, .inr (1, [.ref pg, .ref m1, .ref m2, .ref m3, .ref m4, .ref m5, .ref m6, .int (wy), .int (sta), .int (nx), .int (sp), .int (wr)])), (m3, .inl (ak 0, 16, .inl (gwo)))]) [0, 1] (by decide) rfl
    refine W.widen (k := 0) (n := 0) (Nat.le_of_ble_eq_true rfl) (Nat.le_of_ble_eq_true rfl) ?_
    exact W.vret hx hb hr (fun t ht hW => ⟨⟨(gwo), rfl, (by first | rw [if_neg (Int32.not_lt.mpr c_1)] | rw [if_pos (Int32.not_le.mp c_1), nI_clamp (by omega), ex_1]; rfl), by rw [ht]; exact hP9, by rw [hAe]; exact hD9⟩, by rw [hAe]; exact hS.F ht⟩) hS.2.2 dX1_mend_22
  · refine lv_aload_n hx hb dX1_mend_4 rfl (lv_at hl 0 rfl) ?_
    refine va_get (D := D) (ci := 1) (v := .ref m3) (C := RX1) (T := TX1) (N := 12) hx hb hts (fun w h => List.mem_cons_of_mem _ (List.mem_append_right _ h)) hown hE.1 hP 0 rfl rfl 3 (by decide) (hts (.fieldLink RX1 18 "WornLines$Machine" "worn" "[I") (by decide +kernel)) (fun _ h9 => h9) rfl dX1_mend_5 ?_
    refine lv_iload_n hx hb dX1_mend_8 rfl (lv_at hl 1 rfl) ?_
    refine lv_iconst (v := 0) hx hb dX1_mend_9 (by decide) ?_
    refine lv_aload_n hx hb dX1_mend_10 rfl (lv_at hl 0 rfl) ?_
    refine va_get (D := D) (ci := 1) (v := .ref m3) (C := RX1) (T := TX1) (N := 12) hx hb hts (fun w h => List.mem_cons_of_mem _ (List.mem_append_right _ h)) hown hE.1 hP 0 rfl rfl 3 (by decide) (hts (.fieldLink RX1 18 "WornLines$Machine" "worn" "[I") (by decide +kernel)) (fun _ h9 => h9) rfl dX1_mend_11 ?_
    refine lv_iload_n hx hb dX1_mend_14 rfl (lv_at hl 1 rfl) ?_
    refine va_iald hx hb hE.1 hP 1 0 rfl rfl (in_n hi (by decide)) dX1_mend_15 ?_
    refine W.eq (g2 := F0 m 16 ls (.int (gwo i) :: .int (0) :: .int (nI i) :: .ref m3 :: [])) (by rw [nI_clamp (by omega)]) ?_
    refine lv_iload_n hx hb dX1_mend_16 rfl (lv_at hl 2 rfl) ?_
    refine lv_isub hx hb dX1_mend_17 ?_
    refine va_mmax hx hb (by rw [hml]; exact hl.1.symm) hown (hts (.methodLink RX1 135 Lib.Math.max.name) (by decide +kernel)) (hts (.static Lib.Math.max.name) (by decide +kernel)) (hts (.initialized "java/lang/Math") (by decide +kernel)) (hts (.code Lib.Math.max.name Lib.Math.max.code 2 (some .int)) (by decide +kernel)) (Nat.le_of_ble_eq_true rfl) (Nat.le_of_ble_eq_true rfl) (Nat.le_of_ble_eq_true rfl) (Nat.le_of_ble_eq_true rfl) dX1_mend_18 ?_
    refine lv_topi (fun x_1 ex_1 => ?_)
    refine va_iast hx hb hE.1 hP hD hS 1 0 rfl rfl (in_n hi (by decide)) dX1_mend_21 (fun H locs hP hD hS => ?_)
    have hP : va_P D vwCl [(h0, .inr (1, [.ref pg, .ref m1, .ref m2, .ref m3, .ref m4, .ref m5, .ref m6, .int (wy), .int (sta), .int (nx), .int (sp), .int (wr)])), (m3, .inl (ak 0, 16, .inl (upd (gwo) ((nI i : Int32).toNatClampNeg) (x_1))))] H := hP
    have hD : va_D A [(h0, .inr (1, [.ref pg, .ref m1, .ref m2, .ref m3, .ref m4, .ref m5, .ref m6, .int (wy), .int (sta), .int (nx), .int (sp), .int (wr)])), (m3, .inl (ak 0, 16, .inl (upd (gwo) ((nI i : Int32).toNatClampNeg) (x_1))))] := hD
    have hP9 := hP.sub (ws' := [(h0, .inr (1, [.ref pg, .ref m1, .ref m2, .ref m3, .ref m4, .ref m5, .ref m6, .int (wy), .int (sta), .int (nx), .int (sp), .int (wr)])), (m3, .inl (ak 0, 16, .inl (upd (gwo) ((nI i : Int32).toNatClampNeg) (x_1))))]) [0, 1] rfl
    have hD9 := hD.sub (ws' := [(h0, .inr (1, [.ref pg, .ref m1, .ref m2, .ref m3, .ref m4, .ref m5, .ref m6, .int (wy), .int (sta), .int (nx), .int (sp), .int (wr)])), (m3, .inl (ak 0, 16, .inl (upd (gwo) ((nI i : Int32).toNatClampNeg) (x_1))))]) [0, 1] (by decide) rfl
    refine W.widen (k := 0) (n := 0) (Nat.le_of_ble_eq_true rfl) (Nat.le_of_ble_eq_true rfl) ?_
    exact W.vret hx hb hr (fun t ht hW => ⟨⟨(upd (gwo) ((nI i : Int32).toNatClampNeg) (x_1)), rfl, (by rw [if_pos (Int32.not_le.mp c_1), nI_clamp (by omega), ex_1]; rfl), by rw [ht]; exact hP9, by rw [hAe]; exact hD9⟩, by rw [hAe]; exact hS.F ht⟩) hS.2.2 dX1_mend_22

set_option maxHeartbeats 4000000 in
set_option maxRecDepth 100000 in
theorem c_X1_joined (l : Launch) (D : va_G) (ak : Nat → ClassId) (ad : Nat → Nat) (sz : Nat) (o : Int32) (a : Int32) (b : Int32)  : Met l yX1_joined wsX1_joined ({ frames := 0, cells := 0, slots := 0, locals := 0 }) (cPre D ak ad [.int (o), .int (a), .int (b)] ([]) sz) (cI D (S := Unit) (fun (r : Int32) (u : Unit) => r = jn o a b) (fun u => []) ([]) sz) 0 0 (va_A ([]) sz) := by
  refine Met.ofW (cc := cX1_joined) (maxL := 3) (ret := (some .int)) (by decide) rfl ?_
  intro p e s m args below meth c s₁ B hml hv
  obtain ⟨rfl, hsz, hP, hE, hD0, hT⟩ := hv
  have hx := B.exec
  have hb := B.bytes
  have hr := B.returns
  have hts := atoms_spec (ws := wsX1_joined) B.pre
  have hown : s.vm.findClass RX1 = some m.cls := findClass_of_methodNamed B.named
  have hlocks := B.notSynchronized
  subst hsz
  have hD := hD0.self (sz := s.heap.size)
  generalize hAe : va_A ([]) s.heap.size = A at hD hT ⊢
  have hA : ∀ q : Nat, s.heap.size ≤ q → A q := fun q h => by rw [← hAe]; exact Or.inr h
  have hS : va_S A s.heap s.heap [] := va_S.rf
  have hl := lv_entry ([.int (o), .int (a), .int (b)]) (n := 3) (Nat.le_of_ble_eq_true rfl)
  rw [lg_entry_eq]
  generalize (lg_sl ([.int (o), .int (a), .int (b)]) ++ List.replicate (3 - (lg_sl ([.int (o), .int (a), .int (b)])).length) Slot.unset).toArray = ls at hl ⊢
  have hl : lv_has ls 3 [(0, .int (o)), (1, .int (a)), (2, .int (b))] := hl
  have hP : va_P D vwCl [] s.heap := hP
  refine lv_iload_n hx hb dX1_joined_0 rfl (lv_at hl 0 rfl) ?_
  by_cases k_1_4 : o = (4 : Int32)
  · refine lv_tableIn (tgt := 40) hx hb dX1_joined_1 (by rw [k_1_4]; decide) (by rw [k_1_4]; decide) (off := 39) (by rw [k_1_4]; rfl) (by decide) ?_
    refine lv_iload_n hx hb dX1_joined_40 rfl (lv_at hl 1 rfl) ?_
    refine lv_if_eq (tgt := 52) hx hb dX1_joined_41 (by decide) (fun c_41 => ?_) (fun c_41 => ?_)
    · refine lv_iconst (v := 0) hx hb dX1_joined_52 (by decide) ?_
      have hP9 := hP.sub (ws' := []) [] rfl
      have hD9 := hD.sub (ws' := []) [] (by decide) rfl
      refine W.widen (k := 0) (n := 0) (Nat.le_of_ble_eq_true rfl) (Nat.le_of_ble_eq_true rfl) ?_
      exact W.iret (v := 0) hx hb hr (fun t ht hW => ⟨⟨0, (()), rfl, (by rw [k_1_4, jn4]; first | rw [if_pos (by first | assumption | exact Or.inl (by assumption) | exact Or.inr (by assumption) | exact ⟨by assumption, by assumption⟩ | exact Int32.not_le.mp (by assumption))] | rw [if_neg (by first | assumption | exact (fun h => h.elim (by assumption) (by assumption)) | exact (fun h => (by assumption : ¬ a = 0) h.1) | exact (fun h => (by assumption : ¬ b = 0) h.2) | exact Int32.not_lt.mpr (by assumption))]), by rw [ht]; exact hP9, by rw [hAe]; exact hD9⟩, by rw [hAe]; exact hS.F ht⟩) hS.2.2 dX1_joined_53
    · refine lv_iload_n hx hb dX1_joined_44 rfl (lv_at hl 2 rfl) ?_
      refine lv_if_eq (tgt := 52) hx hb dX1_joined_45 (by decide) (fun c_45 => ?_) (fun c_45 => ?_)
      · refine lv_iconst (v := 0) hx hb dX1_joined_52 (by decide) ?_
        have hP9 := hP.sub (ws' := []) [] rfl
        have hD9 := hD.sub (ws' := []) [] (by decide) rfl
        refine W.widen (k := 0) (n := 0) (Nat.le_of_ble_eq_true rfl) (Nat.le_of_ble_eq_true rfl) ?_
        exact W.iret (v := 0) hx hb hr (fun t ht hW => ⟨⟨0, (()), rfl, (by rw [k_1_4, jn4]; first | rw [if_pos (by first | assumption | exact Or.inl (by assumption) | exact Or.inr (by assumption) | exact ⟨by assumption, by assumption⟩ | exact Int32.not_le.mp (by assumption))] | rw [if_neg (by first | assumption | exact (fun h => h.elim (by assumption) (by assumption)) | exact (fun h => (by assumption : ¬ a = 0) h.1) | exact (fun h => (by assumption : ¬ b = 0) h.2) | exact Int32.not_lt.mpr (by assumption))]), by rw [ht]; exact hP9, by rw [hAe]; exact hD9⟩, by rw [hAe]; exact hS.F ht⟩) hS.2.2 dX1_joined_53
      · refine lv_iconst (v := 1) hx hb dX1_joined_48 (by decide) ?_
        refine lv_goto (tgt := 53) hx hb dX1_joined_49 (by decide) ?_
        have hP9 := hP.sub (ws' := []) [] rfl
        have hD9 := hD.sub (ws' := []) [] (by decide) rfl
        refine W.widen (k := 0) (n := 0) (Nat.le_of_ble_eq_true rfl) (Nat.le_of_ble_eq_true rfl) ?_
        exact W.iret (v := 1) hx hb hr (fun t ht hW => ⟨⟨1, (()), rfl, (by rw [k_1_4, jn4]; first | rw [if_pos (by first | assumption | exact Or.inl (by assumption) | exact Or.inr (by assumption) | exact ⟨by assumption, by assumption⟩ | exact Int32.not_le.mp (by assumption))] | rw [if_neg (by first | assumption | exact (fun h => h.elim (by assumption) (by assumption)) | exact (fun h => (by assumption : ¬ a = 0) h.1) | exact (fun h => (by assumption : ¬ b = 0) h.2) | exact Int32.not_lt.mpr (by assumption))]), by rw [ht]; exact hP9, by rw [hAe]; exact hD9⟩, by rw [hAe]; exact hS.F ht⟩) hS.2.2 dX1_joined_53
  by_cases k_1_5 : o = (5 : Int32)
  · refine lv_tableIn (tgt := 54) hx hb dX1_joined_1 (by rw [k_1_5]; decide) (by rw [k_1_5]; decide) (off := 53) (by rw [k_1_5]; rfl) (by decide) ?_
    refine lv_iload_n hx hb dX1_joined_54 rfl (lv_at hl 1 rfl) ?_
    refine lv_if_ne (tgt := 62) hx hb dX1_joined_55 (by decide) (fun c_55 => ?_) (fun c_55 => ?_)
    · refine lv_iconst (v := 1) hx hb dX1_joined_62 (by decide) ?_
      refine lv_goto (tgt := 67) hx hb dX1_joined_63 (by decide) ?_
      have hP9 := hP.sub (ws' := []) [] rfl
      have hD9 := hD.sub (ws' := []) [] (by decide) rfl
      refine W.widen (k := 0) (n := 0) (Nat.le_of_ble_eq_true rfl) (Nat.le_of_ble_eq_true rfl) ?_
      exact W.iret (v := 1) hx hb hr (fun t ht hW => ⟨⟨1, (()), rfl, (by rw [k_1_5, jn5]; first | rw [if_pos (by first | assumption | exact Or.inl (by assumption) | exact Or.inr (by assumption) | exact ⟨by assumption, by assumption⟩ | exact Int32.not_le.mp (by assumption))] | rw [if_neg (by first | assumption | exact (fun h => h.elim (by assumption) (by assumption)) | exact (fun h => (by assumption : ¬ a = 0) h.1) | exact (fun h => (by assumption : ¬ b = 0) h.2) | exact Int32.not_lt.mpr (by assumption))]), by rw [ht]; exact hP9, by rw [hAe]; exact hD9⟩, by rw [hAe]; exact hS.F ht⟩) hS.2.2 dX1_joined_67
    · refine lv_iload_n hx hb dX1_joined_58 rfl (lv_at hl 2 rfl) ?_
      refine lv_if_eq (tgt := 66) hx hb dX1_joined_59 (by decide) (fun c_59 => ?_) (fun c_59 => ?_)
      · refine lv_iconst (v := 0) hx hb dX1_joined_66 (by decide) ?_
        have hP9 := hP.sub (ws' := []) [] rfl
        have hD9 := hD.sub (ws' := []) [] (by decide) rfl
        refine W.widen (k := 0) (n := 0) (Nat.le_of_ble_eq_true rfl) (Nat.le_of_ble_eq_true rfl) ?_
        exact W.iret (v := 0) hx hb hr (fun t ht hW => ⟨⟨0, (()), rfl, (by rw [k_1_5, jn5]; first | rw [if_pos (by first | assumption | exact Or.inl (by assumption) | exact Or.inr (by assumption) | exact ⟨by assumption, by assumption⟩ | exact Int32.not_le.mp (by assumption))] | rw [if_neg (by first | assumption | exact (fun h => h.elim (by assumption) (by assumption)) | exact (fun h => (by assumption : ¬ a = 0) h.1) | exact (fun h => (by assumption : ¬ b = 0) h.2) | exact Int32.not_lt.mpr (by assumption))]), by rw [ht]; exact hP9, by rw [hAe]; exact hD9⟩, by rw [hAe]; exact hS.F ht⟩) hS.2.2 dX1_joined_67
      · refine lv_iconst (v := 1) hx hb dX1_joined_62 (by decide) ?_
        refine lv_goto (tgt := 67) hx hb dX1_joined_63 (by decide) ?_
        have hP9 := hP.sub (ws' := []) [] rfl
        have hD9 := hD.sub (ws' := []) [] (by decide) rfl
        refine W.widen (k := 0) (n := 0) (Nat.le_of_ble_eq_true rfl) (Nat.le_of_ble_eq_true rfl) ?_
        exact W.iret (v := 1) hx hb hr (fun t ht hW => ⟨⟨1, (()), rfl, (by rw [k_1_5, jn5]; first | rw [if_pos (by first | assumption | exact Or.inl (by assumption) | exact Or.inr (by assumption) | exact ⟨by assumption, by assumption⟩ | exact Int32.not_le.mp (by assumption))] | rw [if_neg (by first | assumption | exact (fun h => h.elim (by assumption) (by assumption)) | exact (fun h => (by assumption : ¬ a = 0) h.1) | exact (fun h => (by assumption : ¬ b = 0) h.2) | exact Int32.not_lt.mpr (by assumption))]), by rw [ht]; exact hP9, by rw [hAe]; exact hD9⟩, by rw [hAe]; exact hS.F ht⟩) hS.2.2 dX1_joined_67
  by_cases k_1_6 : o = (6 : Int32)
  · refine lv_tableIn (tgt := 68) hx hb dX1_joined_1 (by rw [k_1_6]; decide) (by rw [k_1_6]; decide) (off := 67) (by rw [k_1_6]; rfl) (by decide) ?_
    refine lv_iload_n hx hb dX1_joined_68 rfl (lv_at hl 1 rfl) ?_
    refine lv_iload_n hx hb dX1_joined_69 rfl (lv_at hl 2 rfl) ?_
    refine lv_icmp_ge (tgt := 77) hx hb dX1_joined_70 (by decide) (fun c_70 => ?_) (fun c_70 => ?_)
    · refine lv_iconst (v := 0) hx hb dX1_joined_77 (by decide) ?_
      have hP9 := hP.sub (ws' := []) [] rfl
      have hD9 := hD.sub (ws' := []) [] (by decide) rfl
      refine W.widen (k := 0) (n := 0) (Nat.le_of_ble_eq_true rfl) (Nat.le_of_ble_eq_true rfl) ?_
      exact W.iret (v := 0) hx hb hr (fun t ht hW => ⟨⟨0, (()), rfl, (by rw [k_1_6, jn6]; first | rw [if_pos (by first | assumption | exact Or.inl (by assumption) | exact Or.inr (by assumption) | exact ⟨by assumption, by assumption⟩ | exact Int32.not_le.mp (by assumption))] | rw [if_neg (by first | assumption | exact (fun h => h.elim (by assumption) (by assumption)) | exact (fun h => (by assumption : ¬ a = 0) h.1) | exact (fun h => (by assumption : ¬ b = 0) h.2) | exact Int32.not_lt.mpr (by assumption))]), by rw [ht]; exact hP9, by rw [hAe]; exact hD9⟩, by rw [hAe]; exact hS.F ht⟩) hS.2.2 dX1_joined_78
    · refine lv_iconst (v := 1) hx hb dX1_joined_73 (by decide) ?_
      refine lv_goto (tgt := 78) hx hb dX1_joined_74 (by decide) ?_
      have hP9 := hP.sub (ws' := []) [] rfl
      have hD9 := hD.sub (ws' := []) [] (by decide) rfl
      refine W.widen (k := 0) (n := 0) (Nat.le_of_ble_eq_true rfl) (Nat.le_of_ble_eq_true rfl) ?_
      exact W.iret (v := 1) hx hb hr (fun t ht hW => ⟨⟨1, (()), rfl, (by rw [k_1_6, jn6]; first | rw [if_pos (by first | assumption | exact Or.inl (by assumption) | exact Or.inr (by assumption) | exact ⟨by assumption, by assumption⟩ | exact Int32.not_le.mp (by assumption))] | rw [if_neg (by first | assumption | exact (fun h => h.elim (by assumption) (by assumption)) | exact (fun h => (by assumption : ¬ a = 0) h.1) | exact (fun h => (by assumption : ¬ b = 0) h.2) | exact Int32.not_lt.mpr (by assumption))]), by rw [ht]; exact hP9, by rw [hAe]; exact hD9⟩, by rw [hAe]; exact hS.F ht⟩) hS.2.2 dX1_joined_78
  by_cases k_1_7 : o = (7 : Int32)
  · refine lv_tableIn (tgt := 79) hx hb dX1_joined_1 (by rw [k_1_7]; decide) (by rw [k_1_7]; decide) (off := 78) (by rw [k_1_7]; rfl) (by decide) ?_
    refine lv_iload_n hx hb dX1_joined_79 rfl (lv_at hl 1 rfl) ?_
    refine lv_iload_n hx hb dX1_joined_80 rfl (lv_at hl 2 rfl) ?_
    refine lv_icmp_ne (tgt := 88) hx hb dX1_joined_81 (by decide) (fun c_81 => ?_) (fun c_81 => ?_)
    · refine lv_iconst (v := 0) hx hb dX1_joined_88 (by decide) ?_
      have hP9 := hP.sub (ws' := []) [] rfl
      have hD9 := hD.sub (ws' := []) [] (by decide) rfl
      refine W.widen (k := 0) (n := 0) (Nat.le_of_ble_eq_true rfl) (Nat.le_of_ble_eq_true rfl) ?_
      exact W.iret (v := 0) hx hb hr (fun t ht hW => ⟨⟨0, (()), rfl, (by rw [k_1_7, jn7]; first | rw [if_pos (by first | assumption | exact Or.inl (by assumption) | exact Or.inr (by assumption) | exact ⟨by assumption, by assumption⟩ | exact Int32.not_le.mp (by assumption))] | rw [if_neg (by first | assumption | exact (fun h => h.elim (by assumption) (by assumption)) | exact (fun h => (by assumption : ¬ a = 0) h.1) | exact (fun h => (by assumption : ¬ b = 0) h.2) | exact Int32.not_lt.mpr (by assumption))]), by rw [ht]; exact hP9, by rw [hAe]; exact hD9⟩, by rw [hAe]; exact hS.F ht⟩) hS.2.2 dX1_joined_89
    · refine lv_iconst (v := 1) hx hb dX1_joined_84 (by decide) ?_
      refine lv_goto (tgt := 89) hx hb dX1_joined_85 (by decide) ?_
      have hP9 := hP.sub (ws' := []) [] rfl
      have hD9 := hD.sub (ws' := []) [] (by decide) rfl
      refine W.widen (k := 0) (n := 0) (Nat.le_of_ble_eq_true rfl) (Nat.le_of_ble_eq_true rfl) ?_
      exact W.iret (v := 1) hx hb hr (fun t ht hW => ⟨⟨1, (()), rfl, (by rw [k_1_7, jn7]; first | rw [if_pos (by first | assumption | exact Or.inl (by assumption) | exact Or.inr (by assumption) | exact ⟨by assumption, by assumption⟩ | exact Int32.not_le.mp (by assumption))] | rw [if_neg (by first | assumption | exact (fun h => h.elim (by assumption) (by assumption)) | exact (fun h => (by assumption : ¬ a = 0) h.1) | exact (fun h => (by assumption : ¬ b = 0) h.2) | exact Int32.not_lt.mpr (by assumption))]), by rw [ht]; exact hP9, by rw [hAe]; exact hD9⟩, by rw [hAe]; exact hS.F ht⟩) hS.2.2 dX1_joined_89
  by_cases k_1_8 : o = (8 : Int32)
  · refine lv_tableIn (tgt := 90) hx hb dX1_joined_1 (by rw [k_1_8]; decide) (by rw [k_1_8]; decide) (off := 89) (by rw [k_1_8]; rfl) (by decide) ?_
    refine lv_iload_n hx hb dX1_joined_90 rfl (lv_at hl 1 rfl) ?_
    refine lv_iload_n hx hb dX1_joined_91 rfl (lv_at hl 2 rfl) ?_
    refine lv_iadd hx hb dX1_joined_92 ?_
    have hP9 := hP.sub (ws' := []) [] rfl
    have hD9 := hD.sub (ws' := []) [] (by decide) rfl
    refine W.widen (k := 0) (n := 0) (Nat.le_of_ble_eq_true rfl) (Nat.le_of_ble_eq_true rfl) ?_
    exact W.iret (v := (a) + (b)) hx hb hr (fun t ht hW => ⟨⟨(a) + (b), (()), rfl, (by rw [k_1_8, jn8]), by rw [ht]; exact hP9, by rw [hAe]; exact hD9⟩, by rw [hAe]; exact hS.F ht⟩) hS.2.2 dX1_joined_93
  by_cases k_1_9 : o = (9 : Int32)
  · refine lv_tableIn (tgt := 94) hx hb dX1_joined_1 (by rw [k_1_9]; decide) (by rw [k_1_9]; decide) (off := 93) (by rw [k_1_9]; rfl) (by decide) ?_
    refine lv_iload_n hx hb dX1_joined_94 rfl (lv_at hl 1 rfl) ?_
    refine lv_iload_n hx hb dX1_joined_95 rfl (lv_at hl 2 rfl) ?_
    refine lv_isub hx hb dX1_joined_96 ?_
    have hP9 := hP.sub (ws' := []) [] rfl
    have hD9 := hD.sub (ws' := []) [] (by decide) rfl
    refine W.widen (k := 0) (n := 0) (Nat.le_of_ble_eq_true rfl) (Nat.le_of_ble_eq_true rfl) ?_
    exact W.iret (v := (a) - (b)) hx hb hr (fun t ht hW => ⟨⟨(a) - (b), (()), rfl, (by rw [k_1_9, jn9]), by rw [ht]; exact hP9, by rw [hAe]; exact hD9⟩, by rw [hAe]; exact hS.F ht⟩) hS.2.2 dX1_joined_97
  have hout : (o : Int32).toInt < 4 ∨ 9 < (o : Int32).toInt := tsw_out _ 4 9 (by intro j h1 h2; have hj : j = 4 ∨ j = 5 ∨ j = 6 ∨ j = 7 ∨ j = 8 ∨ j = 9 := (by omega); rcases hj with rfl | rfl | rfl | rfl | rfl | rfl <;> first | exact lv_neT k_1_4 rfl | exact lv_neT k_1_5 rfl | exact lv_neT k_1_6 rfl | exact lv_neT k_1_7 rfl | exact lv_neT k_1_8 rfl | exact lv_neT k_1_9 rfl)
  refine lv_tableOut (tgt := 98) hx hb dX1_joined_1 hout (by decide) ?_
  refine lv_iload_n hx hb dX1_joined_98 rfl (lv_at hl 1 rfl) ?_
  refine lv_iload_n hx hb dX1_joined_99 rfl (lv_at hl 2 rfl) ?_
  refine lv_imul hx hb dX1_joined_100 ?_
  have hP9 := hP.sub (ws' := []) [] rfl
  have hD9 := hD.sub (ws' := []) [] (by decide) rfl
  refine W.widen (k := 0) (n := 0) (Nat.le_of_ble_eq_true rfl) (Nat.le_of_ble_eq_true rfl) ?_
  exact W.iret (v := (a) * (b)) hx hb hr (fun t ht hW => ⟨⟨(a) * (b), (()), rfl, (by rw [jn, if_neg k_1_4, if_neg k_1_5, if_neg k_1_6, if_neg k_1_7, if_neg k_1_8, if_neg k_1_9]), by rw [ht]; exact hP9, by rw [hAe]; exact hD9⟩, by rw [hAe]; exact hS.F ht⟩) hS.2.2 dX1_joined_101
