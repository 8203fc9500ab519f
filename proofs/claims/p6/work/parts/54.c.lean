theorem dJ7_copyOf_59c91_0 : decode cJ7_copyOf_59c91 0 = .ok (.iload_n 1, 1) := by decide +kernel
theorem dJ7_copyOf_59c91_1 : decode cJ7_copyOf_59c91 1 = .ok (.aload_n 0, 1) := by decide +kernel
theorem dJ7_copyOf_59c91_2 : decode cJ7_copyOf_59c91 2 = .ok (.arraylength, 1) := by decide +kernel
theorem dJ7_copyOf_59c91_3 : decode cJ7_copyOf_59c91 3 = .ok (.if_icmp .ne 11, 3) := by decide +kernel
theorem dJ7_copyOf_59c91_14 : decode cJ7_copyOf_59c91 14 = .ok (.iload_n 1, 1) := by decide +kernel
theorem dJ7_copyOf_59c91_15 : decode cJ7_copyOf_59c91 15 = .ok (.newarray .int, 2) := by decide +kernel
theorem dJ7_copyOf_59c91_17 : decode cJ7_copyOf_59c91 17 = .ok (.astore_n 2, 1) := by decide +kernel
theorem dJ7_copyOf_59c91_18 : decode cJ7_copyOf_59c91 18 = .ok (.aload_n 0, 1) := by decide +kernel
theorem dJ7_copyOf_59c91_19 : decode cJ7_copyOf_59c91 19 = .ok (.iconst 0, 1) := by decide +kernel
theorem dJ7_copyOf_59c91_20 : decode cJ7_copyOf_59c91 20 = .ok (.aload_n 2, 1) := by decide +kernel
theorem dJ7_copyOf_59c91_21 : decode cJ7_copyOf_59c91 21 = .ok (.iconst 0, 1) := by decide +kernel
theorem dJ7_copyOf_59c91_22 : decode cJ7_copyOf_59c91 22 = .ok (.aload_n 0, 1) := by decide +kernel
theorem dJ7_copyOf_59c91_23 : decode cJ7_copyOf_59c91 23 = .ok (.arraylength, 1) := by decide +kernel
theorem dJ7_copyOf_59c91_24 : decode cJ7_copyOf_59c91 24 = .ok (.iload_n 1, 1) := by decide +kernel
theorem dJ7_copyOf_59c91_25 : decode cJ7_copyOf_59c91 25 = .ok (.invokestatic 304, 3) := by decide +kernel
theorem dJ7_copyOf_59c91_28 : decode cJ7_copyOf_59c91 28 = .ok (.invokestatic 150, 3) := by decide +kernel
theorem dJ7_copyOf_59c91_31 : decode cJ7_copyOf_59c91 31 = .ok (.aload_n 2, 1) := by decide +kernel
theorem dJ7_copyOf_59c91_32 : decode cJ7_copyOf_59c91 32 = .ok (.areturn, 1) := by decide +kernel
theorem cp_min {xn : Int32} (hm : xn.toNatClampNeg < 1000) : (if xn < (1000 : Int32) then xn else 1000) = xn := by
  rw [if_pos]
  apply Int32.not_le.mp
  intro h
  have h1 := Int32.le_iff_toInt_le.mp h
  have h2 : (1000 : Int32).toInt = 1000 := rfl
  have h3 : xn.toNatClampNeg = xn.toInt.toNat := rfl
  omega
set_option maxHeartbeats 4000000 in
set_option maxRecDepth 100000 in
theorem c_J7_copyOf (l : Launch) (D : va_G) (ak : Nat → ClassId) (ad : Nat → Nat) (sz : Nat) (ra : Nat) (Ar : Nat → Int32) (xn : Int32) (hn : ¬ xn < 0) (hm : xn.toNatClampNeg < 1000) : Met l yJ7_copyOf_59c91 wsJ7_copyOf_59c91 ({ frames := 1, cells := 1, slots := 1000, locals := 60 }) (cPre D ak ad [.ref ra, .int xn] ([(ra, .inl (ak 0, 1000, .inl Ar))]) sz) (cR D (S := Unit) (fun _ => True) (fun _ q => [(ra, .inl (ak 0, 1000, .inl Ar)), (q, .inl (ak 0, xn.toNatClampNeg, .inl (va_cpy Ar (fun _ => 0) 0 0 xn.toNatClampNeg)))]) ([(ra, .inl (ak 0, 1000, .inl Ar))]) sz) 1 1000 (va_A ([(ra, .inl (ak 0, 1000, .inl Ar))]) sz) := by
  refine Met.ofW (cc := cJ7_copyOf_59c91) (maxL := 3) (ret := (some (.array .int))) (by decide) rfl ?_
  intro p e s m args below meth c s₁ B hml hv
  obtain ⟨rfl, hsz, hP, hE, hD0, hT⟩ := hv
  have hx := B.exec
  have hb := B.bytes
  have hr := B.returns
  have hts := atoms_spec (ws := wsJ7_copyOf_59c91) B.pre
  have hown : s.vm.findClass RJ7 = some m.cls := findClass_of_methodNamed B.named
  have hlocks := B.notSynchronized
  subst hsz
  have hD := hD0.self (sz := s.heap.size)
  generalize hAe : va_A ([(ra, .inl (ak 0, 1000, .inl Ar))]) s.heap.size = A at hD hT ⊢
  have hA : ∀ q : Nat, s.heap.size ≤ q → A q := fun q h => by rw [← hAe]; exact Or.inr h
  have hS : va_S A s.heap s.heap [] := va_S.rf
  have hl := lv_entry ([.ref ra, .int xn]) (n := 3) (Nat.le_of_ble_eq_true rfl)
  rw [lg_entry_eq]
  generalize (lg_sl ([.ref ra, .int xn]) ++ List.replicate (3 - (lg_sl ([.ref ra, .int xn])).length) Slot.unset).toArray = ls at hl ⊢
  have hl : lv_has ls 3 [(0, .ref ra), (1, .int xn)] := hl
  refine lv_iload_n hx hb dJ7_copyOf_59c91_0 rfl (lv_at hl 1 rfl) ?_
  refine lv_aload_n hx hb dJ7_copyOf_59c91_1 rfl (lv_at hl 0 rfl) ?_
  refine va_alen hx hb hE.1 hP 0 0 rfl rfl (v := 1000) rfl dJ7_copyOf_59c91_2 ?_
  refine lv_icmp_ne (tgt := 14) hx hb dJ7_copyOf_59c91_3 (by decide) (fun c_3 => ?_) (fun c_3 => absurd hm (by rw [c_3]; decide))
  refine lv_iload_n hx hb dJ7_copyOf_59c91_14 rfl (lv_at hl 1 rfl) ?_
  refine kn_a (atype := .int) (ty := .int) (a0 := (xn.toNatClampNeg, .inl (fun _ => 0))) (N' := xn.toNatClampNeg) hx hb (hts (.arrayClass .int) (wm_c hw_267)) hE 0 rfl rfl (fun _ h => h) hP hD hS hA (fun cA => vp_cell_i cA _ (fun _ => 0)) hn rfl (by show xn.toNatClampNeg * 4 ≤ 536870912; omega) (Nat.le_of_ble_eq_true rfl) (by show 0 + xn.toNatClampNeg ≤ 1000; omega) dJ7_copyOf_59c91_15 (fun q H hP hD hS => ?_)
  refine W.widen (k := 1) (n := 1000) (Nat.le_of_ble_eq_true rfl) (by show 0 + xn.toNatClampNeg ≤ 1000; omega) ?_
  have hP : va_P D vwCl [(ra, .inl (ak 0, 1000, .inl Ar)), (q, .inl (ak 0, xn.toNatClampNeg, .inl (fun _ => 0)))] H := hP
  have hD : va_D A [(ra, .inl (ak 0, 1000, .inl Ar)), (q, .inl (ak 0, xn.toNatClampNeg, .inl (fun _ => 0)))] := hD
  refine lv_astore_n (lv' := [(2, .ref q), (0, .ref ra), (1, .int xn)]) hx hb dJ7_copyOf_59c91_17 rfl hl (by decide) rfl (fun ls hl => ?_)
  refine lv_aload_n hx hb dJ7_copyOf_59c91_18 rfl (lv_at hl 1 rfl) ?_
  refine lv_iconst (v := 0) hx hb dJ7_copyOf_59c91_19 (by decide) ?_
  refine lv_aload_n hx hb dJ7_copyOf_59c91_20 rfl (lv_at hl 0 rfl) ?_
  refine lv_iconst (v := 0) hx hb dJ7_copyOf_59c91_21 (by decide) ?_
  refine lv_aload_n hx hb dJ7_copyOf_59c91_22 rfl (lv_at hl 1 rfl) ?_
  refine va_alen hx hb hE.1 hP 0 0 rfl rfl (v := 1000) rfl dJ7_copyOf_59c91_23 ?_
  refine lv_iload_n hx hb dJ7_copyOf_59c91_24 rfl (lv_at hl 2 rfl) ?_
  refine va_mmin hx hb (by rw [hml]; exact hl.1.symm) hown (hts (.methodLink RJ7 304 Lib.Math.min.name) (wm_c hw_509)) (hts (.static Lib.Math.min.name) (wm_c hw_217)) (hts (.initialized "java/lang/Math") (wm_c hw_184)) (hts (.code Lib.Math.min.name Lib.Math.min.code 2 (some .int)) (wm_c hw_218)) (Nat.le_of_ble_eq_true rfl) (Nat.le_of_ble_eq_true rfl) (Nat.le_of_ble_eq_true rfl) (Nat.le_of_ble_eq_true rfl) dJ7_copyOf_59c91_25 ?_
  refine W.eq (g2 := F0 m 28 ls (.int xn :: .int 0 :: .ref q :: .int 0 :: .ref ra :: [])) (by rw [cp_min hm]) ?_
  refine va_copyi hx hb (by rw [hml]; exact hl.1.symm) hown (hts (.methodLink RJ7 150 arraycopyName) (wm_c hw_510)) (hts (.native arraycopyName) (wm_c hw_366)) (hts (.static arraycopyName) (wm_c hw_367)) (hts (.initialized "java/lang/System") (wm_c hw_368)) hE.1 hP hD hS 0 1 0 0 rfl rfl rfl rfl rfl (by decide) (by decide) hn (by rw [show (0 : Int32).toNatClampNeg = 0 from rfl, Nat.zero_add]; omega) (by rw [show (0 : Int32).toNatClampNeg = 0 from rfl, Nat.zero_add]; exact Nat.le_refl _) (fun _ _ => rfl) (Nat.le_of_ble_eq_true rfl) (Nat.le_of_ble_eq_true rfl) dJ7_copyOf_59c91_28 (fun H locs hP hD hS => ?_)
  refine lv_aload_n hx hb dJ7_copyOf_59c91_31 rfl (lv_at hl 0 rfl) ?_
  have hP : va_P D vwCl [(ra, .inl (ak 0, 1000, .inl Ar)), (q, .inl (ak 0, xn.toNatClampNeg, .inl (va_cpy Ar (fun _ => 0) 0 0 xn.toNatClampNeg)))] H := hP
  have hD : va_D A [(ra, .inl (ak 0, 1000, .inl Ar)), (q, .inl (ak 0, xn.toNatClampNeg, .inl (va_cpy Ar (fun _ => 0) 0 0 xn.toNatClampNeg)))] := hD
  exact W.aret (v := .ref q) hx hb hr (Or.inr ⟨_, rfl⟩) (Or.inr ⟨_, rfl⟩) (fun t ht hW => ⟨⟨(), q, rfl, trivial, by rw [ht]; exact hP, by rw [hAe]; exact hD⟩, by rw [hAe]; exact hS.F ht⟩) hS.2.2 dJ7_copyOf_59c91_32
