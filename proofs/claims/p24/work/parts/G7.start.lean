theorem st_arr {s : State} {args : Array Value} {ty : FieldType} (h : (Cond.arrayClass ty).before args s = true) : ∃ cA : ClassId, ArrOfT s cA ty ∧ s.vm.findClass ("[" ++ ty.toString) = some cA := by
  obtain ⟨c, k, comp, h1, h2, h3⟩ := Cond.arrayClass_spec h
  exact ⟨c, fun n z => ⟨fun k h => (by cases h), k, h2, comp, h3⟩, h1⟩
theorem st_obj {s : State} {args : Array Value} {C : String} (h : (Cond.arrayOver (.object C)).before args s = true) : ∃ cA : ClassId, ArrOfT s cA (.object C) ∧ va_RA s cA (.object C) := by
  obtain ⟨comp, c, k, h1, h2, h3, h4, h5⟩ := Cond.arrayOver_spec h
  exact ⟨c, fun n z => ⟨fun k h => (by cases h), k, h3, comp, h4⟩, k, comp, h3, h4, h1, h5⟩
set_option maxHeartbeats 4000000 in
set_option maxRecDepth 20000 in
theorem st_ev {s : State} {args : Array Value} (hts : ∀ w ∈ lw_tbl, w.before args s = true) : ∃ (D : va_G) (ak : Nat → ClassId), EV D ak s := by
  obtain ⟨c0, i0, hK0⟩ := u_known (C := RX0) (T := TX0) (N := 5) (n := 5) hts (fun w h => (gw_X0 w h).1) (hts (.instantiable RX0 5) (lwAt_mem (i := 2050) rfl))
  obtain ⟨c1, i1, hK1⟩ := u_known (C := RX1) (T := TX1) (N := 12) (n := 12) hts (fun w h => (gw_X1 w h).1) (hts (.instantiable RX1 12) (lwAt_mem (i := 1200) rfl))
  obtain ⟨c2, i2, hK2⟩ := u_known (C := RX2) (T := TX2) (N := 17) (n := 17) hts (fun w h => (gw_X2 w h).1) (hts (.instantiable RX2 17) (lwAt_mem (i := 1063) rfl))
  obtain ⟨c3, i3, hK3⟩ := u_known (C := RX3) (T := TX3) (N := 11) (n := 11) hts (fun w h => (gw_X3 w h).1) (hts (.instantiable RX3 11) (lwAt_mem (i := 1157) rfl))
  obtain ⟨c4, i4, hK4⟩ := u_known (C := RX4) (T := TX4) (N := 6) (n := 6) hts (fun w h => (gw_X4 w h).1) (hts (.instantiable RX4 6) (lwAt_mem (i := 2019) rfl))
  obtain ⟨c5, i5, hK5⟩ := u_known (C := RX5) (T := TX5) (N := 6) (n := 6) hts (fun w h => (gw_X5 w h).1) (hts (.instantiable RX5 6) (lwAt_mem (i := 1027) rfl))
  obtain ⟨c6, i6, hK6⟩ := u_known (C := RX7) (T := TX7) (N := 10) (n := 10) hts (fun w h => (gw_X7 w h).1) (hts (.instantiable RX7 10) (lwAt_mem (i := 1019) rfl))
  obtain ⟨c7, i7, hK7⟩ := u_known (C := RX8) (T := TX8) (N := 69) (n := 69) hts (fun w h => (gw_X8 w h).1) (hts (.instantiable RX8 69) (lwAt_mem (i := 4139) rfl))
  obtain ⟨cI, aI, nI_⟩ := st_arr (hts (.arrayClass .int) (lwAt_mem (i := 1060) rfl))
  obtain ⟨cJ, aJ, nJ⟩ := st_arr (hts (.arrayClass .long) (lwAt_mem (i := 1061) rfl))
  obtain ⟨cC, aC, nC⟩ := st_arr (hts (.arrayClass .char) (lwAt_mem (i := 1059) rfl))
  obtain ⟨cZ, aZ, nZ⟩ := st_arr (hts (.arrayClass .boolean) (lwAt_mem (i := 2048) rfl))
  obtain ⟨cT, aT, rT⟩ := st_obj (C := RX6) (hts (.arrayOver (.object RX6)) (lwAt_mem (i := 1033) rfl))
  obtain ⟨cM, aM, rM⟩ := st_obj (C := RX1) (hts (.arrayOver (.object RX1)) (lwAt_mem (i := 2017) rfl))
  obtain ⟨cI2, cG, kG, hI, hkG, hkindG, hG⟩ := gd_over (hts (.arrayOver (.array .int)) (lwAt_mem (i := 2056) rfl))
  have eI : cI2 = cI := Option.some.inj (hI.symm.trans nI_)
  subst eI
  refine ⟨(fun k => match k with | 0 => c0 | 1 => c1 | 2 => c2 | 3 => c3 | 4 => c4 | 5 => c5 | 6 => c6 | _ => c7, fun k => match k with | 0 => i0 | 1 => i1 | 2 => i2 | 3 => i3 | 4 => i4 | 5 => i5 | 6 => i6 | _ => i7), fun k => match k with | 0 => cI2 | 1 => cJ | 2 => cC | 3 => cZ | 4 => cT | 5 => cM | _ => cG, ⟨?_, ?_⟩, (hts (.arrayOver (.object RX6)) (lwAt_mem (i := 1033) rfl)), (hts (.arrayOver (.object RX1)) (lwAt_mem (i := 2017) rfl)), ?_, va_Nw.of rfl (hts (.fieldLinkNest RX5 78 RX7 "TOKENS" "[LWornLines$Token;" RX7) (lwAt_mem (i := 2147) rfl)), kG, hkG, hkindG⟩
  · intro k q hq
    match k, hq with
    | 0, hq => cases hq; exact hK0
    | 1, hq => cases hq; exact hK1
    | 2, hq => cases hq; exact hK2
    | 3, hq => cases hq; exact hK3
    | 4, hq => cases hq; exact hK4
    | 5, hq => cases hq; exact hK5
    | 6, hq => cases hq; exact hK6
    | 7, hq => cases hq; exact hK7
    | k + 8, hq => simp [vwCl] at hq
  · intro k q hq
    match k, hq with
    | 0, hq => cases hq; exact ⟨aI, nI_⟩
    | 1, hq => cases hq; exact ⟨aJ, nJ⟩
    | 2, hq => cases hq; exact ⟨aC, nC⟩
    | 3, hq => cases hq; exact ⟨aZ, nZ⟩
    | 4, hq => cases hq; exact ⟨aT, rT⟩
    | 5, hq => cases hq; exact ⟨aM, rM⟩
    | 6, hq => cases hq; exact ⟨fun n z => ⟨fun k h => (by cases h), kG, hkG, cI2, hkindG⟩, hG⟩
    | k + 7, hq => simp [AT] at hq
  · exact List.forall_mem_cons.mpr ⟨va_Nw.of rfl (hts (.methodLinkNest RX7 9 yX5_init RX7) (lwAt_mem (i := 1028) rfl)), List.forall_mem_cons.mpr ⟨va_Nw.of rfl (hts (.methodLinkNest RX7 18 yX2_init RX7) (lwAt_mem (i := 1064) rfl)), List.forall_mem_cons.mpr ⟨va_Nw.of rfl (hts (.methodLinkNest RX7 57 yX4_init RX7) (lwAt_mem (i := 2020) rfl)), List.forall_mem_cons.mpr ⟨va_Nw.of rfl (hts (.methodLinkNest RX1 95 yX7_within RX7) (lwAt_mem (i := 3134) rfl)), List.forall_mem_cons.mpr ⟨va_Nw.of rfl (hts (.methodLinkNest RX3 50 yX2_init RX7) (lwAt_mem (i := 2162) rfl)), List.forall_mem_cons.mpr ⟨va_Nw.of rfl (hts (.methodLinkNest RX4 62 yX7_within RX7) (lwAt_mem (i := 3208) rfl)), fun w hw => by cases hw⟩⟩⟩⟩⟩⟩
theorem st_q1 : ∀ i, i < 31 → Cond.laysStatic RX6 (tkN.getD i "") "LWornLines$Token;" ∈ lw_tbl := by
  intro i hi
  match i, hi with
  | 0, _ => exact lwAt_mem (i := 1163) rfl
  | 1, _ => exact lwAt_mem (i := 2141) rfl
  | 2, _ => exact lwAt_mem (i := 2159) rfl
  | 3, _ => exact lwAt_mem (i := 2143) rfl
  | 4, _ => exact lwAt_mem (i := 3024) rfl
  | 5, _ => exact lwAt_mem (i := 3034) rfl
  | 6, _ => exact lwAt_mem (i := 3042) rfl
  | 7, _ => exact lwAt_mem (i := 6237) rfl
  | 8, _ => exact lwAt_mem (i := 6238) rfl
  | 9, _ => exact lwAt_mem (i := 6239) rfl
  | 10, _ => exact lwAt_mem (i := 7000) rfl
  | 11, _ => exact lwAt_mem (i := 7001) rfl
  | 12, _ => exact lwAt_mem (i := 2168) rfl
  | 13, _ => exact lwAt_mem (i := 2187) rfl
  | 14, _ => exact lwAt_mem (i := 2202) rfl
  | 15, _ => exact lwAt_mem (i := 2204) rfl
  | 16, _ => exact lwAt_mem (i := 2210) rfl
  | 17, _ => exact lwAt_mem (i := 2235) rfl
  | 18, _ => exact lwAt_mem (i := 3040) rfl
  | 19, _ => exact lwAt_mem (i := 3038) rfl
  | 20, _ => exact lwAt_mem (i := 7002) rfl
  | 21, _ => exact lwAt_mem (i := 7003) rfl
  | 22, _ => exact lwAt_mem (i := 3036) rfl
  | 23, _ => exact lwAt_mem (i := 7004) rfl
  | 24, _ => exact lwAt_mem (i := 7005) rfl
  | 25, _ => exact lwAt_mem (i := 7006) rfl
  | 26, _ => exact lwAt_mem (i := 7007) rfl
  | 27, _ => exact lwAt_mem (i := 3026) rfl
  | 28, _ => exact lwAt_mem (i := 3028) rfl
  | 29, _ => exact lwAt_mem (i := 7008) rfl
  | 30, _ => exact lwAt_mem (i := 7009) rfl
  | i + 31, hi => exact absurd hi (by omega)
theorem st_p2 : ∀ i, i < 31 → (flatC (Jvm.Cond.and given_1 narrow_1))[([4, 10, 58, 16, 100, 118, 142, 150, 156, 162, 168, 174, 64, 70, 76, 82, 88, 94, 136, 130, 180, 186, 124, 192, 198, 204, 210, 106, 112, 216, 222] : List Nat).getD i 0]? = some (Cond.exactly (.static RX6 (tkN.getD i "") "LWornLines$Token;") RX6) := by decide +kernel
theorem st_q2 : ∀ i, i < 31 → Cond.exactly (.static RX6 (tkN.getD i "") "LWornLines$Token;") RX6 ∈ flatC (Jvm.Cond.and given_1 narrow_1) := fun i hi => List.mem_of_getElem? (st_p2 i hi)
theorem st_p3 : ∀ i, i < 31 → (flatC (Jvm.Cond.and given_1 narrow_1))[([5, 11, 59, 17, 101, 119, 143, 151, 157, 163, 169, 175, 65, 71, 77, 83, 89, 95, 137, 131, 181, 187, 125, 193, 199, 205, 211, 107, 113, 217, 223] : List Nat).getD i 0]? = some (Cond.eq (.field (.static RX6 (tkN.getD i "") "LWornLines$Token;") "java/lang/Enum" "ordinal" "I") (.int (nI i))) := by decide +kernel
theorem st_q3 : ∀ i, i < 31 → Cond.eq (.field (.static RX6 (tkN.getD i "") "LWornLines$Token;") "java/lang/Enum" "ordinal" "I") (.int (nI i)) ∈ flatC (Jvm.Cond.and given_1 narrow_1) := fun i hi => List.mem_of_getElem? (st_p3 i hi)
theorem st_p4 : ∀ i, i < 31 → (flatC (Jvm.Cond.and given_1 narrow_1))[([6, 12, 60, 18, 102, 120, 144, 152, 158, 164, 170, 176, 66, 72, 78, 84, 90, 96, 138, 132, 182, 188, 126, 194, 200, 206, 212, 108, 114, 218, 224] : List Nat).getD i 0]? = some (Cond.eq (.field (.static RX6 (tkN.getD i "") "LWornLines$Token;") RX6 "spelling" "J") (.long (tkS i))) := by decide +kernel
theorem st_q4 : ∀ i, i < 31 → Cond.eq (.field (.static RX6 (tkN.getD i "") "LWornLines$Token;") RX6 "spelling" "J") (.long (tkS i)) ∈ flatC (Jvm.Cond.and given_1 narrow_1) := fun i hi => List.mem_of_getElem? (st_p4 i hi)
theorem st_p5 : ∀ i, i < 31 → (flatC (Jvm.Cond.and given_1 narrow_1))[([7, 13, 61, 19, 103, 121, 145, 153, 159, 165, 171, 177, 67, 73, 79, 85, 91, 97, 139, 133, 183, 189, 127, 195, 201, 207, 213, 109, 115, 219, 225] : List Nat).getD i 0]? = some (Cond.eq (.field (.static RX6 (tkN.getD i "") "LWornLines$Token;") RX6 "level" "I") (.int (tkL i))) := by decide +kernel
theorem st_q5 : ∀ i, i < 31 → Cond.eq (.field (.static RX6 (tkN.getD i "") "LWornLines$Token;") RX6 "level" "I") (.int (tkL i)) ∈ flatC (Jvm.Cond.and given_1 narrow_1) := fun i hi => List.mem_of_getElem? (st_p5 i hi)
theorem st_p6 : ∀ i, i < 31 → (flatC (Jvm.Cond.and given_1 narrow_1))[([8, 14, 62, 20, 104, 122, 146, 154, 160, 166, 172, 178, 68, 74, 80, 86, 92, 98, 140, 134, 184, 190, 128, 196, 202, 208, 214, 110, 116, 220, 226] : List Nat).getD i 0]? = some (Cond.eq (.field (.static RX6 (tkN.getD i "") "LWornLines$Token;") RX6 "operation" "I") (.int (tkO i))) := by decide +kernel
theorem st_q6 : ∀ i, i < 31 → Cond.eq (.field (.static RX6 (tkN.getD i "") "LWornLines$Token;") RX6 "operation" "I") (.int (tkO i)) ∈ flatC (Jvm.Cond.and given_1 narrow_1) := fun i hi => List.mem_of_getElem? (st_p6 i hi)
theorem st_p7 : ∀ i, i < 31 → (flatC (Jvm.Cond.and given_1 narrow_1))[([9, 15, 63, 21, 105, 123, 147, 155, 161, 167, 173, 179, 69, 75, 81, 87, 93, 99, 141, 135, 185, 191, 129, 197, 203, 209, 215, 111, 117, 221, 227] : List Nat).getD i 0]? = some (Cond.eq (.field (.static RX6 (tkN.getD i "") "LWornLines$Token;") RX6 "act" "I") (.int (tkA i))) := by decide +kernel
theorem st_q7 : ∀ i, i < 31 → Cond.eq (.field (.static RX6 (tkN.getD i "") "LWornLines$Token;") RX6 "act" "I") (.int (tkA i)) ∈ flatC (Jvm.Cond.and given_1 narrow_1) := fun i hi => List.mem_of_getElem? (st_p7 i hi)
theorem st_p8 : ∀ i, i < 31 → (flatC (Jvm.Cond.and given_1 narrow_1))[([27, 28, 29, 30, 31, 32, 33, 34, 35, 36, 37, 38, 39, 40, 41, 42, 43, 44, 45, 46, 47, 48, 49, 50, 51, 52, 53, 54, 55, 56, 57] : List Nat).getD i 0]? = some (Cond.eq (.elem (.static RX7 "TOKENS" "[LWornLines$Token;") (.int (Int32.ofNat i))) (.static RX6 (tkN.getD i "") "LWornLines$Token;")) := by decide +kernel
theorem st_q8 : ∀ i, i < 31 → Cond.eq (.elem (.static RX7 "TOKENS" "[LWornLines$Token;") (.int (Int32.ofNat i))) (.static RX6 (tkN.getD i "") "LWornLines$Token;") ∈ flatC (Jvm.Cond.and given_1 narrow_1) := fun i hi => List.mem_of_getElem? (st_p8 i hi)
theorem st_q9 : Cond.arrayOf (.static RX7 "TOKENS" "[LWornLines$Token;") (.object RX6) ∈ flatC (Jvm.Cond.and given_1 narrow_1) := by decide +kernel
theorem st_q10 : Cond.eq (.length (.static RX7 "TOKENS" "[LWornLines$Token;")) (.int (Int32.ofNat 31)) ∈ flatC (Jvm.Cond.and given_1 narrow_1) := by decide +kernel
set_option maxHeartbeats 4000000 in
theorem st_tok {D : va_G} {ak : Nat → ClassId} {s : State} {args : Array Value} {A : Nat → Prop} (hts : ∀ w ∈ lw_tbl, w.before args s = true) (hgv : (Jvm.Cond.and given_1 narrow_1).before args s = true) (hA : ∀ a : Nat, a < s.heap.size → ¬ A a) : ∃ ad : Nat → Nat, ST D ak ad A s s.heap := by
  have hs := flat_of_before _ hgv
  have h0 : ∀ i : Nat, ∃ t : Nat, i < 31 → (Term.static RX6 (tkN.getD i "") "LWornLines$Token;").eval args s none [] s = some (.ref t) ∧ va_O RX6 t A s s.heap := by
    intro i
    by_cases hi : i < 31
    · obtain ⟨a, c, cell, k, q1, q2, q3, q4, q5, q6, -⟩ := Cond.exactly_spec (hs _ (st_q2 i hi))
      exact ⟨a, fun _ => ⟨q1, cell, q3, q5, by rw [q6]; exact q2, hA a (Array.getElem?_eq_some_iff.mp q3).1⟩⟩
    · exact ⟨0, fun h => absurd h hi⟩
  obtain ⟨a0, had⟩ := Classical.axiomOfChoice h0
  obtain ⟨t, ht, hTT⟩ := va_Tof (tm := (.static RX7 "TOKENS" "[LWornLines$Token;")) (ty := .object RX6) (N := 31) (f := fun j => .ref (a0 j)) (A := A) (by decide) (hs _ st_q9) (va_eqt (hs _ st_q10)) (fun j hj => va_eqv (hs _ (st_q8 j hj)) (had j hj).1) hA
  obtain ⟨ad, e0, e1⟩ : ∃ f : Nat → Nat, (∀ i, i < 31 → f i = a0 i) ∧ f 31 = t := ⟨fun i => if i < 31 then a0 i else t, fun i hi => if_pos hi, if_neg (by decide)⟩
  have had : ∀ i, i < 31 → (Term.static RX6 (tkN.getD i "") "LWornLines$Token;").eval args s none [] s = some (.ref (ad i)) ∧ va_O RX6 (ad i) A s s.heap := fun i hi => by rw [e0 i hi]; exact had i hi
  refine ⟨ad, fun i hi => ⟨va_Zref (hts _ (st_q1 i hi)) (hts (.initialized RX6) (lwAt_mem (i := 1006) rfl)) (had i hi).1 hA, (had i hi).2, vk_OFof (had i hi).1 (va_eqtl (hs _ (st_q4 i hi))) hA, vk_OFof (had i hi).1 (va_eqt (hs _ (st_q5 i hi))) hA, vk_OFof (had i hi).1 (va_eqt (hs _ (st_q6 i hi))) hA, vk_OFof (had i hi).1 (va_eqt (hs _ (st_q7 i hi))) hA⟩, fun i j hi hj e => ?_, ?_, ?_⟩
  · have h1 := va_eqt (hs _ (st_q3 i hi))
    have h2 := va_eqt (hs _ (st_q3 j hj))
    rw [va_fe (had i hi).1] at h1
    rw [va_fe (had j hj).1, ← e] at h2
    have h3 : nI i = nI j := Value.int.inj (Option.some.inj (h1.symm.trans h2))
    exact (nI_eq (by omega) (by omega)).mp h3
  · rw [e1]
    exact va_Zref (hts (.laysStatic RX7 "TOKENS" "[LWornLines$Token;") (lwAt_mem (i := 2148) rfl)) (hts (.initialized RX7) (lwAt_mem (i := 1001) rfl)) ht hA
  · rw [e1]
    obtain ⟨cell, z1, z2, z3, z4, z5, z6, z7⟩ := hTT
    exact ⟨cell, z1, z2, z3, z4, z5, fun j hj => (z6 j hj).trans (show some (Value.ref (a0 j)) = some (Value.ref (ad j)) by rw [e0 j hj]), z7⟩
theorem st_str {s : State} {args : Array Value} {k : Nat} {tx : String} (h1 : (Cond.stringRef RX7 k tx).before args s = true) (h2 : (Cond.exactly (.string RX7 k) "java/lang/String").before args s = true) : ∃ a, vk_R RX7 k tx a s := by
  obtain ⟨a, c, cell, k, q1, -⟩ := Cond.exactly_spec h2
  exact ⟨a, vk_R.of h1 q1⟩
theorem st_xe {s : State} {args : Array Value} {A : Nat → Prop} (hts : ∀ w ∈ lw_tbl, w.before args s = true) (hgv : (Jvm.Cond.and given_1 narrow_1).before args s = true) (hA : ∀ a : Nat, a < s.heap.size → ¬ A a) : XE A s s.heap := by
  have hs := flat_of_before _ hgv
  exact ⟨vx_Zqof (hts (.laysStatic Bundle.tN "UNASSIGNED_STACK" Bundle.steD) (lwAt_mem (i := 4091) rfl)) (hts (.initialized Bundle.tN) (lwAt_mem (i := 1014) rfl)) (hs _ (by decide +kernel)) hA, vx_Zqof (hts (.laysStatic Bundle.tN "SUPPRESSED_SENTINEL" Bundle.listD) (lwAt_mem (i := 4093) rfl)) (hts (.initialized Bundle.tN) (lwAt_mem (i := 1014) rfl)) (hs _ (by decide +kernel)) hA, st_str (hts (.stringRef RX7 166 "no such cell, or nothing is begun") (lwAt_mem (i := 4103) rfl)) (hs _ (by decide +kernel)), st_str (hts (.stringRef RX7 173 "not written, or not kept") (lwAt_mem (i := 4137) rfl)) (hs _ (by decide +kernel)), va_Nw.of rfl (hts (.castable kNSE kNSE) (lwAt_mem (i := 4066) rfl)), List.forall_mem_cons.mpr ⟨va_Nw.of rfl (hts (.declares (Bundle.initS "java/lang/RuntimeException")) (lwAt_mem (i := 4068) rfl)), List.forall_mem_cons.mpr ⟨va_Nw.of rfl (hts (.declares (Bundle.initS "java/lang/Exception")) (lwAt_mem (i := 4070) rfl)), List.forall_mem_cons.mpr ⟨va_Nw.of rfl (hts (.declares (Bundle.initS Bundle.tN)) (lwAt_mem (i := 4072) rfl)), fun w hw => by cases hw⟩⟩⟩⟩
