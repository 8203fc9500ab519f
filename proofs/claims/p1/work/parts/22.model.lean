theorem dX8_run_0 : decode cX8_run 0 = .ok (.aload_n 0, 1) := by decide +kernel
theorem dX8_run_1 : decode cX8_run 1 = .ok (.iconst 0, 1) := by decide +kernel
theorem dX8_run_2 : decode cX8_run 2 = .ok (.putfield 153, 3) := by decide +kernel
theorem dX8_run_5 : decode cX8_run 5 = .ok (.iload_n 1, 1) := by decide +kernel
theorem dX8_run_6 : decode cX8_run 6 = .ok (.iconst 0, 1) := by decide +kernel
theorem dX8_run_7 : decode cX8_run 7 = .ok (.ldc_w 410, 3) := by decide +kernel
set_option maxRecDepth 20000 in
theorem ggX8_run_X8_within : GoodIn wsX8_run wsX8_within := goodIn_r _ [20] (by decide +kernel) (by decide +kernel)
set_option maxRecDepth 20000 in
theorem gX8_run_X8_within : GoodIn wsX8_run (va_wsS RX8 271 yX8_within wsX8_within) := goodIn_app (goodIn_of _ (by decide +kernel)) ggX8_run_X8_within
theorem dX8_run_10 : decode cX8_run 10 = .ok (.invokestatic 271, 3) := by decide +kernel
theorem dX8_run_13 : decode cX8_run 13 = .ok (.ifCond .ne 5, 3) := by decide +kernel
theorem dX8_run_18 : decode cX8_run 18 = .ok (.aload_n 0, 1) := by decide +kernel
theorem dX8_run_19 : decode cX8_run 19 = .ok (.getfield 326, 3) := by decide +kernel
theorem dX8_run_22 : decode cX8_run 22 = .ok (.iconst 1, 1) := by decide +kernel
theorem dX8_run_23 : decode cX8_run 23 = .ok (.if_icmp .eq 5, 3) := by decide +kernel
theorem dX8_run_26 : decode cX8_run 26 = .ok (.iconst 0, 1) := by decide +kernel
theorem dX8_run_27 : decode cX8_run 27 = .ok (.ireturn, 1) := by decide +kernel
theorem dX8_run_16 : decode cX8_run 16 = .ok (.iconst (-1), 1) := by decide +kernel
theorem dX8_run_17 : decode cX8_run 17 = .ok (.ireturn, 1) := by decide +kernel
theorem dX8_state_0 : decode cX8_state 0 = .ok (.aload_n 0, 1) := by decide +kernel
theorem dX8_state_1 : decode cX8_state 1 = .ok (.iconst 0, 1) := by decide +kernel
theorem dX8_state_2 : decode cX8_state 2 = .ok (.putfield 153, 3) := by decide +kernel
theorem dX8_state_5 : decode cX8_state 5 = .ok (.iload_n 1, 1) := by decide +kernel
theorem dX8_state_6 : decode cX8_state 6 = .ok (.iconst 0, 1) := by decide +kernel
theorem dX8_state_7 : decode cX8_state 7 = .ok (.iconst 3, 1) := by decide +kernel
set_option maxRecDepth 20000 in
theorem ggX8_state_X8_within : GoodIn wsX8_state wsX8_within := goodIn_r _ [9] (by decide +kernel) (by decide +kernel)
set_option maxRecDepth 20000 in
theorem gX8_state_X8_within : GoodIn wsX8_state (va_wsS RX8 271 yX8_within wsX8_within) := goodIn_app (goodIn_of _ (by decide +kernel)) ggX8_state_X8_within
theorem dX8_state_8 : decode cX8_state 8 = .ok (.invokestatic 271, 3) := by decide +kernel
theorem dX8_state_11 : decode cX8_state 11 = .ok (.ifCond .ne 5, 3) := by decide +kernel
theorem dX8_state_16 : decode cX8_state 16 = .ok (.iload_n 1, 1) := by decide +kernel
theorem dX8_state_17 : decode cX8_state 17 = .ok (.ifCond .ne 8, 3) := by decide +kernel
theorem dX8_state_25 : decode cX8_state 25 = .ok (.iload_n 1, 1) := by decide +kernel
theorem dX8_state_26 : decode cX8_state 26 = .ok (.iconst 1, 1) := by decide +kernel
theorem dX8_state_27 : decode cX8_state 27 = .ok (.if_icmp .ne 27, 3) := by decide +kernel
theorem dX8_state_54 : decode cX8_state 54 = .ok (.aload_n 0, 1) := by decide +kernel
theorem dX8_state_55 : decode cX8_state 55 = .ok (.getfield 326, 3) := by decide +kernel
theorem dX8_state_58 : decode cX8_state 58 = .ok (.ifCond .ne 7, 3) := by decide +kernel
theorem dX8_state_61 : decode cX8_state 61 = .ok (.iconst 0, 1) := by decide +kernel
theorem dX8_state_62 : decode cX8_state 62 = .ok (.goto 19, 3) := by decide +kernel
theorem dX8_state_81 : decode cX8_state 81 = .ok (.ireturn, 1) := by decide +kernel
theorem dX8_state_30 : decode cX8_state 30 = .ok (.aload_n 0, 1) := by decide +kernel
theorem dX8_state_31 : decode cX8_state 31 = .ok (.getfield 326, 3) := by decide +kernel
theorem dX8_state_34 : decode cX8_state 34 = .ok (.ifCond .eq 11, 3) := by decide +kernel
theorem dX8_state_45 : decode cX8_state 45 = .ok (.iconst (-1), 1) := by decide +kernel
theorem dX8_state_46 : decode cX8_state 46 = .ok (.goto 7, 3) := by decide +kernel
theorem dX8_state_53 : decode cX8_state 53 = .ok (.ireturn, 1) := by decide +kernel
theorem dX8_state_20 : decode cX8_state 20 = .ok (.aload_n 0, 1) := by decide +kernel
theorem dX8_state_21 : decode cX8_state 21 = .ok (.getfield 326, 3) := by decide +kernel
theorem dX8_state_24 : decode cX8_state 24 = .ok (.ireturn, 1) := by decide +kernel
theorem dX8_state_14 : decode cX8_state 14 = .ok (.iconst (-1), 1) := by decide +kernel
theorem dX8_state_15 : decode cX8_state 15 = .ok (.ireturn, 1) := by decide +kernel
theorem dX8_count_0 : decode cX8_count 0 = .ok (.aload_n 0, 1) := by decide +kernel
theorem dX8_count_1 : decode cX8_count 1 = .ok (.iconst 0, 1) := by decide +kernel
theorem dX8_count_2 : decode cX8_count 2 = .ok (.putfield 153, 3) := by decide +kernel
theorem dX8_count_5 : decode cX8_count 5 = .ok (.iload_n 1, 1) := by decide +kernel
theorem dX8_count_6 : decode cX8_count 6 = .ok (.iconst 0, 1) := by decide +kernel
theorem dX8_count_7 : decode cX8_count 7 = .ok (.iconst 4, 1) := by decide +kernel
set_option maxRecDepth 20000 in
theorem ggX8_count_X8_within : GoodIn wsX8_count wsX8_within := goodIn_r _ [10] (by decide +kernel) (by decide +kernel)
set_option maxRecDepth 20000 in
theorem gX8_count_X8_within : GoodIn wsX8_count (va_wsS RX8 271 yX8_within wsX8_within) := goodIn_app (goodIn_of _ (by decide +kernel)) ggX8_count_X8_within
theorem dX8_count_8 : decode cX8_count 8 = .ok (.invokestatic 271, 3) := by decide +kernel
theorem dX8_count_11 : decode cX8_count 11 = .ok (.ifCond .ne 7, 3) := by decide +kernel
theorem dX8_count_18 : decode cX8_count 18 = .ok (.iload_n 1, 1) := by decide +kernel
theorem dX8_count_19 : decode cX8_count 19 = .ok (.ifCond .ne 12, 3) := by decide +kernel
theorem dX8_count_31 : decode cX8_count 31 = .ok (.iload_n 1, 1) := by decide +kernel
theorem dX8_count_32 : decode cX8_count 32 = .ok (.iconst 1, 1) := by decide +kernel
theorem dX8_count_33 : decode cX8_count 33 = .ok (.if_icmp .ne 12, 3) := by decide +kernel
theorem dX8_count_45 : decode cX8_count 45 = .ok (.iload_n 1, 1) := by decide +kernel
theorem dX8_count_46 : decode cX8_count 46 = .ok (.iconst 2, 1) := by decide +kernel
theorem dX8_count_47 : decode cX8_count 47 = .ok (.if_icmp .ne 12, 3) := by decide +kernel
theorem dX8_count_59 : decode cX8_count 59 = .ok (.iload_n 1, 1) := by decide +kernel
theorem dX8_count_60 : decode cX8_count 60 = .ok (.iconst 3, 1) := by decide +kernel
theorem dX8_count_61 : decode cX8_count 61 = .ok (.if_icmp .ne 12, 3) := by decide +kernel
theorem dX8_count_73 : decode cX8_count 73 = .ok (.aload_n 0, 1) := by decide +kernel
theorem dX8_count_74 : decode cX8_count 74 = .ok (.getfield 159, 3) := by decide +kernel
theorem dX8_count_77 : decode cX8_count 77 = .ok (.ireturn, 1) := by decide +kernel
theorem dX8_count_64 : decode cX8_count 64 = .ok (.aload_n 0, 1) := by decide +kernel
theorem dX8_count_65 : decode cX8_count 65 = .ok (.getfield 22, 3) := by decide +kernel
theorem dX8_count_68 : decode cX8_count 68 = .ok (.iconst 0, 1) := by decide +kernel
theorem dX8_count_69 : decode cX8_count 69 = .ok (.iaload, 1) := by decide +kernel
theorem dX8_count_70 : decode cX8_count 70 = .ok (.goto 7, 3) := by decide +kernel
theorem dX8_count_50 : decode cX8_count 50 = .ok (.aload_n 0, 1) := by decide +kernel
theorem dX8_count_51 : decode cX8_count 51 = .ok (.getfield 19, 3) := by decide +kernel
theorem dX8_count_54 : decode cX8_count 54 = .ok (.iconst 0, 1) := by decide +kernel
theorem dX8_count_55 : decode cX8_count 55 = .ok (.iaload, 1) := by decide +kernel
theorem dX8_count_56 : decode cX8_count 56 = .ok (.goto 21, 3) := by decide +kernel
theorem dX8_count_36 : decode cX8_count 36 = .ok (.aload_n 0, 1) := by decide +kernel
theorem dX8_count_37 : decode cX8_count 37 = .ok (.getfield 16, 3) := by decide +kernel
theorem dX8_count_40 : decode cX8_count 40 = .ok (.iconst 0, 1) := by decide +kernel
theorem dX8_count_41 : decode cX8_count 41 = .ok (.iaload, 1) := by decide +kernel
theorem dX8_count_42 : decode cX8_count 42 = .ok (.goto 35, 3) := by decide +kernel
theorem dX8_count_22 : decode cX8_count 22 = .ok (.aload_n 0, 1) := by decide +kernel
theorem dX8_count_23 : decode cX8_count 23 = .ok (.getfield 13, 3) := by decide +kernel
theorem dX8_count_26 : decode cX8_count 26 = .ok (.iconst 0, 1) := by decide +kernel
theorem dX8_count_27 : decode cX8_count 27 = .ok (.iaload, 1) := by decide +kernel
theorem dX8_count_28 : decode cX8_count 28 = .ok (.goto 49, 3) := by decide +kernel
theorem dX8_count_14 : decode cX8_count 14 = .ok (.iconst (-1), 1) := by decide +kernel
theorem dX8_count_15 : decode cX8_count 15 = .ok (.goto 62, 3) := by decide +kernel
theorem dX8_cell_0 : decode cX8_cell 0 = .ok (.aload_n 0, 1) := by decide +kernel
theorem dX8_cell_1 : decode cX8_cell 1 = .ok (.aload_n 0, 1) := by decide +kernel
theorem dX8_cell_2 : decode cX8_cell 2 = .ok (.getfield 326, 3) := by decide +kernel
theorem dX8_cell_5 : decode cX8_cell 5 = .ok (.ifCond .le 15, 3) := by decide +kernel
theorem dX8_cell_20 : decode cX8_cell 20 = .ok (.iconst 1, 1) := by decide +kernel
theorem dX8_cell_21 : decode cX8_cell 21 = .ok (.putfield 153, 3) := by decide +kernel
theorem dX8_cell_24 : decode cX8_cell 24 = .ok (.aload_n 0, 1) := by decide +kernel
theorem dX8_cell_25 : decode cX8_cell 25 = .ok (.getfield 153, 3) := by decide +kernel
theorem dX8_cell_28 : decode cX8_cell 28 = .ok (.iconst 1, 1) := by decide +kernel
theorem dX8_cell_29 : decode cX8_cell 29 = .ok (.if_icmp .ne 7, 3) := by decide +kernel
theorem dX8_cell_32 : decode cX8_cell 32 = .ok (.iconst 0, 1) := by decide +kernel
theorem dX8_cell_33 : decode cX8_cell 33 = .ok (.goto 9, 3) := by decide +kernel
theorem dX8_cell_42 : decode cX8_cell 42 = .ok (.ireturn, 1) := by decide +kernel
theorem dX8_wrote_0 : decode cX8_wrote 0 = .ok (.aload_n 0, 1) := by decide +kernel
theorem dX8_wrote_1 : decode cX8_wrote 1 = .ok (.aload_n 0, 1) := by decide +kernel
theorem dX8_wrote_2 : decode cX8_wrote 2 = .ok (.getfield 326, 3) := by decide +kernel
theorem dX8_wrote_5 : decode cX8_wrote 5 = .ok (.ifCond .le 25, 3) := by decide +kernel
theorem dX8_wrote_30 : decode cX8_wrote 30 = .ok (.iconst 1, 1) := by decide +kernel
theorem dX8_wrote_31 : decode cX8_wrote 31 = .ok (.putfield 153, 3) := by decide +kernel
theorem dX8_wrote_34 : decode cX8_wrote 34 = .ok (.aload_n 0, 1) := by decide +kernel
theorem dX8_wrote_35 : decode cX8_wrote 35 = .ok (.getfield 153, 3) := by decide +kernel
theorem dX8_wrote_38 : decode cX8_wrote 38 = .ok (.iconst 1, 1) := by decide +kernel
theorem dX8_wrote_39 : decode cX8_wrote 39 = .ok (.if_icmp .ne 7, 3) := by decide +kernel
theorem dX8_wrote_42 : decode cX8_wrote 42 = .ok (.iconst 0, 1) := by decide +kernel
theorem dX8_wrote_43 : decode cX8_wrote 43 = .ok (.goto 9, 3) := by decide +kernel
theorem dX8_wrote_52 : decode cX8_wrote 52 = .ok (.ireturn, 1) := by decide +kernel
theorem dX8_thrown_0 : decode cX8_thrown 0 = .ok (.aload_n 0, 1) := by decide +kernel
theorem dX8_thrown_1 : decode cX8_thrown 1 = .ok (.getfield 153, 3) := by decide +kernel
theorem dX8_thrown_4 : decode cX8_thrown 4 = .ok (.ireturn, 1) := by decide +kernel
theorem in4b {a : Int32} (h1 : ¬ a < 0) (h2 : ¬ 3 < a) : vp_in a 4 := in4 h1 (fun h => h2 (Int32.lt_iff_toInt_lt.mpr (by have := Int32.le_iff_toInt_le.mp h; have e : (4 : Int32).toInt = 4 := rfl; have e3 : (3 : Int32).toInt = 3 := rfl; omega)))
theorem ge4 {a : Int32} (h : 3 < a) : 4 ≤ a := Int32.le_iff_toInt_le.mpr (by have := Int32.lt_iff_toInt_lt.mp h; have e : (4 : Int32).toInt = 4 := rfl; have e3 : (3 : Int32).toInt = 3 := rfl; omega)
theorem ix_of {a m : Int32} {n : Nat} (hm : m.toInt = (n : Int)) (h1 : ¬ a < 0) (h2 : ¬ m < a) : ∃ j : Nat, j ≤ n ∧ a = nI j := nI_of2 hm h1 (Int32.not_lt.mp h2)
theorem fs_out {a : Int32} (h : a < 0 ∨ 3 < a) : fr_state a = -1 := by
  have n0 : ∀ k : Int32, 0 ≤ k → k ≤ 3 → ¬ a = k := fun k k0 k3 e => by
    subst e
    rcases h with h | h
    · exact absurd k0 (Int32.not_le.mpr h)
    · exact absurd k3 (Int32.not_le.mpr h)
  rw [fr_state, if_neg (n0 0 (by decide) (by decide)), if_neg (n0 1 (by decide) (by decide)), if_neg (n0 2 (by decide) (by decide)), if_neg (n0 3 (by decide) (by decide))]
theorem fs_in {a : Int32} (h1 : ¬ a < 0) (h2 : ¬ 3 < a) (h3 : ¬ a = 1) : fr_state a = 0 := by
  obtain ⟨j, hj, rfl⟩ := ix_of (n := 3) rfl h1 h2
  match j, hj with
  | 0, _ => rfl
  | 1, _ => exact absurd rfl h3
  | 2, _ => rfl
  | 3, _ => rfl
theorem fc_out {a : Int32} (h : a < 0 ∨ 4 < a) : fr_count a = -1 := by
  have n0 : ∀ k : Int32, 0 ≤ k → k ≤ 4 → ¬ a = k := fun k k0 k3 e => by
    subst e
    rcases h with h | h
    · exact absurd k0 (Int32.not_le.mpr h)
    · exact absurd k3 (Int32.not_le.mpr h)
  rw [fr_count, if_neg (n0 0 (by decide) (by decide)), if_neg (n0 1 (by decide) (by decide)), if_neg (n0 2 (by decide) (by decide)), if_neg (n0 3 (by decide) (by decide)), if_neg (n0 4 (by decide) (by decide))]
theorem fc_in {a : Int32} (h1 : ¬ a < 0) (h2 : ¬ 4 < a) : fr_count a = 0 := by
  obtain ⟨j, hj, rfl⟩ := ix_of (n := 4) rfl h1 h2
  match j, hj with
  | 0, _ => rfl
  | 1, _ => rfl
  | 2, _ => rfl
  | 3, _ => rfl
  | 4, _ => rfl
theorem b_eq (w : Int64) : ∀ k, k < 24 → ((w.toUInt64 >>> (((56 : Int32) - 8 * (nI k &&& 7)).toInt64.toUInt64 &&& Int64.toUInt64 63)).toInt64 &&& 255).toInt32 = bA w (k % 8) := by
  intro k hk
  have e : ∀ k, k < 24 → (56 : Int32) - 8 * (nI k &&& 7) = sA (k % 8) := by decide
  rw [e k hk, Int64.toInt32_and]
  rfl
def pkW (a b c : Int64) (k : Nat) : Int64 := if k < 8 then a else if k < 16 then b else c
def rdN (a b c : Int64) : Nat → Nat → Nat
  | 0, n => n
  | j + 1, n => rdN a b c j (stp n (bA (pkW a b c (23 - j)) ((23 - j) % 8)))
theorem rdN_all (a b c : Int64) : rdN a b c 24 0 = adN c 8 (adN b 8 (adN a 8 0)) := by
  simp only [rdN, adN, pkW]
  rfl

set_option maxHeartbeats 4000000 in
set_option maxRecDepth 100000 in
theorem c_X8_run (l : Launch) (D : va_G) (ak : Nat → ClassId) (ad : Nat → Nat) (sz : Nat) (h0 : Nat) (r2 : Nat) (r10 : Nat) (r11 : Nat) (r12 : Nat) (r13 : Nat) (r14 : Nat) (r15 : Nat) (r16 : Nat) (r17 : Nat) (r18 : Nat) (r19 : Nat) (r20 : Nat) (r21 : Nat) (r22 : Nat) (r23 : Nat) (r24 : Nat) (r25 : Nat) (r26 : Nat) (r27 : Nat) (r28 : Nat) (r30 : Nat) (r31 : Nat) (r32 : Nat) (r33 : Nat) (r34 : Nat) (r35 : Nat) (r36 : Nat) (r37 : Nat) (r38 : Nat) (r39 : Nat) (r40 : Nat) (r41 : Nat) (r47 : Nat) (r48 : Nat) (r50 : Nat) (r51 : Nat) (r52 : Nat) (r58 : Nat) (r59 : Nat) (r60 : Nat) (r61 : Nat) (r62 : Nat) (r63 : Nat) (r64 : Nat) (r65 : Nat) (r66 : Nat) (r67 : Nat) (a0 : Int32)  : Met l yX8_run wsX8_run ({ frames := 1, cells := 0, slots := 0, locals := 22 }) (cPre D ak ad [.ref h0, .int (a0)] ([(h0, .inr (7, [.int (0), .int (0), .ref r2, .int (0), .int (0), .int (0), .int (0), .long (0), .int (0), .int (0), .ref r10, .ref r11, .ref r12, .ref r13, .ref r14, .ref r15, .ref r16, .ref r17, .ref r18, .ref r19, .ref r20, .ref r21, .ref r22, .ref r23, .ref r24, .ref r25, .ref r26, .ref r27, .ref r28, .int (0), .ref r30, .ref r31, .ref r32, .ref r33, .ref r34, .ref r35, .ref r36, .ref r37, .ref r38, .ref r39, .ref r40, .ref r41, .int (0), .int (0), .int (0), .int (0), .int (0), .ref r47, .ref r48, .int (0), .ref r50, .ref r51, .ref r52, .int (0), .int (0), .int (0), .int (0), .int (0), .ref r58, .ref r59, .ref r60, .ref r61, .ref r62, .ref r63, .ref r64, .ref r65, .ref r66, .ref r67, .int (0)]))]) sz) (cI D (S := Unit) (fun (r : Int32) (u : Unit) => r = fr_run a0) (fun u => []) ([(h0, .inr (7, [.int (0), .int (0), .ref r2, .int (0), .int (0), .int (0), .int (0), .long (0), .int (0), .int (0), .ref r10, .ref r11, .ref r12, .ref r13, .ref r14, .ref r15, .ref r16, .ref r17, .ref r18, .ref r19, .ref r20, .ref r21, .ref r22, .ref r23, .ref r24, .ref r25, .ref r26, .ref r27, .ref r28, .int (0), .ref r30, .ref r31, .ref r32, .ref r33, .ref r34, .ref r35, .ref r36, .ref r37, .ref r38, .ref r39, .ref r40, .ref r41, .int (0), .int (0), .int (0), .int (0), .int (0), .ref r47, .ref r48, .int (0), .ref r50, .ref r51, .ref r52, .int (0), .int (0), .int (0), .int (0), .int (0), .ref r58, .ref r59, .ref r60, .ref r61, .ref r62, .ref r63, .ref r64, .ref r65, .ref r66, .ref r67, .int (0)]))]) sz) 0 0 (va_A ([(h0, .inr (7, [.int (0), .int (0), .ref r2, .int (0), .int (0), .int (0), .int (0), .long (0), .int (0), .int (0), .ref r10, .ref r11, .ref r12, .ref r13, .ref r14, .ref r15, .ref r16, .ref r17, .ref r18, .ref r19, .ref r20, .ref r21, .ref r22, .ref r23, .ref r24, .ref r25, .ref r26, .ref r27, .ref r28, .int (0), .ref r30, .ref r31, .ref r32, .ref r33, .ref r34, .ref r35, .ref r36, .ref r37, .ref r38, .ref r39, .ref r40, .ref r41, .int (0), .int (0), .int (0), .int (0), .int (0), .ref r47, .ref r48, .int (0), .ref r50, .ref r51, .ref r52, .int (0), .int (0), .int (0), .int (0), .int (0), .ref r58, .ref r59, .ref r60, .ref r61, .ref r62, .ref r63, .ref r64, .ref r65, .ref r66, .ref r67, .int (0)]))]) sz) := by
  refine Met.ofW (cc := cX8_run) (maxL := 4) (ret := (some .int)) (by decide) rfl ?_
  intro p e s m args below meth c s₁ B hml hv
  obtain ⟨rfl, hsz, hP, hE, hD0, hT⟩ := hv
  have hx := B.exec
  have hb := B.bytes
  have hr := B.returns
  have hts := atoms_spec (ws := wsX8_run) B.pre
  have hown : s.vm.findClass RX8 = some m.cls := findClass_of_methodNamed B.named
  have hlocks := B.notSynchronized
  subst hsz
  have hD := hD0.self (sz := s.heap.size)
  generalize hAe : va_A ([(h0, .inr (7, [.int (0), .int (0), .ref r2, .int (0), .int (0), .int (0), .int (0), .long (0), .int (0), .int (0), .ref r10, .ref r11, .ref r12, .ref r13, .ref r14, .ref r15, .ref r16, .ref r17, .ref r18, .ref r19, .ref r20, .ref r21, .ref r22, .ref r23, .ref r24, .ref r25, .ref r26, .ref r27, .ref r28, .int (0), .ref r30, .ref r31, .ref r32, .ref r33, .ref r34, .ref r35, .ref r36, .ref r37, .ref r38, .ref r39, .ref r40, .ref r41, .int (0), .int (0), .int (0), .int (0), .int (0), .ref r47, .ref r48, .int (0), .ref r50, .ref r51, .ref r52, .int (0), .int (0), .int (0), .int (0), .int (0), .ref r58, .ref r59, .ref r60, .ref r61, .ref r62, .ref r63, .ref r64, .ref r65, .ref r66, .ref r67, .int (0)]))]) s.heap.size = A at hD hT ⊢
  have hA : ∀ q : Nat, s.heap.size ≤ q → A q := fun q h => by rw [← hAe]; exact Or.inr h
  have hS : va_S A s.heap s.heap [] := va_S.rf
  have hl := lv_entry ([.ref h0, .int (a0)]) (n := 4) (Nat.le_of_ble_eq_true rfl)
  rw [lg_entry_eq]
  generalize (lg_sl ([.ref h0, .int (a0)]) ++ List.replicate (4 - (lg_sl ([.ref h0, .int (a0)])).length) Slot.unset).toArray = ls at hl ⊢
  have hl : lv_has ls 4 [(0, .ref h0), (1, .int (a0))] := hl
  have hP : va_P D vwCl [(h0, .inr (7, [.int (0), .int (0), .ref r2, .int (0), .int (0), .int (0), .int (0), .long (0), .int (0), .int (0), .ref r10, .ref r11, .ref r12, .ref r13, .ref r14, .ref r15, .ref r16, .ref r17, .ref r18, .ref r19, .ref r20, .ref r21, .ref r22, .ref r23, .ref r24, .ref r25, .ref r26, .ref r27, .ref r28, .int (0), .ref r30, .ref r31, .ref r32, .ref r33, .ref r34, .ref r35, .ref r36, .ref r37, .ref r38, .ref r39, .ref r40, .ref r41, .int (0), .int (0), .int (0), .int (0), .int (0), .ref r47, .ref r48, .int (0), .ref r50, .ref r51, .ref r52, .int (0), .int (0), .int (0), .int (0), .int (0), .ref r58, .ref r59, .ref r60, .ref r61, .ref r62, .ref r63, .ref r64, .ref r65, .ref r66, .ref r67, .int (0)]))] s.heap := hP
  refine lv_aload_n hx hb dX8_run_0 rfl (lv_at hl 0 rfl) ?_
  refine lv_iconst (v := 0) hx hb dX8_run_1 (by decide) ?_
  refine va_put (D := D) (ci := 7) (v := .int (0)) (ty := .int) (C := RX8) (T := TX8) (N := 69) hx hb hts (fun w h => List.mem_cons_of_mem _ (List.mem_append_right _ h)) tyX8 tyX8_ok nmX8 hown hE.1 hP hD hS 0 rfl rfl 0 (by decide) (hts (.fieldLink RX8 153 "WornLinesModel" "thrown" "I") (by decide +kernel)) (fun _ h9 => h9) rfl (by decide +kernel) rfl rfl (Nat.le_of_ble_eq_true rfl) dX8_run_2 (fun H locs hP hD hS => ?_)
  have hP : va_P D vwCl [(h0, .inr (7, [.int (0), .int (0), .ref r2, .int (0), .int (0), .int (0), .int (0), .long (0), .int (0), .int (0), .ref r10, .ref r11, .ref r12, .ref r13, .ref r14, .ref r15, .ref r16, .ref r17, .ref r18, .ref r19, .ref r20, .ref r21, .ref r22, .ref r23, .ref r24, .ref r25, .ref r26, .ref r27, .ref r28, .int (0), .ref r30, .ref r31, .ref r32, .ref r33, .ref r34, .ref r35, .ref r36, .ref r37, .ref r38, .ref r39, .ref r40, .ref r41, .int (0), .int (0), .int (0), .int (0), .int (0), .ref r47, .ref r48, .int (0), .ref r50, .ref r51, .ref r52, .int (0), .int (0), .int (0), .int (0), .int (0), .ref r58, .ref r59, .ref r60, .ref r61, .ref r62, .ref r63, .ref r64, .ref r65, .ref r66, .ref r67, .int (0)]))] H := hP
  have hD : va_D A [(h0, .inr (7, [.int (0), .int (0), .ref r2, .int (0), .int (0), .int (0), .int (0), .long (0), .int (0), .int (0), .ref r10, .ref r11, .ref r12, .ref r13, .ref r14, .ref r15, .ref r16, .ref r17, .ref r18, .ref r19, .ref r20, .ref r21, .ref r22, .ref r23, .ref r24, .ref r25, .ref r26, .ref r27, .ref r28, .int (0), .ref r30, .ref r31, .ref r32, .ref r33, .ref r34, .ref r35, .ref r36, .ref r37, .ref r38, .ref r39, .ref r40, .ref r41, .int (0), .int (0), .int (0), .int (0), .int (0), .ref r47, .ref r48, .int (0), .ref r50, .ref r51, .ref r52, .int (0), .int (0), .int (0), .int (0), .int (0), .ref r58, .ref r59, .ref r60, .ref r61, .ref r62, .ref r63, .ref r64, .ref r65, .ref r66, .ref r67, .int (0)]))] := hD
  refine lv_iload_n hx hb dX8_run_5 rfl (lv_at hl 1 rfl) ?_
  refine lv_iconst (v := 0) hx hb dX8_run_6 (by decide) ?_
  refine lv_ldcw hx hb hown (hts (.constant RX8 410 (1000000)) (by decide +kernel)) dX8_run_7 ?_
  refine kc_i (wc := []) (wr := [(h0, .inr (7, [.int (0), .int (0), .ref r2, .int (0), .int (0), .int (0), .int (0), .long (0), .int (0), .int (0), .ref r10, .ref r11, .ref r12, .ref r13, .ref r14, .ref r15, .ref r16, .ref r17, .ref r18, .ref r19, .ref r20, .ref r21, .ref r22, .ref r23, .ref r24, .ref r25, .ref r26, .ref r27, .ref r28, .int (0), .ref r30, .ref r31, .ref r32, .ref r33, .ref r34, .ref r35, .ref r36, .ref r37, .ref r38, .ref r39, .ref r40, .ref r41, .int (0), .int (0), .int (0), .int (0), .int (0), .ref r47, .ref r48, .int (0), .ref r50, .ref r51, .ref r52, .int (0), .int (0), .int (0), .int (0), .int (0), .ref r58, .ref r59, .ref r60, .ref r61, .ref r62, .ref r63, .ref r64, .ref r65, .ref r66, .ref r67, .int (0)]))]) hP hD hS hA [] [0] rfl rfl (by decide) (by decide) (va_runS (As := [.int (a0), .int (0), .int (1000000)]) (rest := []) ⟨hx, hb, hml, hown, hts⟩ (c_X8_within l D ak ad _ (a0) (0) (1000000) ) (va_cwS 3 hts gX8_run_X8_within rfl rfl rfl (by decide +kernel) ⟨Nat.le_of_ble_eq_true rfl, Nat.le_of_ble_eq_true rfl⟩) (kc_pre (As := [.int (a0), .int (0), .int (1000000)]) (wc := []) hE hT hP hD hS hA [] (by decide) rfl rfl) rfl rfl hl.1 rfl (lv_room (Nat.le_of_ble_eq_true rfl)) dX8_run_10 ⟨Nat.le_of_ble_eq_true rfl, Nat.le_of_ble_eq_true rfl⟩) (fun r_2 u_0 H locs hw_2 hP hD hS => ?_)
  have hP : va_P D vwCl [(h0, .inr (7, [.int (0), .int (0), .ref r2, .int (0), .int (0), .int (0), .int (0), .long (0), .int (0), .int (0), .ref r10, .ref r11, .ref r12, .ref r13, .ref r14, .ref r15, .ref r16, .ref r17, .ref r18, .ref r19, .ref r20, .ref r21, .ref r22, .ref r23, .ref r24, .ref r25, .ref r26, .ref r27, .ref r28, .int (0), .ref r30, .ref r31, .ref r32, .ref r33, .ref r34, .ref r35, .ref r36, .ref r37, .ref r38, .ref r39, .ref r40, .ref r41, .int (0), .int (0), .int (0), .int (0), .int (0), .ref r47, .ref r48, .int (0), .ref r50, .ref r51, .ref r52, .int (0), .int (0), .int (0), .int (0), .int (0), .ref r58, .ref r59, .ref r60, .ref r61, .ref r62, .ref r63, .ref r64, .ref r65, .ref r66, .ref r67, .int (0)]))] H := hP
  have hD : va_D A [(h0, .inr (7, [.int (0), .int (0), .ref r2, .int (0), .int (0), .int (0), .int (0), .long (0), .int (0), .int (0), .ref r10, .ref r11, .ref r12, .ref r13, .ref r14, .ref r15, .ref r16, .ref r17, .ref r18, .ref r19, .ref r20, .ref r21, .ref r22, .ref r23, .ref r24, .ref r25, .ref r26, .ref r27, .ref r28, .int (0), .ref r30, .ref r31, .ref r32, .ref r33, .ref r34, .ref r35, .ref r36, .ref r37, .ref r38, .ref r39, .ref r40, .ref r41, .int (0), .int (0), .int (0), .int (0), .int (0), .ref r47, .ref r48, .int (0), .ref r50, .ref r51, .ref r52, .int (0), .int (0), .int (0), .int (0), .int (0), .ref r58, .ref r59, .ref r60, .ref r61, .ref r62, .ref r63, .ref r64, .ref r65, .ref r66, .ref r67, .int (0)]))] := hD
  have hno : r_2 = 0 → (a0 < 0 ∨ 1000000 < a0) := fun h => hw_2.elim (fun q => absurd (q.1.symm.trans h) (by decide)) (fun q => q.2)
  have hyes : ¬ r_2 = 0 → (r_2 = 1 ∧ ¬ a0 < 0 ∧ ¬ 1000000 < a0) := fun h => hw_2.elim id (fun q => absurd q.1 h)
  refine lv_if_ne (tgt := 18) hx hb dX8_run_13 (by decide) (fun c_13 => ?_) (fun c_13 => ?_)
  · refine lv_aload_n hx hb dX8_run_18 rfl (lv_at hl 0 rfl) ?_
    refine va_get (D := D) (ci := 7) (v := .int (0)) (C := RX8) (T := TX8) (N := 69) hx hb hts (fun w h => List.mem_cons_of_mem _ (List.mem_append_right _ h)) hown hE.1 hP 0 rfl rfl 54 (by decide) (hts (.fieldLink RX8 326 "WornLinesModel" "state" "I") (by decide +kernel)) (fun _ h9 => h9) rfl dX8_run_19 ?_
    refine lv_iconst (v := 1) hx hb dX8_run_22 (by decide) ?_
    refine lv_icmp_eq (tgt := 28) hx hb dX8_run_23 (by decide) (fun c_23 => ?_) (fun c_23 => ?_)
    · exact absurd c_23 (by decide)
    · refine lv_iconst (v := 0) hx hb dX8_run_26 (by decide) ?_
      have hP9 := hP.sub (ws' := []) [] rfl
      have hD9 := hD.sub (ws' := []) [] (by decide) rfl
      refine W.widen (k := 0) (n := 0) (Nat.le_of_ble_eq_true rfl) (Nat.le_of_ble_eq_true rfl) ?_
      exact W.iret (v := 0) hx hb hr (fun t ht hW => ⟨⟨0, (()), rfl, (by rw [fr_run, if_neg (fun h => h.elim (hyes c_13).2.1 (hyes c_13).2.2)]), by rw [ht]; exact hP9, by rw [hAe]; exact hD9⟩, by rw [hAe]; exact hS.F ht⟩) hS.2.2 dX8_run_27
  · refine lv_iconst (v := (-1)) hx hb dX8_run_16 (by decide) ?_
    have hP9 := hP.sub (ws' := []) [] rfl
    have hD9 := hD.sub (ws' := []) [] (by decide) rfl
    refine W.widen (k := 0) (n := 0) (Nat.le_of_ble_eq_true rfl) (Nat.le_of_ble_eq_true rfl) ?_
    exact W.iret (v := -1) hx hb hr (fun t ht hW => ⟨⟨-1, (()), rfl, (by rw [fr_run, if_pos (hno c_13)]), by rw [ht]; exact hP9, by rw [hAe]; exact hD9⟩, by rw [hAe]; exact hS.F ht⟩) hS.2.2 dX8_run_17

set_option maxHeartbeats 4000000 in
set_option maxRecDepth 100000 in
theorem c_X8_state (l : Launch) (D : va_G) (ak : Nat → ClassId) (ad : Nat → Nat) (sz : Nat) (h0 : Nat) (r2 : Nat) (r10 : Nat) (r11 : Nat) (r12 : Nat) (r13 : Nat) (r14 : Nat) (r15 : Nat) (r16 : Nat) (r17 : Nat) (r18 : Nat) (r19 : Nat) (r20 : Nat) (r21 : Nat) (r22 : Nat) (r23 : Nat) (r24 : Nat) (r25 : Nat) (r26 : Nat) (r27 : Nat) (r28 : Nat) (r30 : Nat) (r31 : Nat) (r32 : Nat) (r33 : Nat) (r34 : Nat) (r35 : Nat) (r36 : Nat) (r37 : Nat) (r38 : Nat) (r39 : Nat) (r40 : Nat) (r41 : Nat) (r47 : Nat) (r48 : Nat) (r50 : Nat) (r51 : Nat) (r52 : Nat) (r58 : Nat) (r59 : Nat) (r60 : Nat) (r61 : Nat) (r62 : Nat) (r63 : Nat) (r64 : Nat) (r65 : Nat) (r66 : Nat) (r67 : Nat) (a0 : Int32)  : Met l yX8_state wsX8_state ({ frames := 1, cells := 0, slots := 0, locals := 22 }) (cPre D ak ad [.ref h0, .int (a0)] ([(h0, .inr (7, [.int (0), .int (0), .ref r2, .int (0), .int (0), .int (0), .int (0), .long (0), .int (0), .int (0), .ref r10, .ref r11, .ref r12, .ref r13, .ref r14, .ref r15, .ref r16, .ref r17, .ref r18, .ref r19, .ref r20, .ref r21, .ref r22, .ref r23, .ref r24, .ref r25, .ref r26, .ref r27, .ref r28, .int (0), .ref r30, .ref r31, .ref r32, .ref r33, .ref r34, .ref r35, .ref r36, .ref r37, .ref r38, .ref r39, .ref r40, .ref r41, .int (0), .int (0), .int (0), .int (0), .int (0), .ref r47, .ref r48, .int (0), .ref r50, .ref r51, .ref r52, .int (0), .int (0), .int (0), .int (0), .int (0), .ref r58, .ref r59, .ref r60, .ref r61, .ref r62, .ref r63, .ref r64, .ref r65, .ref r66, .ref r67, .int (0)]))]) sz) (cI D (S := Unit) (fun (r : Int32) (u : Unit) => r = fr_state a0) (fun u => []) ([(h0, .inr (7, [.int (0), .int (0), .ref r2, .int (0), .int (0), .int (0), .int (0), .long (0), .int (0), .int (0), .ref r10, .ref r11, .ref r12, .ref r13, .ref r14, .ref r15, .ref r16, .ref r17, .ref r18, .ref r19, .ref r20, .ref r21, .ref r22, .ref r23, .ref r24, .ref r25, .ref r26, .ref r27, .ref r28, .int (0), .ref r30, .ref r31, .ref r32, .ref r33, .ref r34, .ref r35, .ref r36, .ref r37, .ref r38, .ref r39, .ref r40, .ref r41, .int (0), .int (0), .int (0), .int (0), .int (0), .ref r47, .ref r48, .int (0), .ref r50, .ref r51, .ref r52, .int (0), .int (0), .int (0), .int (0), .int (0), .ref r58, .ref r59, .ref r60, .ref r61, .ref r62, .ref r63, .ref r64, .ref r65, .ref r66, .ref r67, .int (0)]))]) sz) 0 0 (va_A ([(h0, .inr (7, [.int (0), .int (0), .ref r2, .int (0), .int (0), .int (0), .int (0), .long (0), .int (0), .int (0), .ref r10, .ref r11, .ref r12, .ref r13, .ref r14, .ref r15, .ref r16, .ref r17, .ref r18, .ref r19, .ref r20, .ref r21, .ref r22, .ref r23, .ref r24, .ref r25, .ref r26, .ref r27, .ref r28, .int (0), .ref r30, .ref r31, .ref r32, .ref r33, .ref r34, .ref r35, .ref r36, .ref r37, .ref r38, .ref r39, .ref r40, .ref r41, .int (0), .int (0), .int (0), .int (0), .int (0), .ref r47, .ref r48, .int (0), .ref r50, .ref r51, .ref r52, .int (0), .int (0), .int (0), .int (0), .int (0), .ref r58, .ref r59, .ref r60, .ref r61, .ref r62, .ref r63, .ref r64, .ref r65, .ref r66, .ref r67, .int (0)]))]) sz) := by
  refine Met.ofW (cc := cX8_state) (maxL := 2) (ret := (some .int)) (by decide) rfl ?_
  intro p e s m args below meth c s₁ B hml hv
  obtain ⟨rfl, hsz, hP, hE, hD0, hT⟩ := hv
  have hx := B.exec
  have hb := B.bytes
  have hr := B.returns
  have hts := atoms_spec (ws := wsX8_state) B.pre
  have hown : s.vm.findClass RX8 = some m.cls := findClass_of_methodNamed B.named
  have hlocks := B.notSynchronized
  subst hsz
  have hD := hD0.self (sz := s.heap.size)
  generalize hAe : va_A ([(h0, .inr (7, [.int (0), .int (0), .ref r2, .int (0), .int (0), .int (0), .int (0), .long (0), .int (0), .int (0), .ref r10, .ref r11, .ref r12, .ref r13, .ref r14, .ref r15, .ref r16, .ref r17, .ref r18, .ref r19, .ref r20, .ref r21, .ref r22, .ref r23, .ref r24, .ref r25, .ref r26, .ref r27, .ref r28, .int (0), .ref r30, .ref r31, .ref r32, .ref r33, .ref r34, .ref r35, .ref r36, .ref r37, .ref r38, .ref r39, .ref r40, .ref r41, .int (0), .int (0), .int (0), .int (0), .int (0), .ref r47, .ref r48, .int (0), .ref r50, .ref r51, .ref r52, .int (0), .int (0), .int (0), .int (0), .int (0), .ref r58, .ref r59, .ref r60, .ref r61, .ref r62, .ref r63, .ref r64, .ref r65, .ref r66, .ref r67, .int (0)]))]) s.heap.size = A at hD hT ⊢
  have hA : ∀ q : Nat, s.heap.size ≤ q → A q := fun q h => by rw [← hAe]; exact Or.inr h
  have hS : va_S A s.heap s.heap [] := va_S.rf
  have hl := lv_entry ([.ref h0, .int (a0)]) (n := 2) (Nat.le_of_ble_eq_true rfl)
  rw [lg_entry_eq]
  generalize (lg_sl ([.ref h0, .int (a0)]) ++ List.replicate (2 - (lg_sl ([.ref h0, .int (a0)])).length) Slot.unset).toArray = ls at hl ⊢
  have hl : lv_has ls 2 [(0, .ref h0), (1, .int (a0))] := hl
  have hP : va_P D vwCl [(h0, .inr (7, [.int (0), .int (0), .ref r2, .int (0), .int (0), .int (0), .int (0), .long (0), .int (0), .int (0), .ref r10, .ref r11, .ref r12, .ref r13, .ref r14, .ref r15, .ref r16, .ref r17, .ref r18, .ref r19, .ref r20, .ref r21, .ref r22, .ref r23, .ref r24, .ref r25, .ref r26, .ref r27, .ref r28, .int (0), .ref r30, .ref r31, .ref r32, .ref r33, .ref r34, .ref r35, .ref r36, .ref r37, .ref r38, .ref r39, .ref r40, .ref r41, .int (0), .int (0), .int (0), .int (0), .int (0), .ref r47, .ref r48, .int (0), .ref r50, .ref r51, .ref r52, .int (0), .int (0), .int (0), .int (0), .int (0), .ref r58, .ref r59, .ref r60, .ref r61, .ref r62, .ref r63, .ref r64, .ref r65, .ref r66, .ref r67, .int (0)]))] s.heap := hP
  refine lv_aload_n hx hb dX8_state_0 rfl (lv_at hl 0 rfl) ?_
  refine lv_iconst (v := 0) hx hb dX8_state_1 (by decide) ?_
  refine va_put (D := D) (ci := 7) (v := .int (0)) (ty := .int) (C := RX8) (T := TX8) (N := 69) hx hb hts (fun w h => List.mem_cons_of_mem _ (List.mem_append_right _ h)) tyX8 tyX8_ok nmX8 hown hE.1 hP hD hS 0 rfl rfl 0 (by decide) (hts (.fieldLink RX8 153 "WornLinesModel" "thrown" "I") (by decide +kernel)) (fun _ h9 => h9) rfl (by decide +kernel) rfl rfl (Nat.le_of_ble_eq_true rfl) dX8_state_2 (fun H locs hP hD hS => ?_)
  have hP : va_P D vwCl [(h0, .inr (7, [.int (0), .int (0), .ref r2, .int (0), .int (0), .int (0), .int (0), .long (0), .int (0), .int (0), .ref r10, .ref r11, .ref r12, .ref r13, .ref r14, .ref r15, .ref r16, .ref r17, .ref r18, .ref r19, .ref r20, .ref r21, .ref r22, .ref r23, .ref r24, .ref r25, .ref r26, .ref r27, .ref r28, .int (0), .ref r30, .ref r31, .ref r32, .ref r33, .ref r34, .ref r35, .ref r36, .ref r37, .ref r38, .ref r39, .ref r40, .ref r41, .int (0), .int (0), .int (0), .int (0), .int (0), .ref r47, .ref r48, .int (0), .ref r50, .ref r51, .ref r52, .int (0), .int (0), .int (0), .int (0), .int (0), .ref r58, .ref r59, .ref r60, .ref r61, .ref r62, .ref r63, .ref r64, .ref r65, .ref r66, .ref r67, .int (0)]))] H := hP
  have hD : va_D A [(h0, .inr (7, [.int (0), .int (0), .ref r2, .int (0), .int (0), .int (0), .int (0), .long (0), .int (0), .int (0), .ref r10, .ref r11, .ref r12, .ref r13, .ref r14, .ref r15, .ref r16, .ref r17, .ref r18, .ref r19, .ref r20, .ref r21, .ref r22, .ref r23, .ref r24, .ref r25, .ref r26, .ref r27, .ref r28, .int (0), .ref r30, .ref r31, .ref r32, .ref r33, .ref r34, .ref r35, .ref r36, .ref r37, .ref r38, .ref r39, .ref r40, .ref r41, .int (0), .int (0), .int (0), .int (0), .int (0), .ref r47, .ref r48, .int (0), .ref r50, .ref r51, .ref r52, .int (0), .int (0), .int (0), .int (0), .int (0), .ref r58, .ref r59, .ref r60, .ref r61, .ref r62, .ref r63, .ref r64, .ref r65, .ref r66, .ref r67, .int (0)]))] := hD
  refine lv_iload_n hx hb dX8_state_5 rfl (lv_at hl 1 rfl) ?_
  refine lv_iconst (v := 0) hx hb dX8_state_6 (by decide) ?_
  refine lv_iconst (v := 3) hx hb dX8_state_7 (by decide) ?_
  refine kc_i (wc := []) (wr := [(h0, .inr (7, [.int (0), .int (0), .ref r2, .int (0), .int (0), .int (0), .int (0), .long (0), .int (0), .int (0), .ref r10, .ref r11, .ref r12, .ref r13, .ref r14, .ref r15, .ref r16, .ref r17, .ref r18, .ref r19, .ref r20, .ref r21, .ref r22, .ref r23, .ref r24, .ref r25, .ref r26, .ref r27, .ref r28, .int (0), .ref r30, .ref r31, .ref r32, .ref r33, .ref r34, .ref r35, .ref r36, .ref r37, .ref r38, .ref r39, .ref r40, .ref r41, .int (0), .int (0), .int (0), .int (0), .int (0), .ref r47, .ref r48, .int (0), .ref r50, .ref r51, .ref r52, .int (0), .int (0), .int (0), .int (0), .int (0), .ref r58, .ref r59, .ref r60, .ref r61, .ref r62, .ref r63, .ref r64, .ref r65, .ref r66, .ref r67, .int (0)]))]) hP hD hS hA [] [0] rfl rfl (by decide) (by decide) (va_runS (As := [.int (a0), .int (0), .int (3)]) (rest := []) ⟨hx, hb, hml, hown, hts⟩ (c_X8_within l D ak ad _ (a0) (0) (3) ) (va_cwS 3 hts gX8_state_X8_within rfl rfl rfl (by decide +kernel) ⟨Nat.le_of_ble_eq_true rfl, Nat.le_of_ble_eq_true rfl⟩) (kc_pre (As := [.int (a0), .int (0), .int (3)]) (wc := []) hE hT hP hD hS hA [] (by decide) rfl rfl) rfl rfl hl.1 rfl (lv_room (Nat.le_of_ble_eq_true rfl)) dX8_state_8 ⟨Nat.le_of_ble_eq_true rfl, Nat.le_of_ble_eq_true rfl⟩) (fun r_2 u_0 H locs hw_2 hP hD hS => ?_)
  have hP : va_P D vwCl [(h0, .inr (7, [.int (0), .int (0), .ref r2, .int (0), .int (0), .int (0), .int (0), .long (0), .int (0), .int (0), .ref r10, .ref r11, .ref r12, .ref r13, .ref r14, .ref r15, .ref r16, .ref r17, .ref r18, .ref r19, .ref r20, .ref r21, .ref r22, .ref r23, .ref r24, .ref r25, .ref r26, .ref r27, .ref r28, .int (0), .ref r30, .ref r31, .ref r32, .ref r33, .ref r34, .ref r35, .ref r36, .ref r37, .ref r38, .ref r39, .ref r40, .ref r41, .int (0), .int (0), .int (0), .int (0), .int (0), .ref r47, .ref r48, .int (0), .ref r50, .ref r51, .ref r52, .int (0), .int (0), .int (0), .int (0), .int (0), .ref r58, .ref r59, .ref r60, .ref r61, .ref r62, .ref r63, .ref r64, .ref r65, .ref r66, .ref r67, .int (0)]))] H := hP
  have hD : va_D A [(h0, .inr (7, [.int (0), .int (0), .ref r2, .int (0), .int (0), .int (0), .int (0), .long (0), .int (0), .int (0), .ref r10, .ref r11, .ref r12, .ref r13, .ref r14, .ref r15, .ref r16, .ref r17, .ref r18, .ref r19, .ref r20, .ref r21, .ref r22, .ref r23, .ref r24, .ref r25, .ref r26, .ref r27, .ref r28, .int (0), .ref r30, .ref r31, .ref r32, .ref r33, .ref r34, .ref r35, .ref r36, .ref r37, .ref r38, .ref r39, .ref r40, .ref r41, .int (0), .int (0), .int (0), .int (0), .int (0), .ref r47, .ref r48, .int (0), .ref r50, .ref r51, .ref r52, .int (0), .int (0), .int (0), .int (0), .int (0), .ref r58, .ref r59, .ref r60, .ref r61, .ref r62, .ref r63, .ref r64, .ref r65, .ref r66, .ref r67, .int (0)]))] := hD
  have hno : r_2 = 0 → (a0 < 0 ∨ 3 < a0) := fun h => hw_2.elim (fun q => absurd (q.1.symm.trans h) (by decide)) (fun q => q.2)
  have hyes : ¬ r_2 = 0 → (r_2 = 1 ∧ ¬ a0 < 0 ∧ ¬ 3 < a0) := fun h => hw_2.elim id (fun q => absurd q.1 h)
  refine lv_if_ne (tgt := 16) hx hb dX8_state_11 (by decide) (fun c_11 => ?_) (fun c_11 => ?_)
  · refine lv_iload_n hx hb dX8_state_16 rfl (lv_at hl 1 rfl) ?_
    refine lv_if_ne (tgt := 25) hx hb dX8_state_17 (by decide) (fun c_17 => ?_) (fun c_17 => ?_)
    · refine lv_iload_n hx hb dX8_state_25 rfl (lv_at hl 1 rfl) ?_
      refine lv_iconst (v := 1) hx hb dX8_state_26 (by decide) ?_
      refine lv_icmp_ne (tgt := 54) hx hb dX8_state_27 (by decide) (fun c_27 => ?_) (fun c_27 => ?_)
      · refine lv_aload_n hx hb dX8_state_54 rfl (lv_at hl 0 rfl) ?_
        refine va_get (D := D) (ci := 7) (v := .int (0)) (C := RX8) (T := TX8) (N := 69) hx hb hts (fun w h => List.mem_cons_of_mem _ (List.mem_append_right _ h)) hown hE.1 hP 0 rfl rfl 54 (by decide) (hts (.fieldLink RX8 326 "WornLinesModel" "state" "I") (by decide +kernel)) (fun _ h9 => h9) rfl dX8_state_55 ?_
        refine lv_if_ne (tgt := 65) hx hb dX8_state_58 (by decide) (fun c_58 => ?_) (fun c_58 => ?_)
        · exact absurd c_58 (by decide)
        · refine lv_iconst (v := 0) hx hb dX8_state_61 (by decide) ?_
          refine lv_goto (tgt := 81) hx hb dX8_state_62 (by decide) ?_
          have hP9 := hP.sub (ws' := []) [] rfl
          have hD9 := hD.sub (ws' := []) [] (by decide) rfl
          refine W.widen (k := 0) (n := 0) (Nat.le_of_ble_eq_true rfl) (Nat.le_of_ble_eq_true rfl) ?_
          exact W.iret (v := 0) hx hb hr (fun t ht hW => ⟨⟨0, (()), rfl, (by first | exact (fs_out (hno c_11)).symm | exact (fs_in (hyes c_11).2.1 (hyes c_11).2.2 (by assumption)).symm | exact (by rw [show a0 = 1 from by assumption]; rfl) | exact (by rw [show a0 = 0 from by assumption]; rfl)), by rw [ht]; exact hP9, by rw [hAe]; exact hD9⟩, by rw [hAe]; exact hS.F ht⟩) hS.2.2 dX8_state_81
      · refine lv_aload_n hx hb dX8_state_30 rfl (lv_at hl 0 rfl) ?_
        refine va_get (D := D) (ci := 7) (v := .int (0)) (C := RX8) (T := TX8) (N := 69) hx hb hts (fun w h => List.mem_cons_of_mem _ (List.mem_append_right _ h)) hown hE.1 hP 0 rfl rfl 54 (by decide) (hts (.fieldLink RX8 326 "WornLinesModel" "state" "I") (by decide +kernel)) (fun _ h9 => h9) rfl dX8_state_31 ?_
        refine lv_if_eq (tgt := 45) hx hb dX8_state_34 (by decide) (fun c_34 => ?_) (fun c_34 => ?_)
        · refine lv_iconst (v := (-1)) hx hb dX8_state_45 (by decide) ?_
          refine lv_goto (tgt := 53) hx hb dX8_state_46 (by decide) ?_
          have hP9 := hP.sub (ws' := []) [] rfl
          have hD9 := hD.sub (ws' := []) [] (by decide) rfl
          refine W.widen (k := 0) (n := 0) (Nat.le_of_ble_eq_true rfl) (Nat.le_of_ble_eq_true rfl) ?_
          exact W.iret (v := -1) hx hb hr (fun t ht hW => ⟨⟨-1, (()), rfl, (by first | exact (fs_out (hno c_11)).symm | exact (fs_in (hyes c_11).2.1 (hyes c_11).2.2 (by assumption)).symm | exact (by rw [show a0 = 1 from by assumption]; rfl) | exact (by rw [show a0 = 0 from by assumption]; rfl)), by rw [ht]; exact hP9, by rw [hAe]; exact hD9⟩, by rw [hAe]; exact hS.F ht⟩) hS.2.2 dX8_state_53
        · exact absurd c_34 (by decide)
    · refine lv_aload_n hx hb dX8_state_20 rfl (lv_at hl 0 rfl) ?_
      refine va_get (D := D) (ci := 7) (v := .int (0)) (C := RX8) (T := TX8) (N := 69) hx hb hts (fun w h => List.mem_cons_of_mem _ (List.mem_append_right _ h)) hown hE.1 hP 0 rfl rfl 54 (by decide) (hts (.fieldLink RX8 326 "WornLinesModel" "state" "I") (by decide +kernel)) (fun _ h9 => h9) rfl dX8_state_21 ?_
      have hP9 := hP.sub (ws' := []) [] rfl
      have hD9 := hD.sub (ws' := []) [] (by decide) rfl
      refine W.widen (k := 0) (n := 0) (Nat.le_of_ble_eq_true rfl) (Nat.le_of_ble_eq_true rfl) ?_
      exact W.iret (v := 0) hx hb hr (fun t ht hW => ⟨⟨0, (()), rfl, (by first | exact (fs_out (hno c_11)).symm | exact (fs_in (hyes c_11).2.1 (hyes c_11).2.2 (by assumption)).symm | exact (by rw [show a0 = 1 from by assumption]; rfl) | exact (by rw [show a0 = 0 from by assumption]; rfl)), by rw [ht]; exact hP9, by rw [hAe]; exact hD9⟩, by rw [hAe]; exact hS.F ht⟩) hS.2.2 dX8_state_24
  · refine lv_iconst (v := (-1)) hx hb dX8_state_14 (by decide) ?_
    have hP9 := hP.sub (ws' := []) [] rfl
    have hD9 := hD.sub (ws' := []) [] (by decide) rfl
    refine W.widen (k := 0) (n := 0) (Nat.le_of_ble_eq_true rfl) (Nat.le_of_ble_eq_true rfl) ?_
    exact W.iret (v := -1) hx hb hr (fun t ht hW => ⟨⟨-1, (()), rfl, (by first | exact (fs_out (hno c_11)).symm | exact (fs_in (hyes c_11).2.1 (hyes c_11).2.2 (by assumption)).symm | exact (by rw [show a0 = 1 from by assumption]; rfl) | exact (by rw [show a0 = 0 from by assumption]; rfl)), by rw [ht]; exact hP9, by rw [hAe]; exact hD9⟩, by rw [hAe]; exact hS.F ht⟩) hS.2.2 dX8_state_15

set_option maxHeartbeats 4000000 in
set_option maxRecDepth 100000 in
theorem c_X8_count (l : Launch) (D : va_G) (ak : Nat → ClassId) (ad : Nat → Nat) (sz : Nat) (h0 : Nat) (r2 : Nat) (r10 : Nat) (r11 : Nat) (r12 : Nat) (r13 : Nat) (r14 : Nat) (r15 : Nat) (r16 : Nat) (r17 : Nat) (r18 : Nat) (r19 : Nat) (r20 : Nat) (r21 : Nat) (r22 : Nat) (r23 : Nat) (r24 : Nat) (r25 : Nat) (r26 : Nat) (r27 : Nat) (r28 : Nat) (r30 : Nat) (r31 : Nat) (r32 : Nat) (r33 : Nat) (r34 : Nat) (r35 : Nat) (r36 : Nat) (r37 : Nat) (r38 : Nat) (r39 : Nat) (r40 : Nat) (r41 : Nat) (r47 : Nat) (r48 : Nat) (r50 : Nat) (r51 : Nat) (r52 : Nat) (r58 : Nat) (r59 : Nat) (r60 : Nat) (r61 : Nat) (r62 : Nat) (r63 : Nat) (r64 : Nat) (r65 : Nat) (r66 : Nat) (r67 : Nat) (a0 : Int32)  : Met l yX8_count wsX8_count ({ frames := 1, cells := 0, slots := 0, locals := 22 }) (cPre D ak ad [.ref h0, .int (a0)] ([(h0, .inr (7, [.int (0), .int (0), .ref r2, .int (0), .int (0), .int (0), .int (0), .long (0), .int (0), .int (0), .ref r10, .ref r11, .ref r12, .ref r13, .ref r14, .ref r15, .ref r16, .ref r17, .ref r18, .ref r19, .ref r20, .ref r21, .ref r22, .ref r23, .ref r24, .ref r25, .ref r26, .ref r27, .ref r28, .int (0), .ref r30, .ref r31, .ref r32, .ref r33, .ref r34, .ref r35, .ref r36, .ref r37, .ref r38, .ref r39, .ref r40, .ref r41, .int (0), .int (0), .int (0), .int (0), .int (0), .ref r47, .ref r48, .int (0), .ref r50, .ref r51, .ref r52, .int (0), .int (0), .int (0), .int (0), .int (0), .ref r58, .ref r59, .ref r60, .ref r61, .ref r62, .ref r63, .ref r64, .ref r65, .ref r66, .ref r67, .int (0)])), (r10, .inl (ak 0, 6, .inl (fun _ => 0))), (r11, .inl (ak 0, 6, .inl (fun _ => 0))), (r12, .inl (ak 0, 6, .inl (fun _ => 0))), (r13, .inl (ak 0, 6, .inl (fun _ => 0)))]) sz) (cI D (S := Unit) (fun (r : Int32) (u : Unit) => r = fr_count a0) (fun u => []) ([(h0, .inr (7, [.int (0), .int (0), .ref r2, .int (0), .int (0), .int (0), .int (0), .long (0), .int (0), .int (0), .ref r10, .ref r11, .ref r12, .ref r13, .ref r14, .ref r15, .ref r16, .ref r17, .ref r18, .ref r19, .ref r20, .ref r21, .ref r22, .ref r23, .ref r24, .ref r25, .ref r26, .ref r27, .ref r28, .int (0), .ref r30, .ref r31, .ref r32, .ref r33, .ref r34, .ref r35, .ref r36, .ref r37, .ref r38, .ref r39, .ref r40, .ref r41, .int (0), .int (0), .int (0), .int (0), .int (0), .ref r47, .ref r48, .int (0), .ref r50, .ref r51, .ref r52, .int (0), .int (0), .int (0), .int (0), .int (0), .ref r58, .ref r59, .ref r60, .ref r61, .ref r62, .ref r63, .ref r64, .ref r65, .ref r66, .ref r67, .int (0)])), (r10, .inl (ak 0, 6, .inl (fun _ => 0))), (r11, .inl (ak 0, 6, .inl (fun _ => 0))), (r12, .inl (ak 0, 6, .inl (fun _ => 0))), (r13, .inl (ak 0, 6, .inl (fun _ => 0)))]) sz) 0 0 (va_A ([(h0, .inr (7, [.int (0), .int (0), .ref r2, .int (0), .int (0), .int (0), .int (0), .long (0), .int (0), .int (0), .ref r10, .ref r11, .ref r12, .ref r13, .ref r14, .ref r15, .ref r16, .ref r17, .ref r18, .ref r19, .ref r20, .ref r21, .ref r22, .ref r23, .ref r24, .ref r25, .ref r26, .ref r27, .ref r28, .int (0), .ref r30, .ref r31, .ref r32, .ref r33, .ref r34, .ref r35, .ref r36, .ref r37, .ref r38, .ref r39, .ref r40, .ref r41, .int (0), .int (0), .int (0), .int (0), .int (0), .ref r47, .ref r48, .int (0), .ref r50, .ref r51, .ref r52, .int (0), .int (0), .int (0), .int (0), .int (0), .ref r58, .ref r59, .ref r60, .ref r61, .ref r62, .ref r63, .ref r64, .ref r65, .ref r66, .ref r67, .int (0)])), (r10, .inl (ak 0, 6, .inl (fun _ => 0))), (r11, .inl (ak 0, 6, .inl (fun _ => 0))), (r12, .inl (ak 0, 6, .inl (fun _ => 0))), (r13, .inl (ak 0, 6, .inl (fun _ => 0)))]) sz) := by
  refine Met.ofW (cc := cX8_count) (maxL := 2) (ret := (some .int)) (by decide) rfl ?_
  intro p e s m args below meth c s₁ B hml hv
  obtain ⟨rfl, hsz, hP, hE, hD0, hT⟩ := hv
  have hx := B.exec
  have hb := B.bytes
  have hr := B.returns
  have hts := atoms_spec (ws := wsX8_count) B.pre
  have hown : s.vm.findClass RX8 = some m.cls := findClass_of_methodNamed B.named
  have hlocks := B.notSynchronized
  subst hsz
  have hD := hD0.self (sz := s.heap.size)
  generalize hAe : va_A ([(h0, .inr (7, [.int (0), .int (0), .ref r2, .int (0), .int (0), .int (0), .int (0), .long (0), .int (0), .int (0), .ref r10, .ref r11, .ref r12, .ref r13, .ref r14, .ref r15, .ref r16, .ref r17, .ref r18, .ref r19, .ref r20, .ref r21, .ref r22, .ref r23, .ref r24, .ref r25, .ref r26, .ref r27, .ref r28, .int (0), .ref r30, .ref r31, .ref r32, .ref r33, .ref r34, .ref r35, .ref r36, .ref r37, .ref r38, .ref r39, .ref r40, .ref r41, .int (0), .int (0), .int (0), .int (0), .int (0), .ref r47, .ref r48, .int (0), .ref r50, .ref r51, .ref r52, .int (0), .int (0), .int (0), .int (0), .int (0), .ref r58, .ref r59, .ref r60, .ref r61, .ref r62, .ref r63, .ref r64, .ref r65, .ref r66, .ref r67, .int (0)])), (r10, .inl (ak 0, 6, .inl (fun _ => 0))), (r11, .inl (ak 0, 6, .inl (fun _ => 0))), (r12, .inl (ak 0, 6, .inl (fun _ => 0))), (r13, .inl (ak 0, 6, .inl (fun _ => 0)))]) s.heap.size = A at hD hT ⊢
  have hA : ∀ q : Nat, s.heap.size ≤ q → A q := fun q h => by rw [← hAe]; exact Or.inr h
  have hS : va_S A s.heap s.heap [] := va_S.rf
  have hl := lv_entry ([.ref h0, .int (a0)]) (n := 2) (Nat.le_of_ble_eq_true rfl)
  rw [lg_entry_eq]
  generalize (lg_sl ([.ref h0, .int (a0)]) ++ List.replicate (2 - (lg_sl ([.ref h0, .int (a0)])).length) Slot.unset).toArray = ls at hl ⊢
  have hl : lv_has ls 2 [(0, .ref h0), (1, .int (a0))] := hl
  have hP : va_P D vwCl [(h0, .inr (7, [.int (0), .int (0), .ref r2, .int (0), .int (0), .int (0), .int (0), .long (0), .int (0), .int (0), .ref r10, .ref r11, .ref r12, .ref r13, .ref r14, .ref r15, .ref r16, .ref r17, .ref r18, .ref r19, .ref r20, .ref r21, .ref r22, .ref r23, .ref r24, .ref r25, .ref r26, .ref r27, .ref r28, .int (0), .ref r30, .ref r31, .ref r32, .ref r33, .ref r34, .ref r35, .ref r36, .ref r37, .ref r38, .ref r39, .ref r40, .ref r41, .int (0), .int (0), .int (0), .int (0), .int (0), .ref r47, .ref r48, .int (0), .ref r50, .ref r51, .ref r52, .int (0), .int (0), .int (0), .int (0), .int (0), .ref r58, .ref r59, .ref r60, .ref r61, .ref r62, .ref r63, .ref r64, .ref r65, .ref r66, .ref r67, .int (0)])), (r10, .inl (ak 0, 6, .inl (fun _ => 0))), (r11, .inl (ak 0, 6, .inl (fun _ => 0))), (r12, .inl (ak 0, 6, .inl (fun _ => 0))), (r13, .inl (ak 0, 6, .inl (fun _ => 0)))] s.heap := hP
  refine lv_aload_n hx hb dX8_count_0 rfl (lv_at hl 0 rfl) ?_
  refine lv_iconst (v := 0) hx hb dX8_count_1 (by decide) ?_
  refine va_put (D := D) (ci := 7) (v := .int (0)) (ty := .int) (C := RX8) (T := TX8) (N := 69) hx hb hts (fun w h => List.mem_cons_of_mem _ (List.mem_append_right _ h)) tyX8 tyX8_ok nmX8 hown hE.1 hP hD hS 0 rfl rfl 0 (by decide) (hts (.fieldLink RX8 153 "WornLinesModel" "thrown" "I") (by decide +kernel)) (fun _ h9 => h9) rfl (by decide +kernel) rfl rfl (Nat.le_of_ble_eq_true rfl) dX8_count_2 (fun H locs hP hD hS => ?_)
  have hP : va_P D vwCl [(h0, .inr (7, [.int (0), .int (0), .ref r2, .int (0), .int (0), .int (0), .int (0), .long (0), .int (0), .int (0), .ref r10, .ref r11, .ref r12, .ref r13, .ref r14, .ref r15, .ref r16, .ref r17, .ref r18, .ref r19, .ref r20, .ref r21, .ref r22, .ref r23, .ref r24, .ref r25, .ref r26, .ref r27, .ref r28, .int (0), .ref r30, .ref r31, .ref r32, .ref r33, .ref r34, .ref r35, .ref r36, .ref r37, .ref r38, .ref r39, .ref r40, .ref r41, .int (0), .int (0), .int (0), .int (0), .int (0), .ref r47, .ref r48, .int (0), .ref r50, .ref r51, .ref r52, .int (0), .int (0), .int (0), .int (0), .int (0), .ref r58, .ref r59, .ref r60, .ref r61, .ref r62, .ref r63, .ref r64, .ref r65, .ref r66, .ref r67, .int (0)])), (r10, .inl (ak 0, 6, .inl (fun _ => 0))), (r11, .inl (ak 0, 6, .inl (fun _ => 0))), (r12, .inl (ak 0, 6, .inl (fun _ => 0))), (r13, .inl (ak 0, 6, .inl (fun _ => 0)))] H := hP
  have hD : va_D A [(h0, .inr (7, [.int (0), .int (0), .ref r2, .int (0), .int (0), .int (0), .int (0), .long (0), .int (0), .int (0), .ref r10, .ref r11, .ref r12, .ref r13, .ref r14, .ref r15, .ref r16, .ref r17, .ref r18, .ref r19, .ref r20, .ref r21, .ref r22, .ref r23, .ref r24, .ref r25, .ref r26, .ref r27, .ref r28, .int (0), .ref r30, .ref r31, .ref r32, .ref r33, .ref r34, .ref r35, .ref r36, .ref r37, .ref r38, .ref r39, .ref r40, .ref r41, .int (0), .int (0), .int (0), .int (0), .int (0), .ref r47, .ref r48, .int (0), .ref r50, .ref r51, .ref r52, .int (0), .int (0), .int (0), .int (0), .int (0), .ref r58, .ref r59, .ref r60, .ref r61, .ref r62, .ref r63, .ref r64, .ref r65, .ref r66, .ref r67, .int (0)])), (r10, .inl (ak 0, 6, .inl (fun _ => 0))), (r11, .inl (ak 0, 6, .inl (fun _ => 0))), (r12, .inl (ak 0, 6, .inl (fun _ => 0))), (r13, .inl (ak 0, 6, .inl (fun _ => 0)))] := hD
  refine lv_iload_n hx hb dX8_count_5 rfl (lv_at hl 1 rfl) ?_
  refine lv_iconst (v := 0) hx hb dX8_count_6 (by decide) ?_
  refine lv_iconst (v := 4) hx hb dX8_count_7 (by decide) ?_
  refine kc_i (wc := []) (wr := [(h0, .inr (7, [.int (0), .int (0), .ref r2, .int (0), .int (0), .int (0), .int (0), .long (0), .int (0), .int (0), .ref r10, .ref r11, .ref r12, .ref r13, .ref r14, .ref r15, .ref r16, .ref r17, .ref r18, .ref r19, .ref r20, .ref r21, .ref r22, .ref r23, .ref r24, .ref r25, .ref r26, .ref r27, .ref r28, .int (0), .ref r30, .ref r31, .ref r32, .ref r33, .ref r34, .ref r35, .ref r36, .ref r37, .ref r38, .ref r39, .ref r40, .ref r41, .int (0), .int (0), .int (0), .int (0), .int (0), .ref r47, .ref r48, .int (0), .ref r50, .ref r51, .ref r52, .int (0), .int (0), .int (0), .int (0), .int (0), .ref r58, .ref r59, .ref r60, .ref r61, .ref r62, .ref r63, .ref r64, .ref r65, .ref r66, .ref r67, .int (0)])), (r10, .inl (ak 0, 6, .inl (fun _ => 0))), (r11, .inl (ak 0, 6, .inl (fun _ => 0))), (r12, .inl (ak 0, 6, .inl (fun _ => 0))), (r13, .inl (ak 0, 6, .inl (fun _ => 0)))]) hP hD hS hA [] [0, 1, 2, 3, 4] rfl rfl (by decide) (by decide) (va_runS (As := [.int (a0), .int (0), .int (4)]) (rest := []) ⟨hx, hb, hml, hown, hts⟩ (c_X8_within l D ak ad _ (a0) (0) (4) ) (va_cwS 3 hts gX8_count_X8_within rfl rfl rfl (by decide +kernel) ⟨Nat.le_of_ble_eq_true rfl, Nat.le_of_ble_eq_true rfl⟩) (kc_pre (As := [.int (a0), .int (0), .int (4)]) (wc := []) hE hT hP hD hS hA [] (by decide) rfl rfl) rfl rfl hl.1 rfl (lv_room (Nat.le_of_ble_eq_true rfl)) dX8_count_8 ⟨Nat.le_of_ble_eq_true rfl, Nat.le_of_ble_eq_true rfl⟩) (fun r_2 u_0 H locs hw_2 hP hD hS => ?_)
  have hP : va_P D vwCl [(h0, .inr (7, [.int (0), .int (0), .ref r2, .int (0), .int (0), .int (0), .int (0), .long (0), .int (0), .int (0), .ref r10, .ref r11, .ref r12, .ref r13, .ref r14, .ref r15, .ref r16, .ref r17, .ref r18, .ref r19, .ref r20, .ref r21, .ref r22, .ref r23, .ref r24, .ref r25, .ref r26, .ref r27, .ref r28, .int (0), .ref r30, .ref r31, .ref r32, .ref r33, .ref r34, .ref r35, .ref r36, .ref r37, .ref r38, .ref r39, .ref r40, .ref r41, .int (0), .int (0), .int (0), .int (0), .int (0), .ref r47, .ref r48, .int (0), .ref r50, .ref r51, .ref r52, .int (0), .int (0), .int (0), .int (0), .int (0), .ref r58, .ref r59, .ref r60, .ref r61, .ref r62, .ref r63, .ref r64, .ref r65, .ref r66, .ref r67, .int (0)])), (r10, .inl (ak 0, 6, .inl (fun _ => 0))), (r11, .inl (ak 0, 6, .inl (fun _ => 0))), (r12, .inl (ak 0, 6, .inl (fun _ => 0))), (r13, .inl (ak 0, 6, .inl (fun _ => 0)))] H := hP
  have hD : va_D A [(h0, .inr (7, [.int (0), .int (0), .ref r2, .int (0), .int (0), .int (0), .int (0), .long (0), .int (0), .int (0), .ref r10, .ref r11, .ref r12, .ref r13, .ref r14, .ref r15, .ref r16, .ref r17, .ref r18, .ref r19, .ref r20, .ref r21, .ref r22, .ref r23, .ref r24, .ref r25, .ref r26, .ref r27, .ref r28, .int (0), .ref r30, .ref r31, .ref r32, .ref r33, .ref r34, .ref r35, .ref r36, .ref r37, .ref r38, .ref r39, .ref r40, .ref r41, .int (0), .int (0), .int (0), .int (0), .int (0), .ref r47, .ref r48, .int (0), .ref r50, .ref r51, .ref r52, .int (0), .int (0), .int (0), .int (0), .int (0), .ref r58, .ref r59, .ref r60, .ref r61, .ref r62, .ref r63, .ref r64, .ref r65, .ref r66, .ref r67, .int (0)])), (r10, .inl (ak 0, 6, .inl (fun _ => 0))), (r11, .inl (ak 0, 6, .inl (fun _ => 0))), (r12, .inl (ak 0, 6, .inl (fun _ => 0))), (r13, .inl (ak 0, 6, .inl (fun _ => 0)))] := hD
  have hno : r_2 = 0 → (a0 < 0 ∨ 4 < a0) := fun h => hw_2.elim (fun q => absurd (q.1.symm.trans h) (by decide)) (fun q => q.2)
  have hyes : ¬ r_2 = 0 → (r_2 = 1 ∧ ¬ a0 < 0 ∧ ¬ 4 < a0) := fun h => hw_2.elim id (fun q => absurd q.1 h)
  refine lv_if_ne (tgt := 18) hx hb dX8_count_11 (by decide) (fun c_11 => ?_) (fun c_11 => ?_)
  · refine lv_iload_n hx hb dX8_count_18 rfl (lv_at hl 1 rfl) ?_
    refine lv_if_ne (tgt := 31) hx hb dX8_count_19 (by decide) (fun c_19 => ?_) (fun c_19 => ?_)
    · refine lv_iload_n hx hb dX8_count_31 rfl (lv_at hl 1 rfl) ?_
      refine lv_iconst (v := 1) hx hb dX8_count_32 (by decide) ?_
      refine lv_icmp_ne (tgt := 45) hx hb dX8_count_33 (by decide) (fun c_33 => ?_) (fun c_33 => ?_)
      · refine lv_iload_n hx hb dX8_count_45 rfl (lv_at hl 1 rfl) ?_
        refine lv_iconst (v := 2) hx hb dX8_count_46 (by decide) ?_
        refine lv_icmp_ne (tgt := 59) hx hb dX8_count_47 (by decide) (fun c_47 => ?_) (fun c_47 => ?_)
        · refine lv_iload_n hx hb dX8_count_59 rfl (lv_at hl 1 rfl) ?_
          refine lv_iconst (v := 3) hx hb dX8_count_60 (by decide) ?_
          refine lv_icmp_ne (tgt := 73) hx hb dX8_count_61 (by decide) (fun c_61 => ?_) (fun c_61 => ?_)
          · refine lv_aload_n hx hb dX8_count_73 rfl (lv_at hl 0 rfl) ?_
            refine va_get (D := D) (ci := 7) (v := .int (0)) (C := RX8) (T := TX8) (N := 69) hx hb hts (fun w h => List.mem_cons_of_mem _ (List.mem_append_right _ h)) hown hE.1 hP 0 rfl rfl 1 (by decide) (hts (.fieldLink RX8 159 "WornLinesModel" "taped" "I") (by decide +kernel)) (fun _ h9 => h9) rfl dX8_count_74 ?_
            have hP9 := hP.sub (ws' := []) [] rfl
            have hD9 := hD.sub (ws' := []) [] (by decide) rfl
            refine W.widen (k := 0) (n := 0) (Nat.le_of_ble_eq_true rfl) (Nat.le_of_ble_eq_true rfl) ?_
            exact W.iret (v := 0) hx hb hr (fun t ht hW => ⟨⟨0, (()), rfl, (by first | exact (fc_out (hno c_11)).symm | exact (fc_in (hyes c_11).2.1 (hyes c_11).2.2).symm), by rw [ht]; exact hP9, by rw [hAe]; exact hD9⟩, by rw [hAe]; exact hS.F ht⟩) hS.2.2 dX8_count_77
          · refine lv_aload_n hx hb dX8_count_64 rfl (lv_at hl 0 rfl) ?_
            refine va_get (D := D) (ci := 7) (v := .ref r13) (C := RX8) (T := TX8) (N := 69) hx hb hts (fun w h => List.mem_cons_of_mem _ (List.mem_append_right _ h)) hown hE.1 hP 0 rfl rfl 13 (by decide) (hts (.fieldLink RX8 22 "WornLinesModel" "lines" "[I") (by decide +kernel)) (fun _ h9 => h9) rfl dX8_count_65 ?_
            refine lv_iconst (v := 0) hx hb dX8_count_68 (by decide) ?_
            refine va_iald hx hb hE.1 hP 4 0 rfl rfl (by unfold vp_in; decide) dX8_count_69 ?_
            refine W.eq (g2 := F0 m 70 ls (.int (0) :: [])) rfl ?_
            refine lv_goto (tgt := 77) hx hb dX8_count_70 (by decide) ?_
            have hP9 := hP.sub (ws' := []) [] rfl
            have hD9 := hD.sub (ws' := []) [] (by decide) rfl
            refine W.widen (k := 0) (n := 0) (Nat.le_of_ble_eq_true rfl) (Nat.le_of_ble_eq_true rfl) ?_
            exact W.iret (v := 0) hx hb hr (fun t ht hW => ⟨⟨0, (()), rfl, (by first | exact (fc_out (hno c_11)).symm | exact (fc_in (hyes c_11).2.1 (hyes c_11).2.2).symm), by rw [ht]; exact hP9, by rw [hAe]; exact hD9⟩, by rw [hAe]; exact hS.F ht⟩) hS.2.2 dX8_count_77
        · refine lv_aload_n hx hb dX8_count_50 rfl (lv_at hl 0 rfl) ?_
          refine va_get (D := D) (ci := 7) (v := .ref r12) (C := RX8) (T := TX8) (N := 69) hx hb hts (fun w h => List.mem_cons_of_mem _ (List.mem_append_right _ h)) hown hE.1 hP 0 rfl rfl 12 (by decide) (hts (.fieldLink RX8 19 "WornLinesModel" "inputs" "[I") (by decide +kernel)) (fun _ h9 => h9) rfl dX8_count_51 ?_
          refine lv_iconst (v := 0) hx hb dX8_count_54 (by decide) ?_
          refine va_iald hx hb hE.1 hP 3 0 rfl rfl (by unfold vp_in; decide) dX8_count_55 ?_
          refine W.eq (g2 := F0 m 56 ls (.int (0) :: [])) rfl ?_
          refine lv_goto (tgt := 77) hx hb dX8_count_56 (by decide) ?_
          have hP9 := hP.sub (ws' := []) [] rfl
          have hD9 := hD.sub (ws' := []) [] (by decide) rfl
          refine W.widen (k := 0) (n := 0) (Nat.le_of_ble_eq_true rfl) (Nat.le_of_ble_eq_true rfl) ?_
          exact W.iret (v := 0) hx hb hr (fun t ht hW => ⟨⟨0, (()), rfl, (by first | exact (fc_out (hno c_11)).symm | exact (fc_in (hyes c_11).2.1 (hyes c_11).2.2).symm), by rw [ht]; exact hP9, by rw [hAe]; exact hD9⟩, by rw [hAe]; exact hS.F ht⟩) hS.2.2 dX8_count_77
      · refine lv_aload_n hx hb dX8_count_36 rfl (lv_at hl 0 rfl) ?_
        refine va_get (D := D) (ci := 7) (v := .ref r11) (C := RX8) (T := TX8) (N := 69) hx hb hts (fun w h => List.mem_cons_of_mem _ (List.mem_append_right _ h)) hown hE.1 hP 0 rfl rfl 11 (by decide) (hts (.fieldLink RX8 16 "WornLinesModel" "cells" "[I") (by decide +kernel)) (fun _ h9 => h9) rfl dX8_count_37 ?_
        refine lv_iconst (v := 0) hx hb dX8_count_40 (by decide) ?_
        refine va_iald hx hb hE.1 hP 2 0 rfl rfl (by unfold vp_in; decide) dX8_count_41 ?_
        refine W.eq (g2 := F0 m 42 ls (.int (0) :: [])) rfl ?_
        refine lv_goto (tgt := 77) hx hb dX8_count_42 (by decide) ?_
        have hP9 := hP.sub (ws' := []) [] rfl
        have hD9 := hD.sub (ws' := []) [] (by decide) rfl
        refine W.widen (k := 0) (n := 0) (Nat.le_of_ble_eq_true rfl) (Nat.le_of_ble_eq_true rfl) ?_
        exact W.iret (v := 0) hx hb hr (fun t ht hW => ⟨⟨0, (()), rfl, (by first | exact (fc_out (hno c_11)).symm | exact (fc_in (hyes c_11).2.1 (hyes c_11).2.2).symm), by rw [ht]; exact hP9, by rw [hAe]; exact hD9⟩, by rw [hAe]; exact hS.F ht⟩) hS.2.2 dX8_count_77
    · refine lv_aload_n hx hb dX8_count_22 rfl (lv_at hl 0 rfl) ?_
      refine va_get (D := D) (ci := 7) (v := .ref r10) (C := RX8) (T := TX8) (N := 69) hx hb hts (fun w h => List.mem_cons_of_mem _ (List.mem_append_right _ h)) hown hE.1 hP 0 rfl rfl 10 (by decide) (hts (.fieldLink RX8 13 "WornLinesModel" "stuffs" "[I") (by decide +kernel)) (fun _ h9 => h9) rfl dX8_count_23 ?_
      refine lv_iconst (v := 0) hx hb dX8_count_26 (by decide) ?_
      refine va_iald hx hb hE.1 hP 1 0 rfl rfl (by unfold vp_in; decide) dX8_count_27 ?_
      refine W.eq (g2 := F0 m 28 ls (.int (0) :: [])) rfl ?_
      refine lv_goto (tgt := 77) hx hb dX8_count_28 (by decide) ?_
      have hP9 := hP.sub (ws' := []) [] rfl
      have hD9 := hD.sub (ws' := []) [] (by decide) rfl
      refine W.widen (k := 0) (n := 0) (Nat.le_of_ble_eq_true rfl) (Nat.le_of_ble_eq_true rfl) ?_
      exact W.iret (v := 0) hx hb hr (fun t ht hW => ⟨⟨0, (()), rfl, (by first | exact (fc_out (hno c_11)).symm | exact (fc_in (hyes c_11).2.1 (hyes c_11).2.2).symm), by rw [ht]; exact hP9, by rw [hAe]; exact hD9⟩, by rw [hAe]; exact hS.F ht⟩) hS.2.2 dX8_count_77
  · refine lv_iconst (v := (-1)) hx hb dX8_count_14 (by decide) ?_
    refine lv_goto (tgt := 77) hx hb dX8_count_15 (by decide) ?_
    have hP9 := hP.sub (ws' := []) [] rfl
    have hD9 := hD.sub (ws' := []) [] (by decide) rfl
    refine W.widen (k := 0) (n := 0) (Nat.le_of_ble_eq_true rfl) (Nat.le_of_ble_eq_true rfl) ?_
    exact W.iret (v := -1) hx hb hr (fun t ht hW => ⟨⟨-1, (()), rfl, (by first | exact (fc_out (hno c_11)).symm | exact (fc_in (hyes c_11).2.1 (hyes c_11).2.2).symm), by rw [ht]; exact hP9, by rw [hAe]; exact hD9⟩, by rw [hAe]; exact hS.F ht⟩) hS.2.2 dX8_count_77

set_option maxHeartbeats 4000000 in
set_option maxRecDepth 100000 in
theorem c_X8_cell (l : Launch) (D : va_G) (ak : Nat → ClassId) (ad : Nat → Nat) (sz : Nat) (h0 : Nat) (r2 : Nat) (r10 : Nat) (r11 : Nat) (r12 : Nat) (r13 : Nat) (r14 : Nat) (r15 : Nat) (r16 : Nat) (r17 : Nat) (r18 : Nat) (r19 : Nat) (r20 : Nat) (r21 : Nat) (r22 : Nat) (r23 : Nat) (r24 : Nat) (r25 : Nat) (r26 : Nat) (r27 : Nat) (r28 : Nat) (r30 : Nat) (r31 : Nat) (r32 : Nat) (r33 : Nat) (r34 : Nat) (r35 : Nat) (r36 : Nat) (r37 : Nat) (r38 : Nat) (r39 : Nat) (r40 : Nat) (r41 : Nat) (r47 : Nat) (r48 : Nat) (r50 : Nat) (r51 : Nat) (r52 : Nat) (r58 : Nat) (r59 : Nat) (r60 : Nat) (r61 : Nat) (r62 : Nat) (r63 : Nat) (r64 : Nat) (r65 : Nat) (r66 : Nat) (r67 : Nat) (a0 : Int32)  : Met l yX8_cell wsX8_cell ({ frames := 0, cells := 0, slots := 0, locals := 0 }) (cPre D ak ad [.ref h0, .int (a0)] ([(h0, .inr (7, [.int (0), .int (0), .ref r2, .int (0), .int (0), .int (0), .int (0), .long (0), .int (0), .int (0), .ref r10, .ref r11, .ref r12, .ref r13, .ref r14, .ref r15, .ref r16, .ref r17, .ref r18, .ref r19, .ref r20, .ref r21, .ref r22, .ref r23, .ref r24, .ref r25, .ref r26, .ref r27, .ref r28, .int (0), .ref r30, .ref r31, .ref r32, .ref r33, .ref r34, .ref r35, .ref r36, .ref r37, .ref r38, .ref r39, .ref r40, .ref r41, .int (0), .int (0), .int (0), .int (0), .int (0), .ref r47, .ref r48, .int (0), .ref r50, .ref r51, .ref r52, .int (0), .int (0), .int (0), .int (0), .int (0), .ref r58, .ref r59, .ref r60, .ref r61, .ref r62, .ref r63, .ref r64, .ref r65, .ref r66, .ref r67, .int (0)])), (r11, .inl (ak 0, 6, .inl (fun _ => 0)))]) sz) (cI D (S := Unit) (fun (r : Int32) (u : Unit) => r = 0) (fun u => [(h0, .inr (7, [.int (1), .int (0), .ref r2, .int (0), .int (0), .int (0), .int (0), .long (0), .int (0), .int (0), .ref r10, .ref r11, .ref r12, .ref r13, .ref r14, .ref r15, .ref r16, .ref r17, .ref r18, .ref r19, .ref r20, .ref r21, .ref r22, .ref r23, .ref r24, .ref r25, .ref r26, .ref r27, .ref r28, .int (0), .ref r30, .ref r31, .ref r32, .ref r33, .ref r34, .ref r35, .ref r36, .ref r37, .ref r38, .ref r39, .ref r40, .ref r41, .int (0), .int (0), .int (0), .int (0), .int (0), .ref r47, .ref r48, .int (0), .ref r50, .ref r51, .ref r52, .int (0), .int (0), .int (0), .int (0), .int (0), .ref r58, .ref r59, .ref r60, .ref r61, .ref r62, .ref r63, .ref r64, .ref r65, .ref r66, .ref r67, .int (0)]))]) ([(h0, .inr (7, [.int (0), .int (0), .ref r2, .int (0), .int (0), .int (0), .int (0), .long (0), .int (0), .int (0), .ref r10, .ref r11, .ref r12, .ref r13, .ref r14, .ref r15, .ref r16, .ref r17, .ref r18, .ref r19, .ref r20, .ref r21, .ref r22, .ref r23, .ref r24, .ref r25, .ref r26, .ref r27, .ref r28, .int (0), .ref r30, .ref r31, .ref r32, .ref r33, .ref r34, .ref r35, .ref r36, .ref r37, .ref r38, .ref r39, .ref r40, .ref r41, .int (0), .int (0), .int (0), .int (0), .int (0), .ref r47, .ref r48, .int (0), .ref r50, .ref r51, .ref r52, .int (0), .int (0), .int (0), .int (0), .int (0), .ref r58, .ref r59, .ref r60, .ref r61, .ref r62, .ref r63, .ref r64, .ref r65, .ref r66, .ref r67, .int (0)])), (r11, .inl (ak 0, 6, .inl (fun _ => 0)))]) sz) 0 0 (va_A ([(h0, .inr (7, [.int (0), .int (0), .ref r2, .int (0), .int (0), .int (0), .int (0), .long (0), .int (0), .int (0), .ref r10, .ref r11, .ref r12, .ref r13, .ref r14, .ref r15, .ref r16, .ref r17, .ref r18, .ref r19, .ref r20, .ref r21, .ref r22, .ref r23, .ref r24, .ref r25, .ref r26, .ref r27, .ref r28, .int (0), .ref r30, .ref r31, .ref r32, .ref r33, .ref r34, .ref r35, .ref r36, .ref r37, .ref r38, .ref r39, .ref r40, .ref r41, .int (0), .int (0), .int (0), .int (0), .int (0), .ref r47, .ref r48, .int (0), .ref r50, .ref r51, .ref r52, .int (0), .int (0), .int (0), .int (0), .int (0), .ref r58, .ref r59, .ref r60, .ref r61, .ref r62, .ref r63, .ref r64, .ref r65, .ref r66, .ref r67, .int (0)])), (r11, .inl (ak 0, 6, .inl (fun _ => 0)))]) sz) := by
  refine Met.ofW (cc := cX8_cell) (maxL := 2) (ret := (some .int)) (by decide) rfl ?_
  intro p e s m args below meth c s₁ B hml hv
  obtain ⟨rfl, hsz, hP, hE, hD0, hT⟩ := hv
  have hx := B.exec
  have hb := B.bytes
  have hr := B.returns
  have hts := atoms_spec (ws := wsX8_cell) B.pre
  have hown : s.vm.findClass RX8 = some m.cls := findClass_of_methodNamed B.named
  have hlocks := B.notSynchronized
  subst hsz
  have hD := hD0.self (sz := s.heap.size)
  generalize hAe : va_A ([(h0, .inr (7, [.int (0), .int (0), .ref r2, .int (0), .int (0), .int (0), .int (0), .long (0), .int (0), .int (0), .ref r10, .ref r11, .ref r12, .ref r13, .ref r14, .ref r15, .ref r16, .ref r17, .ref r18, .ref r19, .ref r20, .ref r21, .ref r22, .ref r23, .ref r24, .ref r25, .ref r26, .ref r27, .ref r28, .int (0), .ref r30, .ref r31, .ref r32, .ref r33, .ref r34, .ref r35, .ref r36, .ref r37, .ref r38, .ref r39, .ref r40, .ref r41, .int (0), .int (0), .int (0), .int (0), .int (0), .ref r47, .ref r48, .int (0), .ref r50, .ref r51, .ref r52, .int (0), .int (0), .int (0), .int (0), .int (0), .ref r58, .ref r59, .ref r60, .ref r61, .ref r62, .ref r63, .ref r64, .ref r65, .ref r66, .ref r67, .int (0)])), (r11, .inl (ak 0, 6, .inl (fun _ => 0)))]) s.heap.size = A at hD hT ⊢
  have hA : ∀ q : Nat, s.heap.size ≤ q → A q := fun q h => by rw [← hAe]; exact Or.inr h
  have hS : va_S A s.heap s.heap [] := va_S.rf
  have hl := lv_entry ([.ref h0, .int (a0)]) (n := 2) (Nat.le_of_ble_eq_true rfl)
  rw [lg_entry_eq]
  generalize (lg_sl ([.ref h0, .int (a0)]) ++ List.replicate (2 - (lg_sl ([.ref h0, .int (a0)])).length) Slot.unset).toArray = ls at hl ⊢
  have hl : lv_has ls 2 [(0, .ref h0), (1, .int (a0))] := hl
  have hP : va_P D vwCl [(h0, .inr (7, [.int (0), .int (0), .ref r2, .int (0), .int (0), .int (0), .int (0), .long (0), .int (0), .int (0), .ref r10, .ref r11, .ref r12, .ref r13, .ref r14, .ref r15, .ref r16, .ref r17, .ref r18, .ref r19, .ref r20, .ref r21, .ref r22, .ref r23, .ref r24, .ref r25, .ref r26, .ref r27, .ref r28, .int (0), .ref r30, .ref r31, .ref r32, .ref r33, .ref r34, .ref r35, .ref r36, .ref r37, .ref r38, .ref r39, .ref r40, .ref r41, .int (0), .int (0), .int (0), .int (0), .int (0), .ref r47, .ref r48, .int (0), .ref r50, .ref r51, .ref r52, .int (0), .int (0), .int (0), .int (0), .int (0), .ref r58, .ref r59, .ref r60, .ref r61, .ref r62, .ref r63, .ref r64, .ref r65, .ref r66, .ref r67, .int (0)])), (r11, .inl (ak 0, 6, .inl (fun _ => 0)))] s.heap := hP
  refine lv_aload_n hx hb dX8_cell_0 rfl (lv_at hl 0 rfl) ?_
  refine lv_aload_n hx hb dX8_cell_1 rfl (lv_at hl 0 rfl) ?_
  refine va_get (D := D) (ci := 7) (v := .int (0)) (C := RX8) (T := TX8) (N := 69) hx hb hts (fun w h => List.mem_cons_of_mem _ (List.mem_append_right _ h)) hown hE.1 hP 0 rfl rfl 54 (by decide) (hts (.fieldLink RX8 326 "WornLinesModel" "state" "I") (by decide +kernel)) (fun _ h9 => h9) rfl dX8_cell_2 ?_
  refine lv_if_le (tgt := 20) hx hb dX8_cell_5 (by decide) (fun c_5 => ?_) (fun c_5 => ?_)
  · refine lv_iconst (v := 1) hx hb dX8_cell_20 (by decide) ?_
    refine va_put (D := D) (ci := 7) (v := .int (1)) (ty := .int) (C := RX8) (T := TX8) (N := 69) hx hb hts (fun w h => List.mem_cons_of_mem _ (List.mem_append_right _ h)) tyX8 tyX8_ok nmX8 hown hE.1 hP hD hS 0 rfl rfl 0 (by decide) (hts (.fieldLink RX8 153 "WornLinesModel" "thrown" "I") (by decide +kernel)) (fun _ h9 => h9) rfl (by decide +kernel) rfl rfl (Nat.le_of_ble_eq_true rfl) dX8_cell_21 (fun H locs hP hD hS => ?_)
    have hP : va_P D vwCl [(h0, .inr (7, [.int (1), .int (0), .ref r2, .int (0), .int (0), .int (0), .int (0), .long (0), .int (0), .int (0), .ref r10, .ref r11, .ref r12, .ref r13, .ref r14, .ref r15, .ref r16, .ref r17, .ref r18, .ref r19, .ref r20, .ref r21, .ref r22, .ref r23, .ref r24, .ref r25, .ref r26, .ref r27, .ref r28, .int (0), .ref r30, .ref r31, .ref r32, .ref r33, .ref r34, .ref r35, .ref r36, .ref r37, .ref r38, .ref r39, .ref r40, .ref r41, .int (0), .int (0), .int (0), .int (0), .int (0), .ref r47, .ref r48, .int (0), .ref r50, .ref r51, .ref r52, .int (0), .int (0), .int (0), .int (0), .int (0), .ref r58, .ref r59, .ref r60, .ref r61, .ref r62, .ref r63, .ref r64, .ref r65, .ref r66, .ref r67, .int (0)])), (r11, .inl (ak 0, 6, .inl (fun _ => 0)))] H := hP
    have hD : va_D A [(h0, .inr (7, [.int (1), .int (0), .ref r2, .int (0), .int (0), .int (0), .int (0), .long (0), .int (0), .int (0), .ref r10, .ref r11, .ref r12, .ref r13, .ref r14, .ref r15, .ref r16, .ref r17, .ref r18, .ref r19, .ref r20, .ref r21, .ref r22, .ref r23, .ref r24, .ref r25, .ref r26, .ref r27, .ref r28, .int (0), .ref r30, .ref r31, .ref r32, .ref r33, .ref r34, .ref r35, .ref r36, .ref r37, .ref r38, .ref r39, .ref r40, .ref r41, .int (0), .int (0), .int (0), .int (0), .int (0), .ref r47, .ref r48, .int (0), .ref r50, .ref r51, .ref r52, .int (0), .int (0), .int (0), .int (0), .int (0), .ref r58, .ref r59, .ref r60, .ref r61, .ref r62, .ref r63, .ref r64, .ref r65, .ref r66, .ref r67, .int (0)])), (r11, .inl (ak 0, 6, .inl (fun _ => 0)))] := hD
    refine lv_aload_n hx hb dX8_cell_24 rfl (lv_at hl 0 rfl) ?_
    refine va_get (D := D) (ci := 7) (v := .int (1)) (C := RX8) (T := TX8) (N := 69) hx hb hts (fun w h => List.mem_cons_of_mem _ (List.mem_append_right _ h)) hown hE.1 hP 0 rfl rfl 0 (by decide) (hts (.fieldLink RX8 153 "WornLinesModel" "thrown" "I") (by decide +kernel)) (fun _ h9 => h9) rfl dX8_cell_25 ?_
    refine lv_iconst (v := 1) hx hb dX8_cell_28 (by decide) ?_
    refine lv_icmp_ne (tgt := 36) hx hb dX8_cell_29 (by decide) (fun c_29 => ?_) (fun c_29 => ?_)
    · exact absurd c_29 (by decide)
    · refine lv_iconst (v := 0) hx hb dX8_cell_32 (by decide) ?_
      refine lv_goto (tgt := 42) hx hb dX8_cell_33 (by decide) ?_
      have hP9 := hP.sub (ws' := [(h0, .inr (7, [.int (1), .int (0), .ref r2, .int (0), .int (0), .int (0), .int (0), .long (0), .int (0), .int (0), .ref r10, .ref r11, .ref r12, .ref r13, .ref r14, .ref r15, .ref r16, .ref r17, .ref r18, .ref r19, .ref r20, .ref r21, .ref r22, .ref r23, .ref r24, .ref r25, .ref r26, .ref r27, .ref r28, .int (0), .ref r30, .ref r31, .ref r32, .ref r33, .ref r34, .ref r35, .ref r36, .ref r37, .ref r38, .ref r39, .ref r40, .ref r41, .int (0), .int (0), .int (0), .int (0), .int (0), .ref r47, .ref r48, .int (0), .ref r50, .ref r51, .ref r52, .int (0), .int (0), .int (0), .int (0), .int (0), .ref r58, .ref r59, .ref r60, .ref r61, .ref r62, .ref r63, .ref r64, .ref r65, .ref r66, .ref r67, .int (0)]))]) [0] rfl
      have hD9 := hD.sub (ws' := [(h0, .inr (7, [.int (1), .int (0), .ref r2, .int (0), .int (0), .int (0), .int (0), .long (0), .int (0), .int (0), .ref r10, .ref r11, .ref r12, .ref r13, .ref r14, .ref r15, .ref r16, .ref r17, .ref r18, .ref r19, .ref r20, .ref r21, .ref r22, .ref r23, .ref r24, .ref r25, .ref r26, .ref r27, .ref r28, .int (0), .ref r30, .ref r31, .ref r32, .ref r33, .ref r34, .ref r35, .ref r36, .ref r37, .ref r38, .ref r39, .ref r40, .ref r41, .int (0), .int (0), .int (0), .int (0), .int (0), .ref r47, .ref r48, .int (0), .ref r50, .ref r51, .ref r52, .int (0), .int (0), .int (0), .int (0), .int (0), .ref r58, .ref r59, .ref r60, .ref r61, .ref r62, .ref r63, .ref r64, .ref r65, .ref r66, .ref r67, .int (0)]))]) [0] (by decide) rfl
      refine W.widen (k := 0) (n := 0) (Nat.le_of_ble_eq_true rfl) (Nat.le_of_ble_eq_true rfl) ?_
      exact W.iret (v := 0) hx hb hr (fun t ht hW => ⟨⟨0, (()), rfl, rfl, by rw [ht]; exact hP9, by rw [hAe]; exact hD9⟩, by rw [hAe]; exact hS.F ht⟩) hS.2.2 dX8_cell_42
  · exact absurd c_5 (by decide)

set_option maxHeartbeats 4000000 in
set_option maxRecDepth 100000 in
theorem c_X8_wrote (l : Launch) (D : va_G) (ak : Nat → ClassId) (ad : Nat → Nat) (sz : Nat) (h0 : Nat) (r2 : Nat) (r10 : Nat) (r11 : Nat) (r12 : Nat) (r13 : Nat) (r14 : Nat) (r15 : Nat) (r16 : Nat) (r17 : Nat) (r18 : Nat) (r19 : Nat) (r20 : Nat) (r21 : Nat) (r22 : Nat) (r23 : Nat) (r24 : Nat) (r25 : Nat) (r26 : Nat) (r27 : Nat) (r28 : Nat) (r30 : Nat) (r31 : Nat) (r32 : Nat) (r33 : Nat) (r34 : Nat) (r35 : Nat) (r36 : Nat) (r37 : Nat) (r38 : Nat) (r39 : Nat) (r40 : Nat) (r41 : Nat) (r47 : Nat) (r48 : Nat) (r50 : Nat) (r51 : Nat) (r52 : Nat) (r58 : Nat) (r59 : Nat) (r60 : Nat) (r61 : Nat) (r62 : Nat) (r63 : Nat) (r64 : Nat) (r65 : Nat) (r66 : Nat) (r67 : Nat) (a0 : Int32)  : Met l yX8_wrote wsX8_wrote ({ frames := 0, cells := 0, slots := 0, locals := 0 }) (cPre D ak ad [.ref h0, .int (a0)] ([(h0, .inr (7, [.int (0), .int (0), .ref r2, .int (0), .int (0), .int (0), .int (0), .long (0), .int (0), .int (0), .ref r10, .ref r11, .ref r12, .ref r13, .ref r14, .ref r15, .ref r16, .ref r17, .ref r18, .ref r19, .ref r20, .ref r21, .ref r22, .ref r23, .ref r24, .ref r25, .ref r26, .ref r27, .ref r28, .int (0), .ref r30, .ref r31, .ref r32, .ref r33, .ref r34, .ref r35, .ref r36, .ref r37, .ref r38, .ref r39, .ref r40, .ref r41, .int (0), .int (0), .int (0), .int (0), .int (0), .ref r47, .ref r48, .int (0), .ref r50, .ref r51, .ref r52, .int (0), .int (0), .int (0), .int (0), .int (0), .ref r58, .ref r59, .ref r60, .ref r61, .ref r62, .ref r63, .ref r64, .ref r65, .ref r66, .ref r67, .int (0)]))]) sz) (cI D (S := Unit) (fun (r : Int32) (u : Unit) => r = 0) (fun u => [(h0, .inr (7, [.int (1), .int (0), .ref r2, .int (0), .int (0), .int (0), .int (0), .long (0), .int (0), .int (0), .ref r10, .ref r11, .ref r12, .ref r13, .ref r14, .ref r15, .ref r16, .ref r17, .ref r18, .ref r19, .ref r20, .ref r21, .ref r22, .ref r23, .ref r24, .ref r25, .ref r26, .ref r27, .ref r28, .int (0), .ref r30, .ref r31, .ref r32, .ref r33, .ref r34, .ref r35, .ref r36, .ref r37, .ref r38, .ref r39, .ref r40, .ref r41, .int (0), .int (0), .int (0), .int (0), .int (0), .ref r47, .ref r48, .int (0), .ref r50, .ref r51, .ref r52, .int (0), .int (0), .int (0), .int (0), .int (0), .ref r58, .ref r59, .ref r60, .ref r61, .ref r62, .ref r63, .ref r64, .ref r65, .ref r66, .ref r67, .int (0)]))]) ([(h0, .inr (7, [.int (0), .int (0), .ref r2, .int (0), .int (0), .int (0), .int (0), .long (0), .int (0), .int (0), .ref r10, .ref r11, .ref r12, .ref r13, .ref r14, .ref r15, .ref r16, .ref r17, .ref r18, .ref r19, .ref r20, .ref r21, .ref r22, .ref r23, .ref r24, .ref r25, .ref r26, .ref r27, .ref r28, .int (0), .ref r30, .ref r31, .ref r32, .ref r33, .ref r34, .ref r35, .ref r36, .ref r37, .ref r38, .ref r39, .ref r40, .ref r41, .int (0), .int (0), .int (0), .int (0), .int (0), .ref r47, .ref r48, .int (0), .ref r50, .ref r51, .ref r52, .int (0), .int (0), .int (0), .int (0), .int (0), .ref r58, .ref r59, .ref r60, .ref r61, .ref r62, .ref r63, .ref r64, .ref r65, .ref r66, .ref r67, .int (0)]))]) sz) 0 0 (va_A ([(h0, .inr (7, [.int (0), .int (0), .ref r2, .int (0), .int (0), .int (0), .int (0), .long (0), .int (0), .int (0), .ref r10, .ref r11, .ref r12, .ref r13, .ref r14, .ref r15, .ref r16, .ref r17, .ref r18, .ref r19, .ref r20, .ref r21, .ref r22, .ref r23, .ref r24, .ref r25, .ref r26, .ref r27, .ref r28, .int (0), .ref r30, .ref r31, .ref r32, .ref r33, .ref r34, .ref r35, .ref r36, .ref r37, .ref r38, .ref r39, .ref r40, .ref r41, .int (0), .int (0), .int (0), .int (0), .int (0), .ref r47, .ref r48, .int (0), .ref r50, .ref r51, .ref r52, .int (0), .int (0), .int (0), .int (0), .int (0), .ref r58, .ref r59, .ref r60, .ref r61, .ref r62, .ref r63, .ref r64, .ref r65, .ref r66, .ref r67, .int (0)]))]) sz) := by
  refine Met.ofW (cc := cX8_wrote) (maxL := 2) (ret := (some .int)) (by decide) rfl ?_
  intro p e s m args below meth c s₁ B hml hv
  obtain ⟨rfl, hsz, hP, hE, hD0, hT⟩ := hv
  have hx := B.exec
  have hb := B.bytes
  have hr := B.returns
  have hts := atoms_spec (ws := wsX8_wrote) B.pre
  have hown : s.vm.findClass RX8 = some m.cls := findClass_of_methodNamed B.named
  have hlocks := B.notSynchronized
  subst hsz
  have hD := hD0.self (sz := s.heap.size)
  generalize hAe : va_A ([(h0, .inr (7, [.int (0), .int (0), .ref r2, .int (0), .int (0), .int (0), .int (0), .long (0), .int (0), .int (0), .ref r10, .ref r11, .ref r12, .ref r13, .ref r14, .ref r15, .ref r16, .ref r17, .ref r18, .ref r19, .ref r20, .ref r21, .ref r22, .ref r23, .ref r24, .ref r25, .ref r26, .ref r27, .ref r28, .int (0), .ref r30, .ref r31, .ref r32, .ref r33, .ref r34, .ref r35, .ref r36, .ref r37, .ref r38, .ref r39, .ref r40, .ref r41, .int (0), .int (0), .int (0), .int (0), .int (0), .ref r47, .ref r48, .int (0), .ref r50, .ref r51, .ref r52, .int (0), .int (0), .int (0), .int (0), .int (0), .ref r58, .ref r59, .ref r60, .ref r61, .ref r62, .ref r63, .ref r64, .ref r65, .ref r66, .ref r67, .int (0)]))]) s.heap.size = A at hD hT ⊢
  have hA : ∀ q : Nat, s.heap.size ≤ q → A q := fun q h => by rw [← hAe]; exact Or.inr h
  have hS : va_S A s.heap s.heap [] := va_S.rf
  have hl := lv_entry ([.ref h0, .int (a0)]) (n := 2) (Nat.le_of_ble_eq_true rfl)
  rw [lg_entry_eq]
  generalize (lg_sl ([.ref h0, .int (a0)]) ++ List.replicate (2 - (lg_sl ([.ref h0, .int (a0)])).length) Slot.unset).toArray = ls at hl ⊢
  have hl : lv_has ls 2 [(0, .ref h0), (1, .int (a0))] := hl
  have hP : va_P D vwCl [(h0, .inr (7, [.int (0), .int (0), .ref r2, .int (0), .int (0), .int (0), .int (0), .long (0), .int (0), .int (0), .ref r10, .ref r11, .ref r12, .ref r13, .ref r14, .ref r15, .ref r16, .ref r17, .ref r18, .ref r19, .ref r20, .ref r21, .ref r22, .ref r23, .ref r24, .ref r25, .ref r26, .ref r27, .ref r28, .int (0), .ref r30, .ref r31, .ref r32, .ref r33, .ref r34, .ref r35, .ref r36, .ref r37, .ref r38, .ref r39, .ref r40, .ref r41, .int (0), .int (0), .int (0), .int (0), .int (0), .ref r47, .ref r48, .int (0), .ref r50, .ref r51, .ref r52, .int (0), .int (0), .int (0), .int (0), .int (0), .ref r58, .ref r59, .ref r60, .ref r61, .ref r62, .ref r63, .ref r64, .ref r65, .ref r66, .ref r67, .int (0)]))] s.heap := hP
  refine lv_aload_n hx hb dX8_wrote_0 rfl (lv_at hl 0 rfl) ?_
  refine lv_aload_n hx hb dX8_wrote_1 rfl (lv_at hl 0 rfl) ?_
  refine va_get (D := D) (ci := 7) (v := .int (0)) (C := RX8) (T := TX8) (N := 69) hx hb hts (fun w h => List.mem_cons_of_mem _ (List.mem_append_right _ h)) hown hE.1 hP 0 rfl rfl 54 (by decide) (hts (.fieldLink RX8 326 "WornLinesModel" "state" "I") (by decide +kernel)) (fun _ h9 => h9) rfl dX8_wrote_2 ?_
  refine lv_if_le (tgt := 30) hx hb dX8_wrote_5 (by decide) (fun c_5 => ?_) (fun c_5 => ?_)
  · refine lv_iconst (v := 1) hx hb dX8_wrote_30 (by decide) ?_
    refine va_put (D := D) (ci := 7) (v := .int (1)) (ty := .int) (C := RX8) (T := TX8) (N := 69) hx hb hts (fun w h => List.mem_cons_of_mem _ (List.mem_append_right _ h)) tyX8 tyX8_ok nmX8 hown hE.1 hP hD hS 0 rfl rfl 0 (by decide) (hts (.fieldLink RX8 153 "WornLinesModel" "thrown" "I") (by decide +kernel)) (fun _ h9 => h9) rfl (by decide +kernel) rfl rfl (Nat.le_of_ble_eq_true rfl) dX8_wrote_31 (fun H locs hP hD hS => ?_)
    have hP : va_P D vwCl [(h0, .inr (7, [.int (1), .int (0), .ref r2, .int (0), .int (0), .int (0), .int (0), .long (0), .int (0), .int (0), .ref r10, .ref r11, .ref r12, .ref r13, .ref r14, .ref r15, .ref r16, .ref r17, .ref r18, .ref r19, .ref r20, .ref r21, .ref r22, .ref r23, .ref r24, .ref r25, .ref r26, .ref r27, .ref r28, .int (0), .ref r30, .ref r31, .ref r32, .ref r33, .ref r34, .ref r35, .ref r36, .ref r37, .ref r38, .ref r39, .ref r40, .ref r41, .int (0), .int (0), .int (0), .int (0), .int (0), .ref r47, .ref r48, .int (0), .ref r50, .ref r51, .ref r52, .int (0), .int (0), .int (0), .int (0), .int (0), .ref r58, .ref r59, .ref r60, .ref r61, .ref r62, .ref r63, .ref r64, .ref r65, .ref r66, .ref r67, .int (0)]))] H := hP
    have hD : va_D A [(h0, .inr (7, [.int (1), .int (0), .ref r2, .int (0), .int (0), .int (0), .int (0), .long (0), .int (0), .int (0), .ref r10, .ref r11, .ref r12, .ref r13, .ref r14, .ref r15, .ref r16, .ref r17, .ref r18, .ref r19, .ref r20, .ref r21, .ref r22, .ref r23, .ref r24, .ref r25, .ref r26, .ref r27, .ref r28, .int (0), .ref r30, .ref r31, .ref r32, .ref r33, .ref r34, .ref r35, .ref r36, .ref r37, .ref r38, .ref r39, .ref r40, .ref r41, .int (0), .int (0), .int (0), .int (0), .int (0), .ref r47, .ref r48, .int (0), .ref r50, .ref r51, .ref r52, .int (0), .int (0), .int (0), .int (0), .int (0), .ref r58, .ref r59, .ref r60, .ref r61, .ref r62, .ref r63, .ref r64, .ref r65, .ref r66, .ref r67, .int (0)]))] := hD
    refine lv_aload_n hx hb dX8_wrote_34 rfl (lv_at hl 0 rfl) ?_
    refine va_get (D := D) (ci := 7) (v := .int (1)) (C := RX8) (T := TX8) (N := 69) hx hb hts (fun w h => List.mem_cons_of_mem _ (List.mem_append_right _ h)) hown hE.1 hP 0 rfl rfl 0 (by decide) (hts (.fieldLink RX8 153 "WornLinesModel" "thrown" "I") (by decide +kernel)) (fun _ h9 => h9) rfl dX8_wrote_35 ?_
    refine lv_iconst (v := 1) hx hb dX8_wrote_38 (by decide) ?_
    refine lv_icmp_ne (tgt := 46) hx hb dX8_wrote_39 (by decide) (fun c_39 => ?_) (fun c_39 => ?_)
    · exact absurd c_39 (by decide)
    · refine lv_iconst (v := 0) hx hb dX8_wrote_42 (by decide) ?_
      refine lv_goto (tgt := 52) hx hb dX8_wrote_43 (by decide) ?_
      have hP9 := hP.sub (ws' := [(h0, .inr (7, [.int (1), .int (0), .ref r2, .int (0), .int (0), .int (0), .int (0), .long (0), .int (0), .int (0), .ref r10, .ref r11, .ref r12, .ref r13, .ref r14, .ref r15, .ref r16, .ref r17, .ref r18, .ref r19, .ref r20, .ref r21, .ref r22, .ref r23, .ref r24, .ref r25, .ref r26, .ref r27, .ref r28, .int (0), .ref r30, .ref r31, .ref r32, .ref r33, .ref r34, .ref r35, .ref r36, .ref r37, .ref r38, .ref r39, .ref r40, .ref r41, .int (0), .int (0), .int (0), .int (0), .int (0), .ref r47, .ref r48, .int (0), .ref r50, .ref r51, .ref r52, .int (0), .int (0), .int (0), .int (0), .int (0), .ref r58, .ref r59, .ref r60, .ref r61, .ref r62, .ref r63, .ref r64, .ref r65, .ref r66, .ref r67, .int (0)]))]) [0] rfl
      have hD9 := hD.sub (ws' := [(h0, .inr (7, [.int (1), .int (0), .ref r2, .int (0), .int (0), .int (0), .int (0), .long (0), .int (0), .int (0), .ref r10, .ref r11, .ref r12, .ref r13, .ref r14, .ref r15, .ref r16, .ref r17, .ref r18, .ref r19, .ref r20, .ref r21, .ref r22, .ref r23, .ref r24, .ref r25, .ref r26, .ref r27, .ref r28, .int (0), .ref r30, .ref r31, .ref r32, .ref r33, .ref r34, .ref r35, .ref r36, .ref r37, .ref r38, .ref r39, .ref r40, .ref r41, .int (0), .int (0), .int (0), .int (0), .int (0), .ref r47, .ref r48, .int (0), .ref r50, .ref r51, .ref r52, .int (0), .int (0), .int (0), .int (0), .int (0), .ref r58, .ref r59, .ref r60, .ref r61, .ref r62, .ref r63, .ref r64, .ref r65, .ref r66, .ref r67, .int (0)]))]) [0] (by decide) rfl
      refine W.widen (k := 0) (n := 0) (Nat.le_of_ble_eq_true rfl) (Nat.le_of_ble_eq_true rfl) ?_
      exact W.iret (v := 0) hx hb hr (fun t ht hW => ⟨⟨0, (()), rfl, rfl, by rw [ht]; exact hP9, by rw [hAe]; exact hD9⟩, by rw [hAe]; exact hS.F ht⟩) hS.2.2 dX8_wrote_52
  · exact absurd c_5 (by decide)

set_option maxHeartbeats 4000000 in
set_option maxRecDepth 100000 in
theorem c_X8_thrown (l : Launch) (D : va_G) (ak : Nat → ClassId) (ad : Nat → Nat) (sz : Nat) (h0 : Nat) (r2 : Nat) (r10 : Nat) (r11 : Nat) (r12 : Nat) (r13 : Nat) (r14 : Nat) (r15 : Nat) (r16 : Nat) (r17 : Nat) (r18 : Nat) (r19 : Nat) (r20 : Nat) (r21 : Nat) (r22 : Nat) (r23 : Nat) (r24 : Nat) (r25 : Nat) (r26 : Nat) (r27 : Nat) (r28 : Nat) (r30 : Nat) (r31 : Nat) (r32 : Nat) (r33 : Nat) (r34 : Nat) (r35 : Nat) (r36 : Nat) (r37 : Nat) (r38 : Nat) (r39 : Nat) (r40 : Nat) (r41 : Nat) (r47 : Nat) (r48 : Nat) (r50 : Nat) (r51 : Nat) (r52 : Nat) (r58 : Nat) (r59 : Nat) (r60 : Nat) (r61 : Nat) (r62 : Nat) (r63 : Nat) (r64 : Nat) (r65 : Nat) (r66 : Nat) (r67 : Nat)  : Met l yX8_thrown wsX8_thrown ({ frames := 0, cells := 0, slots := 0, locals := 0 }) (cPre D ak ad [.ref h0] ([(h0, .inr (7, [.int (1), .int (0), .ref r2, .int (0), .int (0), .int (0), .int (0), .long (0), .int (0), .int (0), .ref r10, .ref r11, .ref r12, .ref r13, .ref r14, .ref r15, .ref r16, .ref r17, .ref r18, .ref r19, .ref r20, .ref r21, .ref r22, .ref r23, .ref r24, .ref r25, .ref r26, .ref r27, .ref r28, .int (0), .ref r30, .ref r31, .ref r32, .ref r33, .ref r34, .ref r35, .ref r36, .ref r37, .ref r38, .ref r39, .ref r40, .ref r41, .int (0), .int (0), .int (0), .int (0), .int (0), .ref r47, .ref r48, .int (0), .ref r50, .ref r51, .ref r52, .int (0), .int (0), .int (0), .int (0), .int (0), .ref r58, .ref r59, .ref r60, .ref r61, .ref r62, .ref r63, .ref r64, .ref r65, .ref r66, .ref r67, .int (0)]))]) sz) (cI D (S := Unit) (fun (r : Int32) (u : Unit) => r = 1) (fun u => []) ([(h0, .inr (7, [.int (1), .int (0), .ref r2, .int (0), .int (0), .int (0), .int (0), .long (0), .int (0), .int (0), .ref r10, .ref r11, .ref r12, .ref r13, .ref r14, .ref r15, .ref r16, .ref r17, .ref r18, .ref r19, .ref r20, .ref r21, .ref r22, .ref r23, .ref r24, .ref r25, .ref r26, .ref r27, .ref r28, .int (0), .ref r30, .ref r31, .ref r32, .ref r33, .ref r34, .ref r35, .ref r36, .ref r37, .ref r38, .ref r39, .ref r40, .ref r41, .int (0), .int (0), .int (0), .int (0), .int (0), .ref r47, .ref r48, .int (0), .ref r50, .ref r51, .ref r52, .int (0), .int (0), .int (0), .int (0), .int (0), .ref r58, .ref r59, .ref r60, .ref r61, .ref r62, .ref r63, .ref r64, .ref r65, .ref r66, .ref r67, .int (0)]))]) sz) 0 0 (va_A ([(h0, .inr (7, [.int (1), .int (0), .ref r2, .int (0), .int (0), .int (0), .int (0), .long (0), .int (0), .int (0), .ref r10, .ref r11, .ref r12, .ref r13, .ref r14, .ref r15, .ref r16, .ref r17, .ref r18, .ref r19, .ref r20, .ref r21, .ref r22, .ref r23, .ref r24, .ref r25, .ref r26, .ref r27, .ref r28, .int (0), .ref r30, .ref r31, .ref r32, .ref r33, .ref r34, .ref r35, .ref r36, .ref r37, .ref r38, .ref r39, .ref r40, .ref r41, .int (0), .int (0), .int (0), .int (0), .int (0), .ref r47, .ref r48, .int (0), .ref r50, .ref r51, .ref r52, .int (0), .int (0), .int (0), .int (0), .int (0), .ref r58, .ref r59, .ref r60, .ref r61, .ref r62, .ref r63, .ref r64, .ref r65, .ref r66, .ref r67, .int (0)]))]) sz) := by
  refine Met.ofW (cc := cX8_thrown) (maxL := 1) (ret := (some .int)) (by decide) rfl ?_
  intro p e s m args below meth c s₁ B hml hv
  obtain ⟨rfl, hsz, hP, hE, hD0, hT⟩ := hv
  have hx := B.exec
  have hb := B.bytes
  have hr := B.returns
  have hts := atoms_spec (ws := wsX8_thrown) B.pre
  have hown : s.vm.findClass RX8 = some m.cls := findClass_of_methodNamed B.named
  have hlocks := B.notSynchronized
  subst hsz
  have hD := hD0.self (sz := s.heap.size)
  generalize hAe : va_A ([(h0, .inr (7, [.int (1), .int (0), .ref r2, .int (0), .int (0), .int (0), .int (0), .long (0), .int (0), .int (0), .ref r10, .ref r11, .ref r12, .ref r13, .ref r14, .ref r15, .ref r16, .ref r17, .ref r18, .ref r19, .ref r20, .ref r21, .ref r22, .ref r23, .ref r24, .ref r25, .ref r26, .ref r27, .ref r28, .int (0), .ref r30, .ref r31, .ref r32, .ref r33, .ref r34, .ref r35, .ref r36, .ref r37, .ref r38, .ref r39, .ref r40, .ref r41, .int (0), .int (0), .int (0), .int (0), .int (0), .ref r47, .ref r48, .int (0), .ref r50, .ref r51, .ref r52, .int (0), .int (0), .int (0), .int (0), .int (0), .ref r58, .ref r59, .ref r60, .ref r61, .ref r62, .ref r63, .ref r64, .ref r65, .ref r66, .ref r67, .int (0)]))]) s.heap.size = A at hD hT ⊢
  have hA : ∀ q : Nat, s.heap.size ≤ q → A q := fun q h => by rw [← hAe]; exact Or.inr h
  have hS : va_S A s.heap s.heap [] := va_S.rf
  have hl := lv_entry ([.ref h0]) (n := 1) (Nat.le_of_ble_eq_true rfl)
  rw [lg_entry_eq]
  generalize (lg_sl ([.ref h0]) ++ List.replicate (1 - (lg_sl ([.ref h0])).length) Slot.unset).toArray = ls at hl ⊢
  have hl : lv_has ls 1 [(0, .ref h0)] := hl
  have hP : va_P D vwCl [(h0, .inr (7, [.int (1), .int (0), .ref r2, .int (0), .int (0), .int (0), .int (0), .long (0), .int (0), .int (0), .ref r10, .ref r11, .ref r12, .ref r13, .ref r14, .ref r15, .ref r16, .ref r17, .ref r18, .ref r19, .ref r20, .ref r21, .ref r22, .ref r23, .ref r24, .ref r25, .ref r26, .ref r27, .ref r28, .int (0), .ref r30, .ref r31, .ref r32, .ref r33, .ref r34, .ref r35, .ref r36, .ref r37, .ref r38, .ref r39, .ref r40, .ref r41, .int (0), .int (0), .int (0), .int (0), .int (0), .ref r47, .ref r48, .int (0), .ref r50, .ref r51, .ref r52, .int (0), .int (0), .int (0), .int (0), .int (0), .ref r58, .ref r59, .ref r60, .ref r61, .ref r62, .ref r63, .ref r64, .ref r65, .ref r66, .ref r67, .int (0)]))] s.heap := hP
  refine lv_aload_n hx hb dX8_thrown_0 rfl (lv_at hl 0 rfl) ?_
  refine va_get (D := D) (ci := 7) (v := .int (1)) (C := RX8) (T := TX8) (N := 69) hx hb hts (fun w h => List.mem_cons_of_mem _ (List.mem_append_right _ h)) hown hE.1 hP 0 rfl rfl 0 (by decide) (hts (.fieldLink RX8 153 "WornLinesModel" "thrown" "I") (by decide +kernel)) (fun _ h9 => h9) rfl dX8_thrown_1 ?_
  have hP9 := hP.sub (ws' := []) [] rfl
  have hD9 := hD.sub (ws' := []) [] (by decide) rfl
  refine W.widen (k := 0) (n := 0) (Nat.le_of_ble_eq_true rfl) (Nat.le_of_ble_eq_true rfl) ?_
  exact W.iret (v := 1) hx hb hr (fun t ht hW => ⟨⟨1, (()), rfl, rfl, by rw [ht]; exact hP9, by rw [hAe]; exact hD9⟩, by rw [hAe]; exact hS.F ht⟩) hS.2.2 dX8_thrown_4
