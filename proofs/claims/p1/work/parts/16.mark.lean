theorem dX1_layLike_0 : decode cX1_layLike 0 = .ok (.aload_n 0, 1) := by decide +kernel
theorem dX1_layLike_1 : decode cX1_layLike 1 = .ok (.aload_n 1, 1) := by decide +kernel
theorem dX1_layLike_2 : decode cX1_layLike 2 = .ok (.getfield 34, 3) := by decide +kernel
theorem dX1_layLike_5 : decode cX1_layLike 5 = .ok (.putfield 34, 3) := by decide +kernel
theorem dX1_layLike_8 : decode cX1_layLike 8 = .ok (.aload_n 1, 1) := by decide +kernel
theorem dX1_layLike_9 : decode cX1_layLike 9 = .ok (.getfield 9, 3) := by decide +kernel
theorem dX1_layLike_12 : decode cX1_layLike 12 = .ok (.iconst 0, 1) := by decide +kernel
theorem dX1_layLike_13 : decode cX1_layLike 13 = .ok (.aload_n 0, 1) := by decide +kernel
theorem dX1_layLike_14 : decode cX1_layLike 14 = .ok (.getfield 9, 3) := by decide +kernel
theorem dX1_layLike_17 : decode cX1_layLike 17 = .ok (.iconst 0, 1) := by decide +kernel
theorem dX1_layLike_18 : decode cX1_layLike 18 = .ok (.bipush 16, 2) := by decide +kernel
theorem dX1_layLike_20 : decode cX1_layLike 20 = .ok (.invokestatic 46, 3) := by decide +kernel
theorem dX1_layLike_23 : decode cX1_layLike 23 = .ok (.aload_n 1, 1) := by decide +kernel
theorem dX1_layLike_24 : decode cX1_layLike 24 = .ok (.getfield 15, 3) := by decide +kernel
theorem dX1_layLike_27 : decode cX1_layLike 27 = .ok (.iconst 0, 1) := by decide +kernel
theorem dX1_layLike_28 : decode cX1_layLike 28 = .ok (.aload_n 0, 1) := by decide +kernel
theorem dX1_layLike_29 : decode cX1_layLike 29 = .ok (.getfield 15, 3) := by decide +kernel
theorem dX1_layLike_32 : decode cX1_layLike 32 = .ok (.iconst 0, 1) := by decide +kernel
theorem dX1_layLike_33 : decode cX1_layLike 33 = .ok (.bipush 16, 2) := by decide +kernel
theorem dX1_layLike_35 : decode cX1_layLike 35 = .ok (.invokestatic 46, 3) := by decide +kernel
theorem dX1_layLike_38 : decode cX1_layLike 38 = .ok (.aload_n 0, 1) := by decide +kernel
theorem dX1_layLike_39 : decode cX1_layLike 39 = .ok (.getfield 18, 3) := by decide +kernel
theorem dX1_layLike_42 : decode cX1_layLike 42 = .ok (.iconst 0, 1) := by decide +kernel
set_option maxRecDepth 20000 in
theorem ggX1_layLike_J7_fill_53178 : GoodIn wsX1_layLike wsJ7_fill_53178 := goodIn_r _ [12] (by decide +kernel) (by decide +kernel)
set_option maxRecDepth 20000 in
theorem gX1_layLike_J7_fill_53178 : GoodIn wsX1_layLike (va_wsS RX1 52 yJ7_fill_53178 wsJ7_fill_53178) := goodIn_app (goodIn_of _ (by decide +kernel)) ggX1_layLike_J7_fill_53178
theorem dX1_layLike_43 : decode cX1_layLike 43 = .ok (.invokestatic 52, 3) := by decide +kernel
theorem dX1_layLike_46 : decode cX1_layLike 46 = .ok (.return_, 1) := by decide +kernel
theorem dX1_copy_0 : decode cX1_copy 0 = .ok (.aload_n 0, 1) := by decide +kernel
theorem dX1_copy_1 : decode cX1_copy 1 = .ok (.aload_n 1, 1) := by decide +kernel
set_option maxRecDepth 20000 in
theorem ggX1_copy_X1_layLike : GoodIn wsX1_copy wsX1_layLike := goodIn_r _ [21, 22, 23, 2, 3, 4, 5, 24, 1, 25, 26, 27, 28, 29, 30, 31, 32, 33, 34, 35, 36, 37, 38, 39, 40] (by decide +kernel) (by decide +kernel)
set_option maxRecDepth 20000 in
theorem gX1_copy_X1_layLike : GoodIn wsX1_copy (wsV RX1 67 RX1 yX1_layLike wsX1_layLike) := goodIn_app (goodIn_of _ (by decide +kernel)) ggX1_copy_X1_layLike
theorem dX1_copy_2 : decode cX1_copy 2 = .ok (.invokevirtual 67, 3) := by decide +kernel
theorem dX1_copy_5 : decode cX1_copy 5 = .ok (.aload_n 1, 1) := by decide +kernel
theorem dX1_copy_6 : decode cX1_copy 6 = .ok (.getfield 18, 3) := by decide +kernel
theorem dX1_copy_9 : decode cX1_copy 9 = .ok (.iconst 0, 1) := by decide +kernel
theorem dX1_copy_10 : decode cX1_copy 10 = .ok (.aload_n 0, 1) := by decide +kernel
theorem dX1_copy_11 : decode cX1_copy 11 = .ok (.getfield 18, 3) := by decide +kernel
theorem dX1_copy_14 : decode cX1_copy 14 = .ok (.iconst 0, 1) := by decide +kernel
theorem dX1_copy_15 : decode cX1_copy 15 = .ok (.bipush 16, 2) := by decide +kernel
theorem dX1_copy_17 : decode cX1_copy 17 = .ok (.invokestatic 46, 3) := by decide +kernel
theorem dX1_copy_20 : decode cX1_copy 20 = .ok (.aload_n 1, 1) := by decide +kernel
theorem dX1_copy_21 : decode cX1_copy 21 = .ok (.getfield 21, 3) := by decide +kernel
theorem dX1_copy_24 : decode cX1_copy 24 = .ok (.iconst 0, 1) := by decide +kernel
theorem dX1_copy_25 : decode cX1_copy 25 = .ok (.aload_n 0, 1) := by decide +kernel
theorem dX1_copy_26 : decode cX1_copy 26 = .ok (.getfield 21, 3) := by decide +kernel
theorem dX1_copy_29 : decode cX1_copy 29 = .ok (.iconst 0, 1) := by decide +kernel
theorem dX1_copy_30 : decode cX1_copy 30 = .ok (.bipush 6, 2) := by decide +kernel
theorem dX1_copy_32 : decode cX1_copy 32 = .ok (.invokestatic 46, 3) := by decide +kernel
theorem dX1_copy_35 : decode cX1_copy 35 = .ok (.aload_n 1, 1) := by decide +kernel
theorem dX1_copy_36 : decode cX1_copy 36 = .ok (.getfield 38, 3) := by decide +kernel
theorem dX1_copy_39 : decode cX1_copy 39 = .ok (.iconst 0, 1) := by decide +kernel
theorem dX1_copy_40 : decode cX1_copy 40 = .ok (.aload_n 0, 1) := by decide +kernel
theorem dX1_copy_41 : decode cX1_copy 41 = .ok (.getfield 38, 3) := by decide +kernel
theorem dX1_copy_44 : decode cX1_copy 44 = .ok (.iconst 0, 1) := by decide +kernel
theorem dX1_copy_45 : decode cX1_copy 45 = .ok (.aload_n 1, 1) := by decide +kernel
theorem dX1_copy_46 : decode cX1_copy 46 = .ok (.getfield 38, 3) := by decide +kernel
theorem dX1_copy_49 : decode cX1_copy 49 = .ok (.arraylength, 1) := by decide +kernel
theorem dX1_copy_50 : decode cX1_copy 50 = .ok (.aload_n 0, 1) := by decide +kernel
theorem dX1_copy_51 : decode cX1_copy 51 = .ok (.getfield 38, 3) := by decide +kernel
theorem dX1_copy_54 : decode cX1_copy 54 = .ok (.arraylength, 1) := by decide +kernel
theorem dX1_copy_55 : decode cX1_copy 55 = .ok (.invokestatic 71, 3) := by decide +kernel
theorem dX1_copy_58 : decode cX1_copy 58 = .ok (.invokestatic 46, 3) := by decide +kernel
theorem dX1_copy_61 : decode cX1_copy 61 = .ok (.aload_n 0, 1) := by decide +kernel
theorem dX1_copy_62 : decode cX1_copy 62 = .ok (.aload_n 1, 1) := by decide +kernel
theorem dX1_copy_63 : decode cX1_copy 63 = .ok (.getfield 27, 3) := by decide +kernel
theorem dX1_copy_66 : decode cX1_copy 66 = .ok (.putfield 27, 3) := by decide +kernel
theorem dX1_copy_69 : decode cX1_copy 69 = .ok (.aload_n 0, 1) := by decide +kernel
theorem dX1_copy_70 : decode cX1_copy 70 = .ok (.aload_n 1, 1) := by decide +kernel
theorem dX1_copy_71 : decode cX1_copy 71 = .ok (.getfield 31, 3) := by decide +kernel
theorem dX1_copy_74 : decode cX1_copy 74 = .ok (.putfield 31, 3) := by decide +kernel
theorem dX1_copy_77 : decode cX1_copy 77 = .ok (.aload_n 0, 1) := by decide +kernel
theorem dX1_copy_78 : decode cX1_copy 78 = .ok (.aload_n 1, 1) := by decide +kernel
theorem dX1_copy_79 : decode cX1_copy 79 = .ok (.getfield 58, 3) := by decide +kernel
theorem dX1_copy_82 : decode cX1_copy 82 = .ok (.putfield 58, 3) := by decide +kernel
theorem dX1_copy_85 : decode cX1_copy 85 = .ok (.aload_n 0, 1) := by decide +kernel
theorem dX1_copy_86 : decode cX1_copy 86 = .ok (.aload_n 1, 1) := by decide +kernel
theorem dX1_copy_87 : decode cX1_copy 87 = .ok (.getfield 61, 3) := by decide +kernel
theorem dX1_copy_90 : decode cX1_copy 90 = .ok (.putfield 61, 3) := by decide +kernel
theorem dX1_copy_93 : decode cX1_copy 93 = .ok (.aload_n 0, 1) := by decide +kernel
theorem dX1_copy_94 : decode cX1_copy 94 = .ok (.aload_n 1, 1) := by decide +kernel
theorem dX1_copy_95 : decode cX1_copy 95 = .ok (.getfield 64, 3) := by decide +kernel
theorem dX1_copy_98 : decode cX1_copy 98 = .ok (.putfield 64, 3) := by decide +kernel
theorem dX1_copy_101 : decode cX1_copy 101 = .ok (.return_, 1) := by decide +kernel
theorem dX7_same_0 : decode cX7_same 0 = .ok (.iload_n 1, 1) := by decide +kernel
theorem dX7_same_1 : decode cX7_same 1 = .ok (.iconst 4, 1) := by decide +kernel
set_option maxRecDepth 20000 in
theorem ggX7_same_X7_within : GoodIn wsX7_same wsX7_within := goodIn_r _ [10] (by decide +kernel) (by decide +kernel)
set_option maxRecDepth 20000 in
theorem gX7_same_X7_within : GoodIn wsX7_same (va_wsS RX7 95 yX7_within wsX7_within) := goodIn_app (goodIn_of _ (by decide +kernel)) ggX7_same_X7_within
theorem dX7_same_2 : decode cX7_same 2 = .ok (.invokestatic 95, 3) := by decide +kernel
theorem dX7_same_5 : decode cX7_same 5 = .ok (.ifCond .eq 28, 3) := by decide +kernel
theorem dX7_same_33 : decode cX7_same 33 = .ok (.bipush (-2), 2) := by decide +kernel
theorem dX7_same_35 : decode cX7_same 35 = .ok (.ireturn, 1) := by decide +kernel
theorem dX7_same_8 : decode cX7_same 8 = .ok (.aload_n 0, 1) := by decide +kernel
theorem dX7_same_9 : decode cX7_same 9 = .ok (.getfield 51, 3) := by decide +kernel
theorem dX7_same_12 : decode cX7_same 12 = .ok (.iload_n 1, 1) := by decide +kernel
theorem dX7_same_13 : decode cX7_same 13 = .ok (.baload, 1) := by decide +kernel
theorem dX7_same_14 : decode cX7_same 14 = .ok (.ifCond .eq 19, 3) := by decide +kernel
theorem dX7_mark_0 : decode cX7_mark 0 = .ok (.iload_n 1, 1) := by decide +kernel
theorem dX7_mark_1 : decode cX7_mark 1 = .ok (.iconst 4, 1) := by decide +kernel
set_option maxRecDepth 20000 in
theorem ggX7_mark_X7_within : GoodIn wsX7_mark wsX7_within := goodIn_r _ [7] (by decide +kernel) (by decide +kernel)
set_option maxRecDepth 20000 in
theorem gX7_mark_X7_within : GoodIn wsX7_mark (va_wsS RX7 95 yX7_within wsX7_within) := goodIn_app (goodIn_of _ (by decide +kernel)) ggX7_mark_X7_within
theorem dX7_mark_2 : decode cX7_mark 2 = .ok (.invokestatic 95, 3) := by decide +kernel
theorem dX7_mark_5 : decode cX7_mark 5 = .ok (.ifCond .eq 16, 3) := by decide +kernel
theorem dX7_mark_21 : decode cX7_mark 21 = .ok (.iconst 0, 1) := by decide +kernel
theorem dX7_mark_22 : decode cX7_mark 22 = .ok (.ireturn, 1) := by decide +kernel
theorem dX7_mark_8 : decode cX7_mark 8 = .ok (.iload_n 2, 1) := by decide +kernel
theorem dX7_mark_9 : decode cX7_mark 9 = .ok (.ifCond .eq 14, 3) := by decide +kernel
theorem dX7_mark_23 : decode cX7_mark 23 = .ok (.iload_n 2, 1) := by decide +kernel
theorem dX7_mark_24 : decode cX7_mark 24 = .ok (.ifCond .eq 19, 3) := by decide +kernel
theorem dX7_mark_43 : decode cX7_mark 43 = .ok (.aload_n 0, 1) := by decide +kernel
theorem dX7_mark_44 : decode cX7_mark 44 = .ok (.getfield 47, 3) := by decide +kernel
theorem dX7_mark_47 : decode cX7_mark 47 = .ok (.iload_n 1, 1) := by decide +kernel
theorem dX7_mark_48 : decode cX7_mark 48 = .ok (.aaload, 1) := by decide +kernel
theorem dX7_mark_49 : decode cX7_mark 49 = .ok (.aload_n 0, 1) := by decide +kernel
theorem dX7_mark_50 : decode cX7_mark 50 = .ok (.getfield 37, 3) := by decide +kernel
set_option maxRecDepth 20000 in
theorem ggX7_mark_X1_copy : GoodIn wsX7_mark wsX1_copy := goodIn_r _ [12, 13, 14, 15, 16, 17, 18, 19, 20, 21, 22, 23, 24, 25, 26, 27, 28, 29, 30, 31, 11, 32, 33, 34, 35, 36, 37, 38, 39, 50, 51, 52, 53, 54, 55, 56, 57, 58, 59, 60, 61] (by decide +kernel) (by decide +kernel)
set_option maxRecDepth 20000 in
theorem gX7_mark_X1_copy : GoodIn wsX7_mark (wsV RX7 240 RX1 yX1_copy wsX1_copy) := goodIn_app (goodIn_of _ (by decide +kernel)) ggX7_mark_X1_copy
theorem dX7_mark_53 : decode cX7_mark 53 = .ok (.invokevirtual 240, 3) := by decide +kernel
theorem dX7_mark_56 : decode cX7_mark 56 = .ok (.aload_n 0, 1) := by decide +kernel
theorem dX7_mark_57 : decode cX7_mark 57 = .ok (.getfield 51, 3) := by decide +kernel
theorem dX7_mark_60 : decode cX7_mark 60 = .ok (.iload_n 1, 1) := by decide +kernel
theorem dX7_mark_61 : decode cX7_mark 61 = .ok (.iconst 1, 1) := by decide +kernel
theorem dX7_mark_62 : decode cX7_mark 62 = .ok (.bastore, 1) := by decide +kernel
theorem dX7_mark_63 : decode cX7_mark 63 = .ok (.iconst 1, 1) := by decide +kernel
theorem dX7_mark_64 : decode cX7_mark 64 = .ok (.ireturn, 1) := by decide +kernel
theorem dX7_mark_12 : decode cX7_mark 12 = .ok (.aload_n 0, 1) := by decide +kernel
theorem dX7_mark_13 : decode cX7_mark 13 = .ok (.getfield 51, 3) := by decide +kernel
theorem dX7_mark_16 : decode cX7_mark 16 = .ok (.iload_n 1, 1) := by decide +kernel
theorem dX7_mark_17 : decode cX7_mark 17 = .ok (.baload, 1) := by decide +kernel
theorem dX7_mark_18 : decode cX7_mark 18 = .ok (.ifCond .ne 5, 3) := by decide +kernel
def fr_mark (a b : Int32) : Int32 := if a < 0 ∨ 4 ≤ a then 0 else if b = 0 then 1 else 0
theorem in4 {a : Int32} (h1 : ¬ a < 0) (h2 : ¬ 4 ≤ a) : vp_in a 4 := by
  obtain h | h | ⟨j, hj, e⟩ := pk_ix a (n := 4) (by decide)
  · exact absurd h h1
  · exact absurd h h2
  · rw [e]; exact vp_in_nI hj (by decide)

set_option maxHeartbeats 4000000 in
set_option maxRecDepth 100000 in
theorem c_X1_layLike (l : Launch) (D : va_G) (ak : Nat → ClassId) (ad : Nat → Nat) (sz : Nat) (h0 : Nat) (xe : Nat) (o0 : Nat) (oe : Nat) (b1 : Nat) (b2 : Nat) (b3 : Nat) (b4 : Nat) (b5 : Nat) (b6 : Nat) (m1 : Nat) (m2 : Nat) (m3 : Nat) (m4 : Nat) (m5 : Nat) (m6 : Nat) (g1 : Nat → Int32) (g2 : Nat → Int32) (g3 : Nat → Int32) (k1 : Nat → Int32) (k2 : Nat → Int32)  : Met l yX1_layLike wsX1_layLike ({ frames := 1, cells := 0, slots := 0, locals := 40 }) (cPre D ak ad [.ref h0, .ref o0] ([(h0, .inr (1, [.ref xe, .ref b1, .ref b2, .ref b3, .ref b4, .ref b5, .ref b6, .int (0), .int (0), .int (0), .int (0), .int (0)])), (o0, .inr (1, [.ref oe, .ref m1, .ref m2, .ref m3, .ref m4, .ref m5, .ref m6, .int (0), .int (0), .int (0), .int (0), .int (0)])), (b1, .inl (ak 0, 16, .inl (g1))), (b2, .inl (ak 0, 16, .inl (g2))), (b3, .inl (ak 0, 16, .inl (g3))), (m1, .inl (ak 0, 16, .inl (k1))), (m2, .inl (ak 0, 16, .inl (k2)))]) sz) (cV D (S := (Nat → Int32) × (Nat → Int32) × (Nat → Int32)) (fun (u : (Nat → Int32) × (Nat → Int32) × (Nat → Int32)) => True) (fun u => [(h0, .inr (1, [.ref oe, .ref b1, .ref b2, .ref b3, .ref b4, .ref b5, .ref b6, .int (0), .int (0), .int (0), .int (0), .int (0)])), (o0, .inr (1, [.ref oe, .ref m1, .ref m2, .ref m3, .ref m4, .ref m5, .ref m6, .int (0), .int (0), .int (0), .int (0), .int (0)])), (b1, .inl (ak 0, 16, .inl (u.1))), (b2, .inl (ak 0, 16, .inl (u.2.1))), (b3, .inl (ak 0, 16, .inl (u.2.2))), (m1, .inl (ak 0, 16, .inl (k1))), (m2, .inl (ak 0, 16, .inl (k2)))]) ([(h0, .inr (1, [.ref xe, .ref b1, .ref b2, .ref b3, .ref b4, .ref b5, .ref b6, .int (0), .int (0), .int (0), .int (0), .int (0)])), (o0, .inr (1, [.ref oe, .ref m1, .ref m2, .ref m3, .ref m4, .ref m5, .ref m6, .int (0), .int (0), .int (0), .int (0), .int (0)])), (b1, .inl (ak 0, 16, .inl (g1))), (b2, .inl (ak 0, 16, .inl (g2))), (b3, .inl (ak 0, 16, .inl (g3))), (m1, .inl (ak 0, 16, .inl (k1))), (m2, .inl (ak 0, 16, .inl (k2)))]) sz) 0 0 (va_A ([(h0, .inr (1, [.ref xe, .ref b1, .ref b2, .ref b3, .ref b4, .ref b5, .ref b6, .int (0), .int (0), .int (0), .int (0), .int (0)])), (o0, .inr (1, [.ref oe, .ref m1, .ref m2, .ref m3, .ref m4, .ref m5, .ref m6, .int (0), .int (0), .int (0), .int (0), .int (0)])), (b1, .inl (ak 0, 16, .inl (g1))), (b2, .inl (ak 0, 16, .inl (g2))), (b3, .inl (ak 0, 16, .inl (g3))), (m1, .inl (ak 0, 16, .inl (k1))), (m2, .inl (ak 0, 16, .inl (k2)))]) sz) := by
  refine Met.ofW (cc := cX1_layLike) (maxL := 2) (ret := none) (by decide) rfl ?_
  intro p e s m args below meth c s₁ B hml hv
  obtain ⟨rfl, hsz, hP, hE, hD0, hT⟩ := hv
  have hx := B.exec
  have hb := B.bytes
  have hr := B.returns
  have hts := atoms_spec (ws := wsX1_layLike) B.pre
  have hown : s.vm.findClass RX1 = some m.cls := findClass_of_methodNamed B.named
  have hlocks := B.notSynchronized
  subst hsz
  have hD := hD0.self (sz := s.heap.size)
  generalize hAe : va_A ([(h0, .inr (1, [.ref xe, .ref b1, .ref b2, .ref b3, .ref b4, .ref b5, .ref b6, .int (0), .int (0), .int (0), .int (0), .int (0)])), (o0, .inr (1, [.ref oe, .ref m1, .ref m2, .ref m3, .ref m4, .ref m5, .ref m6, .int (0), .int (0), .int (0), .int (0), .int (0)])), (b1, .inl (ak 0, 16, .inl (g1))), (b2, .inl (ak 0, 16, .inl (g2))), (b3, .inl (ak 0, 16, .inl (g3))), (m1, .inl (ak 0, 16, .inl (k1))), (m2, .inl (ak 0, 16, .inl (k2)))]) s.heap.size = A at hD hT ⊢
  have hA : ∀ q : Nat, s.heap.size ≤ q → A q := fun q h => by rw [← hAe]; exact Or.inr h
  have hS : va_S A s.heap s.heap [] := va_S.rf
  have hl := lv_entry ([.ref h0, .ref o0]) (n := 2) (Nat.le_of_ble_eq_true rfl)
  rw [lg_entry_eq]
  generalize (lg_sl ([.ref h0, .ref o0]) ++ List.replicate (2 - (lg_sl ([.ref h0, .ref o0])).length) Slot.unset).toArray = ls at hl ⊢
  have hl : lv_has ls 2 [(0, .ref h0), (1, .ref o0)] := hl
  have hP : va_P D vwCl [(h0, .inr (1, [.ref xe, .ref b1, .ref b2, .ref b3, .ref b4, .ref b5, .ref b6, .int (0), .int (0), .int (0), .int (0), .int (0)])), (o0, .inr (1, [.ref oe, .ref m1, .ref m2, .ref m3, .ref m4, .ref m5, .ref m6, .int (0), .int (0), .int (0), .int (0), .int (0)])), (b1, .inl (ak 0, 16, .inl (g1))), (b2, .inl (ak 0, 16, .inl (g2))), (b3, .inl (ak 0, 16, .inl (g3))), (m1, .inl (ak 0, 16, .inl (k1))), (m2, .inl (ak 0, 16, .inl (k2)))] s.heap := hP
  refine lv_aload_n hx hb dX1_layLike_0 rfl (lv_at hl 0 rfl) ?_
  refine lv_aload_n hx hb dX1_layLike_1 rfl (lv_at hl 1 rfl) ?_
  refine va_get (D := D) (ci := 1) (v := .ref oe) (C := RX1) (T := TX1) (N := 12) hx hb hts (fun w h => List.mem_cons_of_mem _ (List.mem_append_right _ h)) hown hE.1 hP 1 rfl rfl 0 (by decide) (hts (.fieldLink RX1 34 "WornLines$Machine" "programme" "LWornLines$Programme;") (by decide +kernel)) (fun _ h9 => h9) rfl dX1_layLike_2 ?_
  refine va_put (D := D) (ci := 1) (v := .ref oe) (ty := .object "WornLines$Programme") (C := RX1) (T := TX1) (N := 12) hx hb hts (fun w h => List.mem_cons_of_mem _ (List.mem_append_right _ h)) tyX1 tyX1_ok nmX1 hown hE.1 hP hD hS 0 rfl rfl 0 (by decide) (hts (.fieldLink RX1 34 "WornLines$Machine" "programme" "LWornLines$Programme;") (by decide +kernel)) (fun _ h9 => h9) rfl (by decide +kernel) rfl rfl (Nat.le_of_ble_eq_true rfl) dX1_layLike_5 (fun H locs hP hD hS => ?_)
  have hP : va_P D vwCl [(h0, .inr (1, [.ref oe, .ref b1, .ref b2, .ref b3, .ref b4, .ref b5, .ref b6, .int (0), .int (0), .int (0), .int (0), .int (0)])), (o0, .inr (1, [.ref oe, .ref m1, .ref m2, .ref m3, .ref m4, .ref m5, .ref m6, .int (0), .int (0), .int (0), .int (0), .int (0)])), (b1, .inl (ak 0, 16, .inl (g1))), (b2, .inl (ak 0, 16, .inl (g2))), (b3, .inl (ak 0, 16, .inl (g3))), (m1, .inl (ak 0, 16, .inl (k1))), (m2, .inl (ak 0, 16, .inl (k2)))] H := hP
  have hD : va_D A [(h0, .inr (1, [.ref oe, .ref b1, .ref b2, .ref b3, .ref b4, .ref b5, .ref b6, .int (0), .int (0), .int (0), .int (0), .int (0)])), (o0, .inr (1, [.ref oe, .ref m1, .ref m2, .ref m3, .ref m4, .ref m5, .ref m6, .int (0), .int (0), .int (0), .int (0), .int (0)])), (b1, .inl (ak 0, 16, .inl (g1))), (b2, .inl (ak 0, 16, .inl (g2))), (b3, .inl (ak 0, 16, .inl (g3))), (m1, .inl (ak 0, 16, .inl (k1))), (m2, .inl (ak 0, 16, .inl (k2)))] := hD
  refine lv_aload_n hx hb dX1_layLike_8 rfl (lv_at hl 1 rfl) ?_
  refine va_get (D := D) (ci := 1) (v := .ref m1) (C := RX1) (T := TX1) (N := 12) hx hb hts (fun w h => List.mem_cons_of_mem _ (List.mem_append_right _ h)) hown hE.1 hP 1 rfl rfl 1 (by decide) (hts (.fieldLink RX1 9 "WornLines$Machine" "stuffs" "[I") (by decide +kernel)) (fun _ h9 => h9) rfl dX1_layLike_9 ?_
  refine lv_iconst (v := 0) hx hb dX1_layLike_12 (by decide) ?_
  refine lv_aload_n hx hb dX1_layLike_13 rfl (lv_at hl 0 rfl) ?_
  refine va_get (D := D) (ci := 1) (v := .ref b1) (C := RX1) (T := TX1) (N := 12) hx hb hts (fun w h => List.mem_cons_of_mem _ (List.mem_append_right _ h)) hown hE.1 hP 0 rfl rfl 1 (by decide) (hts (.fieldLink RX1 9 "WornLines$Machine" "stuffs" "[I") (by decide +kernel)) (fun _ h9 => h9) rfl dX1_layLike_14 ?_
  refine lv_iconst (v := 0) hx hb dX1_layLike_17 (by decide) ?_
  refine lv_bipush (v := 16) hx hb dX1_layLike_18 (by decide) ?_
  refine va_copyi hx hb (by rw [hml]; exact hl.1.symm) hown (hts (.methodLink RX1 46 arraycopyName) (by decide +kernel)) (hts (.native arraycopyName) (by decide +kernel)) (hts (.static arraycopyName) (by decide +kernel)) (hts (.initialized "java/lang/System") (by decide +kernel)) hE.1 hP hD hS 5 2 0 0 rfl rfl rfl rfl rfl (by decide) (by decide) (by decide) (by decide) (by decide) (fun _ _ => rfl) (Nat.le_of_ble_eq_true rfl) (Nat.le_of_ble_eq_true rfl) dX1_layLike_20 (fun H locs hP hD hS => ?_)
  have hP : va_P D vwCl [(h0, .inr (1, [.ref oe, .ref b1, .ref b2, .ref b3, .ref b4, .ref b5, .ref b6, .int (0), .int (0), .int (0), .int (0), .int (0)])), (o0, .inr (1, [.ref oe, .ref m1, .ref m2, .ref m3, .ref m4, .ref m5, .ref m6, .int (0), .int (0), .int (0), .int (0), .int (0)])), (b1, .inl (ak 0, 16, .inl (va_cpy (k1) (g1) 0 0 16))), (b2, .inl (ak 0, 16, .inl (g2))), (b3, .inl (ak 0, 16, .inl (g3))), (m1, .inl (ak 0, 16, .inl (k1))), (m2, .inl (ak 0, 16, .inl (k2)))] H := hP
  have hD : va_D A [(h0, .inr (1, [.ref oe, .ref b1, .ref b2, .ref b3, .ref b4, .ref b5, .ref b6, .int (0), .int (0), .int (0), .int (0), .int (0)])), (o0, .inr (1, [.ref oe, .ref m1, .ref m2, .ref m3, .ref m4, .ref m5, .ref m6, .int (0), .int (0), .int (0), .int (0), .int (0)])), (b1, .inl (ak 0, 16, .inl (va_cpy (k1) (g1) 0 0 16))), (b2, .inl (ak 0, 16, .inl (g2))), (b3, .inl (ak 0, 16, .inl (g3))), (m1, .inl (ak 0, 16, .inl (k1))), (m2, .inl (ak 0, 16, .inl (k2)))] := hD
  refine lv_aload_n hx hb dX1_layLike_23 rfl (lv_at hl 1 rfl) ?_
  refine va_get (D := D) (ci := 1) (v := .ref m2) (C := RX1) (T := TX1) (N := 12) hx hb hts (fun w h => List.mem_cons_of_mem _ (List.mem_append_right _ h)) hown hE.1 hP 1 rfl rfl 2 (by decide) (hts (.fieldLink RX1 15 "WornLines$Machine" "twins" "[I") (by decide +kernel)) (fun _ h9 => h9) rfl dX1_layLike_24 ?_
  refine lv_iconst (v := 0) hx hb dX1_layLike_27 (by decide) ?_
  refine lv_aload_n hx hb dX1_layLike_28 rfl (lv_at hl 0 rfl) ?_
  refine va_get (D := D) (ci := 1) (v := .ref b2) (C := RX1) (T := TX1) (N := 12) hx hb hts (fun w h => List.mem_cons_of_mem _ (List.mem_append_right _ h)) hown hE.1 hP 0 rfl rfl 2 (by decide) (hts (.fieldLink RX1 15 "WornLines$Machine" "twins" "[I") (by decide +kernel)) (fun _ h9 => h9) rfl dX1_layLike_29 ?_
  refine lv_iconst (v := 0) hx hb dX1_layLike_32 (by decide) ?_
  refine lv_bipush (v := 16) hx hb dX1_layLike_33 (by decide) ?_
  refine va_copyi hx hb (by rw [hml]; exact hl.1.symm) hown (hts (.methodLink RX1 46 arraycopyName) (by decide +kernel)) (hts (.native arraycopyName) (by decide +kernel)) (hts (.static arraycopyName) (by decide +kernel)) (hts (.initialized "java/lang/System") (by decide +kernel)) hE.1 hP hD hS 6 3 0 0 rfl rfl rfl rfl rfl (by decide) (by decide) (by decide) (by decide) (by decide) (fun _ _ => rfl) (Nat.le_of_ble_eq_true rfl) (Nat.le_of_ble_eq_true rfl) dX1_layLike_35 (fun H locs hP hD hS => ?_)
  have hP : va_P D vwCl [(h0, .inr (1, [.ref oe, .ref b1, .ref b2, .ref b3, .ref b4, .ref b5, .ref b6, .int (0), .int (0), .int (0), .int (0), .int (0)])), (o0, .inr (1, [.ref oe, .ref m1, .ref m2, .ref m3, .ref m4, .ref m5, .ref m6, .int (0), .int (0), .int (0), .int (0), .int (0)])), (b1, .inl (ak 0, 16, .inl (va_cpy (k1) (g1) 0 0 16))), (b2, .inl (ak 0, 16, .inl (va_cpy (k2) (g2) 0 0 16))), (b3, .inl (ak 0, 16, .inl (g3))), (m1, .inl (ak 0, 16, .inl (k1))), (m2, .inl (ak 0, 16, .inl (k2)))] H := hP
  have hD : va_D A [(h0, .inr (1, [.ref oe, .ref b1, .ref b2, .ref b3, .ref b4, .ref b5, .ref b6, .int (0), .int (0), .int (0), .int (0), .int (0)])), (o0, .inr (1, [.ref oe, .ref m1, .ref m2, .ref m3, .ref m4, .ref m5, .ref m6, .int (0), .int (0), .int (0), .int (0), .int (0)])), (b1, .inl (ak 0, 16, .inl (va_cpy (k1) (g1) 0 0 16))), (b2, .inl (ak 0, 16, .inl (va_cpy (k2) (g2) 0 0 16))), (b3, .inl (ak 0, 16, .inl (g3))), (m1, .inl (ak 0, 16, .inl (k1))), (m2, .inl (ak 0, 16, .inl (k2)))] := hD
  refine lv_aload_n hx hb dX1_layLike_38 rfl (lv_at hl 0 rfl) ?_
  refine va_get (D := D) (ci := 1) (v := .ref b3) (C := RX1) (T := TX1) (N := 12) hx hb hts (fun w h => List.mem_cons_of_mem _ (List.mem_append_right _ h)) hown hE.1 hP 0 rfl rfl 3 (by decide) (hts (.fieldLink RX1 18 "WornLines$Machine" "worn" "[I") (by decide +kernel)) (fun _ h9 => h9) rfl dX1_layLike_39 ?_
  refine lv_iconst (v := 0) hx hb dX1_layLike_42 (by decide) ?_
  refine kc_v (wc := [(b3, .inl (ak 0, 16, .inl (g3)))]) (wr := [(h0, .inr (1, [.ref oe, .ref b1, .ref b2, .ref b3, .ref b4, .ref b5, .ref b6, .int (0), .int (0), .int (0), .int (0), .int (0)])), (o0, .inr (1, [.ref oe, .ref m1, .ref m2, .ref m3, .ref m4, .ref m5, .ref m6, .int (0), .int (0), .int (0), .int (0), .int (0)])), (b1, .inl (ak 0, 16, .inl (va_cpy (k1) (g1) 0 0 16))), (b2, .inl (ak 0, 16, .inl (va_cpy (k2) (g2) 0 0 16))), (m1, .inl (ak 0, 16, .inl (k1))), (m2, .inl (ak 0, 16, .inl (k2)))]) hP hD hS hA [4] [0, 1, 2, 3, 5, 6] rfl rfl (by decide) (by decide) (va_runS (As := [.ref b3, .int (0)]) (rest := []) ⟨hx, hb, hml, hown, hts⟩ (c_J7_fill_53178 l D ak ad _ (b3) (16) (0) (g3) (by decide)) (va_cwS 2 hts gX1_layLike_J7_fill_53178 rfl rfl rfl (by decide +kernel) ⟨Nat.le_of_ble_eq_true rfl, Nat.le_of_ble_eq_true rfl⟩) (kc_pre (As := [.ref b3, .int (0)]) (wc := [(b3, .inl (ak 0, 16, .inl (g3)))]) hE hT hP hD hS hA [4] (by decide) rfl rfl) rfl rfl hl.1 rfl (lv_room (Nat.le_of_ble_eq_true rfl)) dX1_layLike_43 ⟨Nat.le_of_ble_eq_true rfl, Nat.le_of_ble_eq_true rfl⟩) (fun f2_2 H locs hw_3 hP hD hS => ?_)
  have hP : va_P D vwCl [(h0, .inr (1, [.ref oe, .ref b1, .ref b2, .ref b3, .ref b4, .ref b5, .ref b6, .int (0), .int (0), .int (0), .int (0), .int (0)])), (o0, .inr (1, [.ref oe, .ref m1, .ref m2, .ref m3, .ref m4, .ref m5, .ref m6, .int (0), .int (0), .int (0), .int (0), .int (0)])), (b1, .inl (ak 0, 16, .inl (va_cpy (k1) (g1) 0 0 16))), (b2, .inl (ak 0, 16, .inl (va_cpy (k2) (g2) 0 0 16))), (m1, .inl (ak 0, 16, .inl (k1))), (m2, .inl (ak 0, 16, .inl (k2))), (b3, .inl (ak 0, 16, .inl (f2_2)))] H := hP
  have hD : va_D A [(h0, .inr (1, [.ref oe, .ref b1, .ref b2, .ref b3, .ref b4, .ref b5, .ref b6, .int (0), .int (0), .int (0), .int (0), .int (0)])), (o0, .inr (1, [.ref oe, .ref m1, .ref m2, .ref m3, .ref m4, .ref m5, .ref m6, .int (0), .int (0), .int (0), .int (0), .int (0)])), (b1, .inl (ak 0, 16, .inl (va_cpy (k1) (g1) 0 0 16))), (b2, .inl (ak 0, 16, .inl (va_cpy (k2) (g2) 0 0 16))), (m1, .inl (ak 0, 16, .inl (k1))), (m2, .inl (ak 0, 16, .inl (k2))), (b3, .inl (ak 0, 16, .inl (f2_2)))] := hD
  have hP9 := hP.sub (ws' := [(h0, .inr (1, [.ref oe, .ref b1, .ref b2, .ref b3, .ref b4, .ref b5, .ref b6, .int (0), .int (0), .int (0), .int (0), .int (0)])), (o0, .inr (1, [.ref oe, .ref m1, .ref m2, .ref m3, .ref m4, .ref m5, .ref m6, .int (0), .int (0), .int (0), .int (0), .int (0)])), (b1, .inl (ak 0, 16, .inl (va_cpy (k1) (g1) 0 0 16))), (b2, .inl (ak 0, 16, .inl (va_cpy (k2) (g2) 0 0 16))), (b3, .inl (ak 0, 16, .inl (f2_2))), (m1, .inl (ak 0, 16, .inl (k1))), (m2, .inl (ak 0, 16, .inl (k2)))]) [0, 1, 2, 3, 6, 4, 5] rfl
  have hD9 := hD.sub (ws' := [(h0, .inr (1, [.ref oe, .ref b1, .ref b2, .ref b3, .ref b4, .ref b5, .ref b6, .int (0), .int (0), .int (0), .int (0), .int (0)])), (o0, .inr (1, [.ref oe, .ref m1, .ref m2, .ref m3, .ref m4, .ref m5, .ref m6, .int (0), .int (0), .int (0), .int (0), .int (0)])), (b1, .inl (ak 0, 16, .inl (va_cpy (k1) (g1) 0 0 16))), (b2, .inl (ak 0, 16, .inl (va_cpy (k2) (g2) 0 0 16))), (b3, .inl (ak 0, 16, .inl (f2_2))), (m1, .inl (ak 0, 16, .inl (k1))), (m2, .inl (ak 0, 16, .inl (k2)))]) [0, 1, 2, 3, 6, 4, 5] (by decide) rfl
  refine W.widen (k := 0) (n := 0) (Nat.le_of_ble_eq_true rfl) (Nat.le_of_ble_eq_true rfl) ?_
  exact W.vret hx hb hr (fun t ht hW => ⟨⟨((va_cpy (k1) (g1) 0 0 16, va_cpy (k2) (g2) 0 0 16, f2_2)), rfl, trivial, by rw [ht]; exact hP9, by rw [hAe]; exact hD9⟩, by rw [hAe]; exact hS.F ht⟩) hS.2.2 dX1_layLike_46

set_option maxHeartbeats 4000000 in
set_option maxRecDepth 100000 in
theorem c_X1_copy (l : Launch) (D : va_G) (ak : Nat → ClassId) (ad : Nat → Nat) (sz : Nat) (h0 : Nat) (xe : Nat) (o0 : Nat) (oe : Nat) (b1 : Nat) (b2 : Nat) (b3 : Nat) (b4 : Nat) (b5 : Nat) (b6 : Nat) (m1 : Nat) (m2 : Nat) (m3 : Nat) (m4 : Nat) (m5 : Nat) (m6 : Nat) (g1 : Nat → Int32) (g2 : Nat → Int32) (g3 : Nat → Int32) (g4 : Nat → Int32) (g5 : Nat → Int32) (k1 : Nat → Int32) (k2 : Nat → Int32) (k3 : Nat → Int32) (k4 : Nat → Int32) (k5 : Nat → Int32)  : Met l yX1_copy wsX1_copy ({ frames := 2, cells := 0, slots := 0, locals := 61 }) (cPre D ak ad [.ref h0, .ref o0] ([(h0, .inr (1, [.ref xe, .ref b1, .ref b2, .ref b3, .ref b4, .ref b5, .ref b6, .int (0), .int (0), .int (0), .int (0), .int (0)])), (o0, .inr (1, [.ref oe, .ref m1, .ref m2, .ref m3, .ref m4, .ref m5, .ref m6, .int (0), .int (0), .int (0), .int (0), .int (0)])), (b1, .inl (ak 0, 16, .inl (g1))), (b2, .inl (ak 0, 16, .inl (g2))), (b3, .inl (ak 0, 16, .inl (g3))), (b4, .inl (ak 0, 6, .inl (g4))), (b5, .inl (ak 0, 200, .inl (g5))), (m1, .inl (ak 0, 16, .inl (k1))), (m2, .inl (ak 0, 16, .inl (k2))), (m3, .inl (ak 0, 16, .inl (k3))), (m4, .inl (ak 0, 6, .inl (k4))), (m5, .inl (ak 0, 200, .inl (k5)))]) sz) (cV D (S := Unit) (fun (u : Unit) => True) (fun u => []) ([(h0, .inr (1, [.ref xe, .ref b1, .ref b2, .ref b3, .ref b4, .ref b5, .ref b6, .int (0), .int (0), .int (0), .int (0), .int (0)])), (o0, .inr (1, [.ref oe, .ref m1, .ref m2, .ref m3, .ref m4, .ref m5, .ref m6, .int (0), .int (0), .int (0), .int (0), .int (0)])), (b1, .inl (ak 0, 16, .inl (g1))), (b2, .inl (ak 0, 16, .inl (g2))), (b3, .inl (ak 0, 16, .inl (g3))), (b4, .inl (ak 0, 6, .inl (g4))), (b5, .inl (ak 0, 200, .inl (g5))), (m1, .inl (ak 0, 16, .inl (k1))), (m2, .inl (ak 0, 16, .inl (k2))), (m3, .inl (ak 0, 16, .inl (k3))), (m4, .inl (ak 0, 6, .inl (k4))), (m5, .inl (ak 0, 200, .inl (k5)))]) sz) 0 0 (va_A ([(h0, .inr (1, [.ref xe, .ref b1, .ref b2, .ref b3, .ref b4, .ref b5, .ref b6, .int (0), .int (0), .int (0), .int (0), .int (0)])), (o0, .inr (1, [.ref oe, .ref m1, .ref m2, .ref m3, .ref m4, .ref m5, .ref m6, .int (0), .int (0), .int (0), .int (0), .int (0)])), (b1, .inl (ak 0, 16, .inl (g1))), (b2, .inl (ak 0, 16, .inl (g2))), (b3, .inl (ak 0, 16, .inl (g3))), (b4, .inl (ak 0, 6, .inl (g4))), (b5, .inl (ak 0, 200, .inl (g5))), (m1, .inl (ak 0, 16, .inl (k1))), (m2, .inl (ak 0, 16, .inl (k2))), (m3, .inl (ak 0, 16, .inl (k3))), (m4, .inl (ak 0, 6, .inl (k4))), (m5, .inl (ak 0, 200, .inl (k5)))]) sz) := by
  refine Met.ofW (cc := cX1_copy) (maxL := 2) (ret := none) (by decide) rfl ?_
  intro p e s m args below meth c s₁ B hml hv
  obtain ⟨rfl, hsz, hP, hE, hD0, hT⟩ := hv
  have hx := B.exec
  have hb := B.bytes
  have hr := B.returns
  have hts := atoms_spec (ws := wsX1_copy) B.pre
  have hown : s.vm.findClass RX1 = some m.cls := findClass_of_methodNamed B.named
  have hlocks := B.notSynchronized
  subst hsz
  have hD := hD0.self (sz := s.heap.size)
  generalize hAe : va_A ([(h0, .inr (1, [.ref xe, .ref b1, .ref b2, .ref b3, .ref b4, .ref b5, .ref b6, .int (0), .int (0), .int (0), .int (0), .int (0)])), (o0, .inr (1, [.ref oe, .ref m1, .ref m2, .ref m3, .ref m4, .ref m5, .ref m6, .int (0), .int (0), .int (0), .int (0), .int (0)])), (b1, .inl (ak 0, 16, .inl (g1))), (b2, .inl (ak 0, 16, .inl (g2))), (b3, .inl (ak 0, 16, .inl (g3))), (b4, .inl (ak 0, 6, .inl (g4))), (b5, .inl (ak 0, 200, .inl (g5))), (m1, .inl (ak 0, 16, .inl (k1))), (m2, .inl (ak 0, 16, .inl (k2))), (m3, .inl (ak 0, 16, .inl (k3))), (m4, .inl (ak 0, 6, .inl (k4))), (m5, .inl (ak 0, 200, .inl (k5)))]) s.heap.size = A at hD hT ⊢
  have hA : ∀ q : Nat, s.heap.size ≤ q → A q := fun q h => by rw [← hAe]; exact Or.inr h
  have hS : va_S A s.heap s.heap [] := va_S.rf
  have hl := lv_entry ([.ref h0, .ref o0]) (n := 2) (Nat.le_of_ble_eq_true rfl)
  rw [lg_entry_eq]
  generalize (lg_sl ([.ref h0, .ref o0]) ++ List.replicate (2 - (lg_sl ([.ref h0, .ref o0])).length) Slot.unset).toArray = ls at hl ⊢
  have hl : lv_has ls 2 [(0, .ref h0), (1, .ref o0)] := hl
  have hP : va_P D vwCl [(h0, .inr (1, [.ref xe, .ref b1, .ref b2, .ref b3, .ref b4, .ref b5, .ref b6, .int (0), .int (0), .int (0), .int (0), .int (0)])), (o0, .inr (1, [.ref oe, .ref m1, .ref m2, .ref m3, .ref m4, .ref m5, .ref m6, .int (0), .int (0), .int (0), .int (0), .int (0)])), (b1, .inl (ak 0, 16, .inl (g1))), (b2, .inl (ak 0, 16, .inl (g2))), (b3, .inl (ak 0, 16, .inl (g3))), (b4, .inl (ak 0, 6, .inl (g4))), (b5, .inl (ak 0, 200, .inl (g5))), (m1, .inl (ak 0, 16, .inl (k1))), (m2, .inl (ak 0, 16, .inl (k2))), (m3, .inl (ak 0, 16, .inl (k3))), (m4, .inl (ak 0, 6, .inl (k4))), (m5, .inl (ak 0, 200, .inl (k5)))] s.heap := hP
  refine lv_aload_n hx hb dX1_copy_0 rfl (lv_at hl 0 rfl) ?_
  refine lv_aload_n hx hb dX1_copy_1 rfl (lv_at hl 1 rfl) ?_
  refine kc_v (wc := [(h0, .inr (1, [.ref xe, .ref b1, .ref b2, .ref b3, .ref b4, .ref b5, .ref b6, .int (0), .int (0), .int (0), .int (0), .int (0)])), (o0, .inr (1, [.ref oe, .ref m1, .ref m2, .ref m3, .ref m4, .ref m5, .ref m6, .int (0), .int (0), .int (0), .int (0), .int (0)])), (b1, .inl (ak 0, 16, .inl (g1))), (b2, .inl (ak 0, 16, .inl (g2))), (b3, .inl (ak 0, 16, .inl (g3))), (m1, .inl (ak 0, 16, .inl (k1))), (m2, .inl (ak 0, 16, .inl (k2)))]) (wr := [(b4, .inl (ak 0, 6, .inl (g4))), (b5, .inl (ak 0, 200, .inl (g5))), (m3, .inl (ak 0, 16, .inl (k3))), (m4, .inl (ak 0, 6, .inl (k4))), (m5, .inl (ak 0, 200, .inl (k5)))]) hP hD hS hA [0, 1, 2, 3, 4, 7, 8] [5, 6, 9, 10, 11] rfl rfl (by decide) (by decide) (va_runV (As := [.ref o0]) (rest := []) ⟨hx, hb, hml, hown, hts⟩ (c_X1_layLike l D ak ad _ (h0) (xe) (o0) (oe) (b1) (b2) (b3) (b4) (b5) (b6) (m1) (m2) (m3) (m4) (m5) (m6) (g1) (g2) (g3) (k1) (k2) ) (cwV 1 hts gX1_copy_X1_layLike rfl rfl rfl (by decide +kernel) ⟨Nat.le_of_ble_eq_true rfl, Nat.le_of_ble_eq_true rfl⟩) (kc_preV (As := [.ref o0]) (wc := [(h0, .inr (1, [.ref xe, .ref b1, .ref b2, .ref b3, .ref b4, .ref b5, .ref b6, .int (0), .int (0), .int (0), .int (0), .int (0)])), (o0, .inr (1, [.ref oe, .ref m1, .ref m2, .ref m3, .ref m4, .ref m5, .ref m6, .int (0), .int (0), .int (0), .int (0), .int (0)])), (b1, .inl (ak 0, 16, .inl (g1))), (b2, .inl (ak 0, 16, .inl (g2))), (b3, .inl (ak 0, 16, .inl (g3))), (m1, .inl (ak 0, 16, .inl (k1))), (m2, .inl (ak 0, 16, .inl (k2)))]) hE hT hP hD hS hA [0, 1, 2, 3, 4, 7, 8] (by decide) rfl rfl 0 1 rfl rfl rfl) rfl rfl hl.1 rfl (lv_room (Nat.le_of_ble_eq_true rfl)) dX1_copy_2 ⟨Nat.le_of_ble_eq_true rfl, Nat.le_of_ble_eq_true rfl⟩) (fun u_0 H locs hw_5 hP hD hS => ?_)
  obtain ⟨g1x_2, g2x_3, g3x_4⟩ := u_0
  have hP : va_P D vwCl [(b4, .inl (ak 0, 6, .inl (g4))), (b5, .inl (ak 0, 200, .inl (g5))), (m3, .inl (ak 0, 16, .inl (k3))), (m4, .inl (ak 0, 6, .inl (k4))), (m5, .inl (ak 0, 200, .inl (k5))), (h0, .inr (1, [.ref oe, .ref b1, .ref b2, .ref b3, .ref b4, .ref b5, .ref b6, .int (0), .int (0), .int (0), .int (0), .int (0)])), (o0, .inr (1, [.ref oe, .ref m1, .ref m2, .ref m3, .ref m4, .ref m5, .ref m6, .int (0), .int (0), .int (0), .int (0), .int (0)])), (b1, .inl (ak 0, 16, .inl (g1x_2))), (b2, .inl (ak 0, 16, .inl (g2x_3))), (b3, .inl (ak 0, 16, .inl (g3x_4))), (m1, .inl (ak 0, 16, .inl (k1))), (m2, .inl (ak 0, 16, .inl (k2)))] H := hP
  have hD : va_D A [(b4, .inl (ak 0, 6, .inl (g4))), (b5, .inl (ak 0, 200, .inl (g5))), (m3, .inl (ak 0, 16, .inl (k3))), (m4, .inl (ak 0, 6, .inl (k4))), (m5, .inl (ak 0, 200, .inl (k5))), (h0, .inr (1, [.ref oe, .ref b1, .ref b2, .ref b3, .ref b4, .ref b5, .ref b6, .int (0), .int (0), .int (0), .int (0), .int (0)])), (o0, .inr (1, [.ref oe, .ref m1, .ref m2, .ref m3, .ref m4, .ref m5, .ref m6, .int (0), .int (0), .int (0), .int (0), .int (0)])), (b1, .inl (ak 0, 16, .inl (g1x_2))), (b2, .inl (ak 0, 16, .inl (g2x_3))), (b3, .inl (ak 0, 16, .inl (g3x_4))), (m1, .inl (ak 0, 16, .inl (k1))), (m2, .inl (ak 0, 16, .inl (k2)))] := hD
  refine lv_aload_n hx hb dX1_copy_5 rfl (lv_at hl 1 rfl) ?_
  refine va_get (D := D) (ci := 1) (v := .ref m3) (C := RX1) (T := TX1) (N := 12) hx hb hts (fun w h => List.mem_cons_of_mem _ (List.mem_append_right _ h)) hown hE.1 hP 6 rfl rfl 3 (by decide) (hts (.fieldLink RX1 18 "WornLines$Machine" "worn" "[I") (by decide +kernel)) (fun _ h9 => h9) rfl dX1_copy_6 ?_
  refine lv_iconst (v := 0) hx hb dX1_copy_9 (by decide) ?_
  refine lv_aload_n hx hb dX1_copy_10 rfl (lv_at hl 0 rfl) ?_
  refine va_get (D := D) (ci := 1) (v := .ref b3) (C := RX1) (T := TX1) (N := 12) hx hb hts (fun w h => List.mem_cons_of_mem _ (List.mem_append_right _ h)) hown hE.1 hP 5 rfl rfl 3 (by decide) (hts (.fieldLink RX1 18 "WornLines$Machine" "worn" "[I") (by decide +kernel)) (fun _ h9 => h9) rfl dX1_copy_11 ?_
  refine lv_iconst (v := 0) hx hb dX1_copy_14 (by decide) ?_
  refine lv_bipush (v := 16) hx hb dX1_copy_15 (by decide) ?_
  refine va_copyi hx hb (by rw [hml]; exact hl.1.symm) hown (hts (.methodLink RX1 46 arraycopyName) (by decide +kernel)) (hts (.native arraycopyName) (by decide +kernel)) (hts (.static arraycopyName) (by decide +kernel)) (hts (.initialized "java/lang/System") (by decide +kernel)) hE.1 hP hD hS 2 9 0 0 rfl rfl rfl rfl rfl (by decide) (by decide) (by decide) (by decide) (by decide) (fun _ _ => rfl) (Nat.le_of_ble_eq_true rfl) (Nat.le_of_ble_eq_true rfl) dX1_copy_17 (fun H locs hP hD hS => ?_)
  have hP : va_P D vwCl [(b4, .inl (ak 0, 6, .inl (g4))), (b5, .inl (ak 0, 200, .inl (g5))), (m3, .inl (ak 0, 16, .inl (k3))), (m4, .inl (ak 0, 6, .inl (k4))), (m5, .inl (ak 0, 200, .inl (k5))), (h0, .inr (1, [.ref oe, .ref b1, .ref b2, .ref b3, .ref b4, .ref b5, .ref b6, .int (0), .int (0), .int (0), .int (0), .int (0)])), (o0, .inr (1, [.ref oe, .ref m1, .ref m2, .ref m3, .ref m4, .ref m5, .ref m6, .int (0), .int (0), .int (0), .int (0), .int (0)])), (b1, .inl (ak 0, 16, .inl (g1x_2))), (b2, .inl (ak 0, 16, .inl (g2x_3))), (b3, .inl (ak 0, 16, .inl (va_cpy (k3) (g3x_4) 0 0 16))), (m1, .inl (ak 0, 16, .inl (k1))), (m2, .inl (ak 0, 16, .inl (k2)))] H := hP
  have hD : va_D A [(b4, .inl (ak 0, 6, .inl (g4))), (b5, .inl (ak 0, 200, .inl (g5))), (m3, .inl (ak 0, 16, .inl (k3))), (m4, .inl (ak 0, 6, .inl (k4))), (m5, .inl (ak 0, 200, .inl (k5))), (h0, .inr (1, [.ref oe, .ref b1, .ref b2, .ref b3, .ref b4, .ref b5, .ref b6, .int (0), .int (0), .int (0), .int (0), .int (0)])), (o0, .inr (1, [.ref oe, .ref m1, .ref m2, .ref m3, .ref m4, .ref m5, .ref m6, .int (0), .int (0), .int (0), .int (0), .int (0)])), (b1, .inl (ak 0, 16, .inl (g1x_2))), (b2, .inl (ak 0, 16, .inl (g2x_3))), (b3, .inl (ak 0, 16, .inl (va_cpy (k3) (g3x_4) 0 0 16))), (m1, .inl (ak 0, 16, .inl (k1))), (m2, .inl (ak 0, 16, .inl (k2)))] := hD
  refine lv_aload_n hx hb dX1_copy_20 rfl (lv_at hl 1 rfl) ?_
  refine va_get (D := D) (ci := 1) (v := .ref m4) (C := RX1) (T := TX1) (N := 12) hx hb hts (fun w h => List.mem_cons_of_mem _ (List.mem_append_right _ h)) hown hE.1 hP 6 rfl rfl 4 (by decide) (hts (.fieldLink RX1 21 "WornLines$Machine" "cells" "[I") (by decide +kernel)) (fun _ h9 => h9) rfl dX1_copy_21 ?_
  refine lv_iconst (v := 0) hx hb dX1_copy_24 (by decide) ?_
  refine lv_aload_n hx hb dX1_copy_25 rfl (lv_at hl 0 rfl) ?_
  refine va_get (D := D) (ci := 1) (v := .ref b4) (C := RX1) (T := TX1) (N := 12) hx hb hts (fun w h => List.mem_cons_of_mem _ (List.mem_append_right _ h)) hown hE.1 hP 5 rfl rfl 4 (by decide) (hts (.fieldLink RX1 21 "WornLines$Machine" "cells" "[I") (by decide +kernel)) (fun _ h9 => h9) rfl dX1_copy_26 ?_
  refine lv_iconst (v := 0) hx hb dX1_copy_29 (by decide) ?_
  refine lv_bipush (v := 6) hx hb dX1_copy_30 (by decide) ?_
  refine va_copyi hx hb (by rw [hml]; exact hl.1.symm) hown (hts (.methodLink RX1 46 arraycopyName) (by decide +kernel)) (hts (.native arraycopyName) (by decide +kernel)) (hts (.static arraycopyName) (by decide +kernel)) (hts (.initialized "java/lang/System") (by decide +kernel)) hE.1 hP hD hS 3 0 0 0 rfl rfl rfl rfl rfl (by decide) (by decide) (by decide) (by decide) (by decide) (fun _ _ => rfl) (Nat.le_of_ble_eq_true rfl) (Nat.le_of_ble_eq_true rfl) dX1_copy_32 (fun H locs hP hD hS => ?_)
  have hP : va_P D vwCl [(b4, .inl (ak 0, 6, .inl (va_cpy (k4) (g4) 0 0 6))), (b5, .inl (ak 0, 200, .inl (g5))), (m3, .inl (ak 0, 16, .inl (k3))), (m4, .inl (ak 0, 6, .inl (k4))), (m5, .inl (ak 0, 200, .inl (k5))), (h0, .inr (1, [.ref oe, .ref b1, .ref b2, .ref b3, .ref b4, .ref b5, .ref b6, .int (0), .int (0), .int (0), .int (0), .int (0)])), (o0, .inr (1, [.ref oe, .ref m1, .ref m2, .ref m3, .ref m4, .ref m5, .ref m6, .int (0), .int (0), .int (0), .int (0), .int (0)])), (b1, .inl (ak 0, 16, .inl (g1x_2))), (b2, .inl (ak 0, 16, .inl (g2x_3))), (b3, .inl (ak 0, 16, .inl (va_cpy (k3) (g3x_4) 0 0 16))), (m1, .inl (ak 0, 16, .inl (k1))), (m2, .inl (ak 0, 16, .inl (k2)))] H := hP
  have hD : va_D A [(b4, .inl (ak 0, 6, .inl (va_cpy (k4) (g4) 0 0 6))), (b5, .inl (ak 0, 200, .inl (g5))), (m3, .inl (ak 0, 16, .inl (k3))), (m4, .inl (ak 0, 6, .inl (k4))), (m5, .inl (ak 0, 200, .inl (k5))), (h0, .inr (1, [.ref oe, .ref b1, .ref b2, .ref b3, .ref b4, .ref b5, .ref b6, .int (0), .int (0), .int (0), .int (0), .int (0)])), (o0, .inr (1, [.ref oe, .ref m1, .ref m2, .ref m3, .ref m4, .ref m5, .ref m6, .int (0), .int (0), .int (0), .int (0), .int (0)])), (b1, .inl (ak 0, 16, .inl (g1x_2))), (b2, .inl (ak 0, 16, .inl (g2x_3))), (b3, .inl (ak 0, 16, .inl (va_cpy (k3) (g3x_4) 0 0 16))), (m1, .inl (ak 0, 16, .inl (k1))), (m2, .inl (ak 0, 16, .inl (k2)))] := hD
  refine lv_aload_n hx hb dX1_copy_35 rfl (lv_at hl 1 rfl) ?_
  refine va_get (D := D) (ci := 1) (v := .ref m5) (C := RX1) (T := TX1) (N := 12) hx hb hts (fun w h => List.mem_cons_of_mem _ (List.mem_append_right _ h)) hown hE.1 hP 6 rfl rfl 5 (by decide) (hts (.fieldLink RX1 38 "WornLines$Machine" "kept" "[I") (by decide +kernel)) (fun _ h9 => h9) rfl dX1_copy_36 ?_
  refine lv_iconst (v := 0) hx hb dX1_copy_39 (by decide) ?_
  refine lv_aload_n hx hb dX1_copy_40 rfl (lv_at hl 0 rfl) ?_
  refine va_get (D := D) (ci := 1) (v := .ref b5) (C := RX1) (T := TX1) (N := 12) hx hb hts (fun w h => List.mem_cons_of_mem _ (List.mem_append_right _ h)) hown hE.1 hP 5 rfl rfl 5 (by decide) (hts (.fieldLink RX1 38 "WornLines$Machine" "kept" "[I") (by decide +kernel)) (fun _ h9 => h9) rfl dX1_copy_41 ?_
  refine lv_iconst (v := 0) hx hb dX1_copy_44 (by decide) ?_
  refine lv_aload_n hx hb dX1_copy_45 rfl (lv_at hl 1 rfl) ?_
  refine va_get (D := D) (ci := 1) (v := .ref m5) (C := RX1) (T := TX1) (N := 12) hx hb hts (fun w h => List.mem_cons_of_mem _ (List.mem_append_right _ h)) hown hE.1 hP 6 rfl rfl 5 (by decide) (hts (.fieldLink RX1 38 "WornLines$Machine" "kept" "[I") (by decide +kernel)) (fun _ h9 => h9) rfl dX1_copy_46 ?_
  refine va_alen hx hb hE.1 hP 4 0 rfl rfl (v := 200) rfl dX1_copy_49 ?_
  refine lv_aload_n hx hb dX1_copy_50 rfl (lv_at hl 0 rfl) ?_
  refine va_get (D := D) (ci := 1) (v := .ref b5) (C := RX1) (T := TX1) (N := 12) hx hb hts (fun w h => List.mem_cons_of_mem _ (List.mem_append_right _ h)) hown hE.1 hP 5 rfl rfl 5 (by decide) (hts (.fieldLink RX1 38 "WornLines$Machine" "kept" "[I") (by decide +kernel)) (fun _ h9 => h9) rfl dX1_copy_51 ?_
  refine va_alen hx hb hE.1 hP 1 0 rfl rfl (v := 200) rfl dX1_copy_54 ?_
  refine va_mmin hx hb (by rw [hml]; exact hl.1.symm) hown (hts (.methodLink RX1 71 Lib.Math.min.name) (by decide +kernel)) (hts (.static Lib.Math.min.name) (by decide +kernel)) (hts (.initialized "java/lang/Math") (by decide +kernel)) (hts (.code Lib.Math.min.name Lib.Math.min.code 2 (some .int)) (by decide +kernel)) (Nat.le_of_ble_eq_true rfl) (Nat.le_of_ble_eq_true rfl) (Nat.le_of_ble_eq_true rfl) (Nat.le_of_ble_eq_true rfl) dX1_copy_55 ?_
  refine lv_topi (fun x_6 ex_6 => ?_)
  refine W.eq (g2 := F0 m 58 ls (.int (200) :: .int (0) :: .ref b5 :: .int (0) :: .ref m5 :: [])) (by rw [ex_6]; rfl) ?_
  refine va_copyi hx hb (by rw [hml]; exact hl.1.symm) hown (hts (.methodLink RX1 46 arraycopyName) (by decide +kernel)) (hts (.native arraycopyName) (by decide +kernel)) (hts (.static arraycopyName) (by decide +kernel)) (hts (.initialized "java/lang/System") (by decide +kernel)) hE.1 hP hD hS 4 1 0 0 rfl rfl rfl rfl rfl (by decide) (by decide) (by decide) (by decide) (by decide) (fun _ _ => rfl) (Nat.le_of_ble_eq_true rfl) (Nat.le_of_ble_eq_true rfl) dX1_copy_58 (fun H locs hP hD hS => ?_)
  have hP : va_P D vwCl [(b4, .inl (ak 0, 6, .inl (va_cpy (k4) (g4) 0 0 6))), (b5, .inl (ak 0, 200, .inl (va_cpy (k5) (g5) 0 0 200))), (m3, .inl (ak 0, 16, .inl (k3))), (m4, .inl (ak 0, 6, .inl (k4))), (m5, .inl (ak 0, 200, .inl (k5))), (h0, .inr (1, [.ref oe, .ref b1, .ref b2, .ref b3, .ref b4, .ref b5, .ref b6, .int (0), .int (0), .int (0), .int (0), .int (0)])), (o0, .inr (1, [.ref oe, .ref m1, .ref m2, .ref m3, .ref m4, .ref m5, .ref m6, .int (0), .int (0), .int (0), .int (0), .int (0)])), (b1, .inl (ak 0, 16, .inl (g1x_2))), (b2, .inl (ak 0, 16, .inl (g2x_3))), (b3, .inl (ak 0, 16, .inl (va_cpy (k3) (g3x_4) 0 0 16))), (m1, .inl (ak 0, 16, .inl (k1))), (m2, .inl (ak 0, 16, .inl (k2)))] H := hP
  have hD : va_D A [(b4, .inl (ak 0, 6, .inl (va_cpy (k4) (g4) 0 0 6))), (b5, .inl (ak 0, 200, .inl (va_cpy (k5) (g5) 0 0 200))), (m3, .inl (ak 0, 16, .inl (k3))), (m4, .inl (ak 0, 6, .inl (k4))), (m5, .inl (ak 0, 200, .inl (k5))), (h0, .inr (1, [.ref oe, .ref b1, .ref b2, .ref b3, .ref b4, .ref b5, .ref b6, .int (0), .int (0), .int (0), .int (0), .int (0)])), (o0, .inr (1, [.ref oe, .ref m1, .ref m2, .ref m3, .ref m4, .ref m5, .ref m6, .int (0), .int (0), .int (0), .int (0), .int (0)])), (b1, .inl (ak 0, 16, .inl (g1x_2))), (b2, .inl (ak 0, 16, .inl (g2x_3))), (b3, .inl (ak 0, 16, .inl (va_cpy (k3) (g3x_4) 0 0 16))), (m1, .inl (ak 0, 16, .inl (k1))), (m2, .inl (ak 0, 16, .inl (k2)))] := hD
  refine lv_aload_n hx hb dX1_copy_61 rfl (lv_at hl 0 rfl) ?_
  refine lv_aload_n hx hb dX1_copy_62 rfl (lv_at hl 1 rfl) ?_
  refine va_get (D := D) (ci := 1) (v := .int (0)) (C := RX1) (T := TX1) (N := 12) hx hb hts (fun w h => List.mem_cons_of_mem _ (List.mem_append_right _ h)) hown hE.1 hP 6 rfl rfl 7 (by decide) (hts (.fieldLink RX1 27 "WornLines$Machine" "way" "I") (by decide +kernel)) (fun _ h9 => h9) rfl dX1_copy_63 ?_
  refine va_put (D := D) (ci := 1) (v := .int (0)) (ty := .int) (C := RX1) (T := TX1) (N := 12) hx hb hts (fun w h => List.mem_cons_of_mem _ (List.mem_append_right _ h)) tyX1 tyX1_ok nmX1 hown hE.1 hP hD hS 5 rfl rfl 7 (by decide) (hts (.fieldLink RX1 27 "WornLines$Machine" "way" "I") (by decide +kernel)) (fun _ h9 => h9) rfl (by decide +kernel) rfl rfl (Nat.le_of_ble_eq_true rfl) dX1_copy_66 (fun H locs hP hD hS => ?_)
  have hP : va_P D vwCl [(b4, .inl (ak 0, 6, .inl (va_cpy (k4) (g4) 0 0 6))), (b5, .inl (ak 0, 200, .inl (va_cpy (k5) (g5) 0 0 200))), (m3, .inl (ak 0, 16, .inl (k3))), (m4, .inl (ak 0, 6, .inl (k4))), (m5, .inl (ak 0, 200, .inl (k5))), (h0, .inr (1, [.ref oe, .ref b1, .ref b2, .ref b3, .ref b4, .ref b5, .ref b6, .int (0), .int (0), .int (0), .int (0), .int (0)])), (o0, .inr (1, [.ref oe, .ref m1, .ref m2, .ref m3, .ref m4, .ref m5, .ref m6, .int (0), .int (0), .int (0), .int (0), .int (0)])), (b1, .inl (ak 0, 16, .inl (g1x_2))), (b2, .inl (ak 0, 16, .inl (g2x_3))), (b3, .inl (ak 0, 16, .inl (va_cpy (k3) (g3x_4) 0 0 16))), (m1, .inl (ak 0, 16, .inl (k1))), (m2, .inl (ak 0, 16, .inl (k2)))] H := hP
  have hD : va_D A [(b4, .inl (ak 0, 6, .inl (va_cpy (k4) (g4) 0 0 6))), (b5, .inl (ak 0, 200, .inl (va_cpy (k5) (g5) 0 0 200))), (m3, .inl (ak 0, 16, .inl (k3))), (m4, .inl (ak 0, 6, .inl (k4))), (m5, .inl (ak 0, 200, .inl (k5))), (h0, .inr (1, [.ref oe, .ref b1, .ref b2, .ref b3, .ref b4, .ref b5, .ref b6, .int (0), .int (0), .int (0), .int (0), .int (0)])), (o0, .inr (1, [.ref oe, .ref m1, .ref m2, .ref m3, .ref m4, .ref m5, .ref m6, .int (0), .int (0), .int (0), .int (0), .int (0)])), (b1, .inl (ak 0, 16, .inl (g1x_2))), (b2, .inl (ak 0, 16, .inl (g2x_3))), (b3, .inl (ak 0, 16, .inl (va_cpy (k3) (g3x_4) 0 0 16))), (m1, .inl (ak 0, 16, .inl (k1))), (m2, .inl (ak 0, 16, .inl (k2)))] := hD
  refine lv_aload_n hx hb dX1_copy_69 rfl (lv_at hl 0 rfl) ?_
  refine lv_aload_n hx hb dX1_copy_70 rfl (lv_at hl 1 rfl) ?_
  refine va_get (D := D) (ci := 1) (v := .int (0)) (C := RX1) (T := TX1) (N := 12) hx hb hts (fun w h => List.mem_cons_of_mem _ (List.mem_append_right _ h)) hown hE.1 hP 6 rfl rfl 8 (by decide) (hts (.fieldLink RX1 31 "WornLines$Machine" "state" "I") (by decide +kernel)) (fun _ h9 => h9) rfl dX1_copy_71 ?_
  refine va_put (D := D) (ci := 1) (v := .int (0)) (ty := .int) (C := RX1) (T := TX1) (N := 12) hx hb hts (fun w h => List.mem_cons_of_mem _ (List.mem_append_right _ h)) tyX1 tyX1_ok nmX1 hown hE.1 hP hD hS 5 rfl rfl 8 (by decide) (hts (.fieldLink RX1 31 "WornLines$Machine" "state" "I") (by decide +kernel)) (fun _ h9 => h9) rfl (by decide +kernel) rfl rfl (Nat.le_of_ble_eq_true rfl) dX1_copy_74 (fun H locs hP hD hS => ?_)
  have hP : va_P D vwCl [(b4, .inl (ak 0, 6, .inl (va_cpy (k4) (g4) 0 0 6))), (b5, .inl (ak 0, 200, .inl (va_cpy (k5) (g5) 0 0 200))), (m3, .inl (ak 0, 16, .inl (k3))), (m4, .inl (ak 0, 6, .inl (k4))), (m5, .inl (ak 0, 200, .inl (k5))), (h0, .inr (1, [.ref oe, .ref b1, .ref b2, .ref b3, .ref b4, .ref b5, .ref b6, .int (0), .int (0), .int (0), .int (0), .int (0)])), (o0, .inr (1, [.ref oe, .ref m1, .ref m2, .ref m3, .ref m4, .ref m5, .ref m6, .int (0), .int (0), .int (0), .int (0), .int (0)])), (b1, .inl (ak 0, 16, .inl (g1x_2))), (b2, .inl (ak 0, 16, .inl (g2x_3))), (b3, .inl (ak 0, 16, .inl (va_cpy (k3) (g3x_4) 0 0 16))), (m1, .inl (ak 0, 16, .inl (k1))), (m2, .inl (ak 0, 16, .inl (k2)))] H := hP
  have hD : va_D A [(b4, .inl (ak 0, 6, .inl (va_cpy (k4) (g4) 0 0 6))), (b5, .inl (ak 0, 200, .inl (va_cpy (k5) (g5) 0 0 200))), (m3, .inl (ak 0, 16, .inl (k3))), (m4, .inl (ak 0, 6, .inl (k4))), (m5, .inl (ak 0, 200, .inl (k5))), (h0, .inr (1, [.ref oe, .ref b1, .ref b2, .ref b3, .ref b4, .ref b5, .ref b6, .int (0), .int (0), .int (0), .int (0), .int (0)])), (o0, .inr (1, [.ref oe, .ref m1, .ref m2, .ref m3, .ref m4, .ref m5, .ref m6, .int (0), .int (0), .int (0), .int (0), .int (0)])), (b1, .inl (ak 0, 16, .inl (g1x_2))), (b2, .inl (ak 0, 16, .inl (g2x_3))), (b3, .inl (ak 0, 16, .inl (va_cpy (k3) (g3x_4) 0 0 16))), (m1, .inl (ak 0, 16, .inl (k1))), (m2, .inl (ak 0, 16, .inl (k2)))] := hD
  refine lv_aload_n hx hb dX1_copy_77 rfl (lv_at hl 0 rfl) ?_
  refine lv_aload_n hx hb dX1_copy_78 rfl (lv_at hl 1 rfl) ?_
  refine va_get (D := D) (ci := 1) (v := .int (0)) (C := RX1) (T := TX1) (N := 12) hx hb hts (fun w h => List.mem_cons_of_mem _ (List.mem_append_right _ h)) hown hE.1 hP 6 rfl rfl 9 (by decide) (hts (.fieldLink RX1 58 "WornLines$Machine" "next" "I") (by decide +kernel)) (fun _ h9 => h9) rfl dX1_copy_79 ?_
  refine va_put (D := D) (ci := 1) (v := .int (0)) (ty := .int) (C := RX1) (T := TX1) (N := 12) hx hb hts (fun w h => List.mem_cons_of_mem _ (List.mem_append_right _ h)) tyX1 tyX1_ok nmX1 hown hE.1 hP hD hS 5 rfl rfl 9 (by decide) (hts (.fieldLink RX1 58 "WornLines$Machine" "next" "I") (by decide +kernel)) (fun _ h9 => h9) rfl (by decide +kernel) rfl rfl (Nat.le_of_ble_eq_true rfl) dX1_copy_82 (fun H locs hP hD hS => ?_)
  have hP : va_P D vwCl [(b4, .inl (ak 0, 6, .inl (va_cpy (k4) (g4) 0 0 6))), (b5, .inl (ak 0, 200, .inl (va_cpy (k5) (g5) 0 0 200))), (m3, .inl (ak 0, 16, .inl (k3))), (m4, .inl (ak 0, 6, .inl (k4))), (m5, .inl (ak 0, 200, .inl (k5))), (h0, .inr (1, [.ref oe, .ref b1, .ref b2, .ref b3, .ref b4, .ref b5, .ref b6, .int (0), .int (0), .int (0), .int (0), .int (0)])), (o0, .inr (1, [.ref oe, .ref m1, .ref m2, .ref m3, .ref m4, .ref m5, .ref m6, .int (0), .int (0), .int (0), .int (0), .int (0)])), (b1, .inl (ak 0, 16, .inl (g1x_2))), (b2, .inl (ak 0, 16, .inl (g2x_3))), (b3, .inl (ak 0, 16, .inl (va_cpy (k3) (g3x_4) 0 0 16))), (m1, .inl (ak 0, 16, .inl (k1))), (m2, .inl (ak 0, 16, .inl (k2)))] H := hP
  have hD : va_D A [(b4, .inl (ak 0, 6, .inl (va_cpy (k4) (g4) 0 0 6))), (b5, .inl (ak 0, 200, .inl (va_cpy (k5) (g5) 0 0 200))), (m3, .inl (ak 0, 16, .inl (k3))), (m4, .inl (ak 0, 6, .inl (k4))), (m5, .inl (ak 0, 200, .inl (k5))), (h0, .inr (1, [.ref oe, .ref b1, .ref b2, .ref b3, .ref b4, .ref b5, .ref b6, .int (0), .int (0), .int (0), .int (0), .int (0)])), (o0, .inr (1, [.ref oe, .ref m1, .ref m2, .ref m3, .ref m4, .ref m5, .ref m6, .int (0), .int (0), .int (0), .int (0), .int (0)])), (b1, .inl (ak 0, 16, .inl (g1x_2))), (b2, .inl (ak 0, 16, .inl (g2x_3))), (b3, .inl (ak 0, 16, .inl (va_cpy (k3) (g3x_4) 0 0 16))), (m1, .inl (ak 0, 16, .inl (k1))), (m2, .inl (ak 0, 16, .inl (k2)))] := hD
  refine lv_aload_n hx hb dX1_copy_85 rfl (lv_at hl 0 rfl) ?_
  refine lv_aload_n hx hb dX1_copy_86 rfl (lv_at hl 1 rfl) ?_
  refine va_get (D := D) (ci := 1) (v := .int (0)) (C := RX1) (T := TX1) (N := 12) hx hb hts (fun w h => List.mem_cons_of_mem _ (List.mem_append_right _ h)) hown hE.1 hP 6 rfl rfl 10 (by decide) (hts (.fieldLink RX1 61 "WornLines$Machine" "steps" "I") (by decide +kernel)) (fun _ h9 => h9) rfl dX1_copy_87 ?_
  refine va_put (D := D) (ci := 1) (v := .int (0)) (ty := .int) (C := RX1) (T := TX1) (N := 12) hx hb hts (fun w h => List.mem_cons_of_mem _ (List.mem_append_right _ h)) tyX1 tyX1_ok nmX1 hown hE.1 hP hD hS 5 rfl rfl 10 (by decide) (hts (.fieldLink RX1 61 "WornLines$Machine" "steps" "I") (by decide +kernel)) (fun _ h9 => h9) rfl (by decide +kernel) rfl rfl (Nat.le_of_ble_eq_true rfl) dX1_copy_90 (fun H locs hP hD hS => ?_)
  have hP : va_P D vwCl [(b4, .inl (ak 0, 6, .inl (va_cpy (k4) (g4) 0 0 6))), (b5, .inl (ak 0, 200, .inl (va_cpy (k5) (g5) 0 0 200))), (m3, .inl (ak 0, 16, .inl (k3))), (m4, .inl (ak 0, 6, .inl (k4))), (m5, .inl (ak 0, 200, .inl (k5))), (h0, .inr (1, [.ref oe, .ref b1, .ref b2, .ref b3, .ref b4, .ref b5, .ref b6, .int (0), .int (0), .int (0), .int (0), .int (0)])), (o0, .inr (1, [.ref oe, .ref m1, .ref m2, .ref m3, .ref m4, .ref m5, .ref m6, .int (0), .int (0), .int (0), .int (0), .int (0)])), (b1, .inl (ak 0, 16, .inl (g1x_2))), (b2, .inl (ak 0, 16, .inl (g2x_3))), (b3, .inl (ak 0, 16, .inl (va_cpy (k3) (g3x_4) 0 0 16))), (m1, .inl (ak 0, 16, .inl (k1))), (m2, .inl (ak 0, 16, .inl (k2)))] H := hP
  have hD : va_D A [(b4, .inl (ak 0, 6, .inl (va_cpy (k4) (g4) 0 0 6))), (b5, .inl (ak 0, 200, .inl (va_cpy (k5) (g5) 0 0 200))), (m3, .inl (ak 0, 16, .inl (k3))), (m4, .inl (ak 0, 6, .inl (k4))), (m5, .inl (ak 0, 200, .inl (k5))), (h0, .inr (1, [.ref oe, .ref b1, .ref b2, .ref b3, .ref b4, .ref b5, .ref b6, .int (0), .int (0), .int (0), .int (0), .int (0)])), (o0, .inr (1, [.ref oe, .ref m1, .ref m2, .ref m3, .ref m4, .ref m5, .ref m6, .int (0), .int (0), .int (0), .int (0), .int (0)])), (b1, .inl (ak 0, 16, .inl (g1x_2))), (b2, .inl (ak 0, 16, .inl (g2x_3))), (b3, .inl (ak 0, 16, .inl (va_cpy (k3) (g3x_4) 0 0 16))), (m1, .inl (ak 0, 16, .inl (k1))), (m2, .inl (ak 0, 16, .inl (k2)))] := hD
  refine lv_aload_n hx hb dX1_copy_93 rfl (lv_at hl 0 rfl) ?_
  refine lv_aload_n hx hb dX1_copy_94 rfl (lv_at hl 1 rfl) ?_
  refine va_get (D := D) (ci := 1) (v := .int (0)) (C := RX1) (T := TX1) (N := 12) hx hb hts (fun w h => List.mem_cons_of_mem _ (List.mem_append_right _ h)) hown hE.1 hP 6 rfl rfl 11 (by decide) (hts (.fieldLink RX1 64 "WornLines$Machine" "written" "I") (by decide +kernel)) (fun _ h9 => h9) rfl dX1_copy_95 ?_
  refine va_put (D := D) (ci := 1) (v := .int (0)) (ty := .int) (C := RX1) (T := TX1) (N := 12) hx hb hts (fun w h => List.mem_cons_of_mem _ (List.mem_append_right _ h)) tyX1 tyX1_ok nmX1 hown hE.1 hP hD hS 5 rfl rfl 11 (by decide) (hts (.fieldLink RX1 64 "WornLines$Machine" "written" "I") (by decide +kernel)) (fun _ h9 => h9) rfl (by decide +kernel) rfl rfl (Nat.le_of_ble_eq_true rfl) dX1_copy_98 (fun H locs hP hD hS => ?_)
  have hP : va_P D vwCl [(b4, .inl (ak 0, 6, .inl (va_cpy (k4) (g4) 0 0 6))), (b5, .inl (ak 0, 200, .inl (va_cpy (k5) (g5) 0 0 200))), (m3, .inl (ak 0, 16, .inl (k3))), (m4, .inl (ak 0, 6, .inl (k4))), (m5, .inl (ak 0, 200, .inl (k5))), (h0, .inr (1, [.ref oe, .ref b1, .ref b2, .ref b3, .ref b4, .ref b5, .ref b6, .int (0), .int (0), .int (0), .int (0), .int (0)])), (o0, .inr (1, [.ref oe, .ref m1, .ref m2, .ref m3, .ref m4, .ref m5, .ref m6, .int (0), .int (0), .int (0), .int (0), .int (0)])), (b1, .inl (ak 0, 16, .inl (g1x_2))), (b2, .inl (ak 0, 16, .inl (g2x_3))), (b3, .inl (ak 0, 16, .inl (va_cpy (k3) (g3x_4) 0 0 16))), (m1, .inl (ak 0, 16, .inl (k1))), (m2, .inl (ak 0, 16, .inl (k2)))] H := hP
  have hD : va_D A [(b4, .inl (ak 0, 6, .inl (va_cpy (k4) (g4) 0 0 6))), (b5, .inl (ak 0, 200, .inl (va_cpy (k5) (g5) 0 0 200))), (m3, .inl (ak 0, 16, .inl (k3))), (m4, .inl (ak 0, 6, .inl (k4))), (m5, .inl (ak 0, 200, .inl (k5))), (h0, .inr (1, [.ref oe, .ref b1, .ref b2, .ref b3, .ref b4, .ref b5, .ref b6, .int (0), .int (0), .int (0), .int (0), .int (0)])), (o0, .inr (1, [.ref oe, .ref m1, .ref m2, .ref m3, .ref m4, .ref m5, .ref m6, .int (0), .int (0), .int (0), .int (0), .int (0)])), (b1, .inl (ak 0, 16, .inl (g1x_2))), (b2, .inl (ak 0, 16, .inl (g2x_3))), (b3, .inl (ak 0, 16, .inl (va_cpy (k3) (g3x_4) 0 0 16))), (m1, .inl (ak 0, 16, .inl (k1))), (m2, .inl (ak 0, 16, .inl (k2)))] := hD
  have hP9 := hP.sub (ws' := []) [] rfl
  have hD9 := hD.sub (ws' := []) [] (by decide) rfl
  refine W.widen (k := 0) (n := 0) (Nat.le_of_ble_eq_true rfl) (Nat.le_of_ble_eq_true rfl) ?_
  exact W.vret hx hb hr (fun t ht hW => ⟨⟨(()), rfl, trivial, by rw [ht]; exact hP9, by rw [hAe]; exact hD9⟩, by rw [hAe]; exact hS.F ht⟩) hS.2.2 dX1_copy_101

set_option maxHeartbeats 4000000 in
set_option maxRecDepth 100000 in
theorem c_X7_same (l : Launch) (D : va_G) (ak : Nat → ClassId) (ad : Nat → Nat) (sz : Nat) (h0 : Nat) (xt : Nat) (xe : Nat) (xr : Nat) (xh : Nat) (xw : Nat) (xf : Nat) (xm : Nat) (xd : Nat) (xs : Nat) (xl : Nat) (a0 : Int32)  : Met l yX7_same wsX7_same ({ frames := 1, cells := 0, slots := 0, locals := 21 }) (cPre D ak ad [.ref h0, .int (a0)] ([(h0, .inr (6, [.ref xt, .ref xe, .ref xr, .ref xh, .ref xw, .ref xf, .ref xm, .ref xd, .ref xs, .ref xl])), (xd, .inl (ak 3, 4, .inl (fun _ => 0)))]) sz) (cI D (S := Unit) (fun (r : Int32) (u : Unit) => r = (-2)) (fun u => []) ([(h0, .inr (6, [.ref xt, .ref xe, .ref xr, .ref xh, .ref xw, .ref xf, .ref xm, .ref xd, .ref xs, .ref xl])), (xd, .inl (ak 3, 4, .inl (fun _ => 0)))]) sz) 0 0 (va_A ([(h0, .inr (6, [.ref xt, .ref xe, .ref xr, .ref xh, .ref xw, .ref xf, .ref xm, .ref xd, .ref xs, .ref xl])), (xd, .inl (ak 3, 4, .inl (fun _ => 0)))]) sz) := by
  refine Met.ofW (cc := cX7_same) (maxL := 4) (ret := (some .int)) (by decide) rfl ?_
  intro p e s m args below meth c s₁ B hml hv
  obtain ⟨rfl, hsz, hP, hE, hD0, hT⟩ := hv
  have hx := B.exec
  have hb := B.bytes
  have hr := B.returns
  have hts := atoms_spec (ws := wsX7_same) B.pre
  have hown : s.vm.findClass RX7 = some m.cls := findClass_of_methodNamed B.named
  have hlocks := B.notSynchronized
  subst hsz
  have hD := hD0.self (sz := s.heap.size)
  generalize hAe : va_A ([(h0, .inr (6, [.ref xt, .ref xe, .ref xr, .ref xh, .ref xw, .ref xf, .ref xm, .ref xd, .ref xs, .ref xl])), (xd, .inl (ak 3, 4, .inl (fun _ => 0)))]) s.heap.size = A at hD hT ⊢
  have hA : ∀ q : Nat, s.heap.size ≤ q → A q := fun q h => by rw [← hAe]; exact Or.inr h
  have hS : va_S A s.heap s.heap [] := va_S.rf
  have hl := lv_entry ([.ref h0, .int (a0)]) (n := 4) (Nat.le_of_ble_eq_true rfl)
  rw [lg_entry_eq]
  generalize (lg_sl ([.ref h0, .int (a0)]) ++ List.replicate (4 - (lg_sl ([.ref h0, .int (a0)])).length) Slot.unset).toArray = ls at hl ⊢
  have hl : lv_has ls 4 [(0, .ref h0), (1, .int (a0))] := hl
  have hP : va_P D vwCl [(h0, .inr (6, [.ref xt, .ref xe, .ref xr, .ref xh, .ref xw, .ref xf, .ref xm, .ref xd, .ref xs, .ref xl])), (xd, .inl (ak 3, 4, .inl (fun _ => 0)))] s.heap := hP
  refine lv_iload_n hx hb dX7_same_0 rfl (lv_at hl 1 rfl) ?_
  refine lv_iconst (v := 4) hx hb dX7_same_1 (by decide) ?_
  refine kc_i (wc := []) (wr := [(h0, .inr (6, [.ref xt, .ref xe, .ref xr, .ref xh, .ref xw, .ref xf, .ref xm, .ref xd, .ref xs, .ref xl])), (xd, .inl (ak 3, 4, .inl (fun _ => 0)))]) hP hD hS hA [] [0, 1] rfl rfl (by decide) (by decide) (va_runS (As := [.int (a0), .int (4)]) (rest := []) ⟨hx, hb, hml, hown, hts⟩ (c_X7_within l D ak ad _ (a0) (4) ) (va_cwS 2 hts gX7_same_X7_within rfl rfl rfl (by decide +kernel) ⟨Nat.le_of_ble_eq_true rfl, Nat.le_of_ble_eq_true rfl⟩) (kc_pre (As := [.int (a0), .int (4)]) (wc := []) hE hT hP hD hS hA [] (by decide) rfl rfl) rfl rfl hl.1 rfl (lv_room (Nat.le_of_ble_eq_true rfl)) dX7_same_2 ⟨Nat.le_of_ble_eq_true rfl, Nat.le_of_ble_eq_true rfl⟩) (fun r_2 u_0 H locs hw_2 hP hD hS => ?_)
  have hP : va_P D vwCl [(h0, .inr (6, [.ref xt, .ref xe, .ref xr, .ref xh, .ref xw, .ref xf, .ref xm, .ref xd, .ref xs, .ref xl])), (xd, .inl (ak 3, 4, .inl (fun _ => 0)))] H := hP
  have hD : va_D A [(h0, .inr (6, [.ref xt, .ref xe, .ref xr, .ref xh, .ref xw, .ref xf, .ref xm, .ref xd, .ref xs, .ref xl])), (xd, .inl (ak 3, 4, .inl (fun _ => 0)))] := hD
  refine lv_if_eq (tgt := 33) hx hb dX7_same_5 (by decide) (fun c_5 => ?_) (fun c_5 => ?_)
  · refine lv_bipush (v := (-2)) hx hb dX7_same_33 (by decide) ?_
    have hP9 := hP.sub (ws' := []) [] rfl
    have hD9 := hD.sub (ws' := []) [] (by decide) rfl
    refine W.widen (k := 0) (n := 0) (Nat.le_of_ble_eq_true rfl) (Nat.le_of_ble_eq_true rfl) ?_
    exact W.iret (v := -2) hx hb hr (fun t ht hW => ⟨⟨-2, (()), rfl, rfl, by rw [ht]; exact hP9, by rw [hAe]; exact hD9⟩, by rw [hAe]; exact hS.F ht⟩) hS.2.2 dX7_same_35
  · have hr4 := hw_2.resolve_right c_5
    refine lv_aload_n hx hb dX7_same_8 rfl (lv_at hl 0 rfl) ?_
    refine va_get (D := D) (ci := 6) (v := .ref xd) (C := RX7) (T := TX7) (N := 10) hx hb hts (fun w h => List.mem_cons_of_mem _ (List.mem_append_left _ (List.mem_append_left _ (List.mem_append_right _ h)))) hown hE.1 hP 0 rfl rfl 7 (by decide) (hts (.fieldLink RX7 51 "WornLines" "marked" "[Z") (by decide +kernel)) (fun _ h9 => h9) rfl dX7_same_9 ?_
    refine lv_iload_n hx hb dX7_same_12 rfl (lv_at hl 1 rfl) ?_
    refine va_zald hx hb hE.1 hP 1 3 rfl rfl (in4 hr4.2.1 hr4.2.2) dX7_same_13 ?_
    refine W.eq (g2 := F0 m 14 ls (.int (0) :: [])) rfl ?_
    refine lv_if_eq (tgt := 33) hx hb dX7_same_14 (by decide) (fun c_14 => ?_) (fun c_14 => ?_)
    · refine lv_bipush (v := (-2)) hx hb dX7_same_33 (by decide) ?_
      have hP9 := hP.sub (ws' := []) [] rfl
      have hD9 := hD.sub (ws' := []) [] (by decide) rfl
      refine W.widen (k := 0) (n := 0) (Nat.le_of_ble_eq_true rfl) (Nat.le_of_ble_eq_true rfl) ?_
      exact W.iret (v := -2) hx hb hr (fun t ht hW => ⟨⟨-2, (()), rfl, rfl, by rw [ht]; exact hP9, by rw [hAe]; exact hD9⟩, by rw [hAe]; exact hS.F ht⟩) hS.2.2 dX7_same_35
    · exact absurd c_14 (by decide)

set_option maxHeartbeats 4000000 in
set_option maxRecDepth 100000 in
theorem c_X7_within4 (l : Launch) (D : va_G) (ak : Nat → ClassId) (ad : Nat → Nat) (sz : Nat) (i : Int32)  : Met l yX7_within wsX7_within ({ frames := 0, cells := 0, slots := 0, locals := 0 }) (cPre D ak ad [.int (i), .int (4)] ([]) sz) (cI D (S := Unit) (fun (r : Int32) (u : Unit) => (r = 1 ∧ ¬ i < 0 ∧ ¬ 4 ≤ i) ∨ (r = 0 ∧ (i < 0 ∨ 4 ≤ i))) (fun u => []) ([]) sz) 0 0 (va_A ([]) sz) := by
  refine Met.ofW (cc := cX7_within) (maxL := 2) (ret := (some .boolean)) (by decide) rfl ?_
  intro p e s m args below meth c s₁ B hml hv
  obtain ⟨rfl, hsz, hP, hE, hD0, hT⟩ := hv
  have hx := B.exec
  have hb := B.bytes
  have hr := B.returns
  have hts := atoms_spec (ws := wsX7_within) B.pre
  have hown : s.vm.findClass RX7 = some m.cls := findClass_of_methodNamed B.named
  have hlocks := B.notSynchronized
  subst hsz
  have hD := hD0.self (sz := s.heap.size)
  generalize hAe : va_A ([]) s.heap.size = A at hD hT ⊢
  have hA : ∀ q : Nat, s.heap.size ≤ q → A q := fun q h => by rw [← hAe]; exact Or.inr h
  have hS : va_S A s.heap s.heap [] := va_S.rf
  have hl := lv_entry ([.int (i), .int (4)]) (n := 2) (Nat.le_of_ble_eq_true rfl)
  rw [lg_entry_eq]
  generalize (lg_sl ([.int (i), .int (4)]) ++ List.replicate (2 - (lg_sl ([.int (i), .int (4)])).length) Slot.unset).toArray = ls at hl ⊢
  have hl : lv_has ls 2 [(0, .int (i)), (1, .int (4))] := hl
  have hP : va_P D vwCl [] s.heap := hP
  refine lv_iload_n hx hb dX7_within_0 rfl (lv_at hl 0 rfl) ?_
  refine lv_if_lt (tgt := 13) hx hb dX7_within_1 (by decide) (fun c_1 => ?_) (fun c_1 => ?_)
  · refine lv_iconst (v := 0) hx hb dX7_within_13 (by decide) ?_
    have hP9 := hP.sub (ws' := []) [] rfl
    have hD9 := hD.sub (ws' := []) [] (by decide) rfl
    refine W.widen (k := 0) (n := 0) (Nat.le_of_ble_eq_true rfl) (Nat.le_of_ble_eq_true rfl) ?_
    exact W.zret (v := 0) hx hb hr (rfl) (fun t ht hW => ⟨⟨0, (()), rfl, Or.inr ⟨rfl, by first | exact Or.inl c_1 | exact Or.inr c_6⟩, by rw [ht]; exact hP9, by rw [hAe]; exact hD9⟩, by rw [hAe]; exact hS.F ht⟩) hS.2.2 dX7_within_14
  · refine lv_iload_n hx hb dX7_within_4 rfl (lv_at hl 0 rfl) ?_
    refine lv_iload_n hx hb dX7_within_5 rfl (lv_at hl 1 rfl) ?_
    refine lv_icmp_ge (tgt := 13) hx hb dX7_within_6 (by decide) (fun c_6 => ?_) (fun c_6 => ?_)
    · refine lv_iconst (v := 0) hx hb dX7_within_13 (by decide) ?_
      have hP9 := hP.sub (ws' := []) [] rfl
      have hD9 := hD.sub (ws' := []) [] (by decide) rfl
      refine W.widen (k := 0) (n := 0) (Nat.le_of_ble_eq_true rfl) (Nat.le_of_ble_eq_true rfl) ?_
      exact W.zret (v := 0) hx hb hr (rfl) (fun t ht hW => ⟨⟨0, (()), rfl, Or.inr ⟨rfl, by first | exact Or.inl c_1 | exact Or.inr c_6⟩, by rw [ht]; exact hP9, by rw [hAe]; exact hD9⟩, by rw [hAe]; exact hS.F ht⟩) hS.2.2 dX7_within_14
    · refine lv_iconst (v := 1) hx hb dX7_within_9 (by decide) ?_
      refine lv_goto (tgt := 14) hx hb dX7_within_10 (by decide) ?_
      have hP9 := hP.sub (ws' := []) [] rfl
      have hD9 := hD.sub (ws' := []) [] (by decide) rfl
      refine W.widen (k := 0) (n := 0) (Nat.le_of_ble_eq_true rfl) (Nat.le_of_ble_eq_true rfl) ?_
      exact W.zret (v := 1) hx hb hr (rfl) (fun t ht hW => ⟨⟨1, (()), rfl, Or.inl ⟨rfl, c_1, c_6⟩, by rw [ht]; exact hP9, by rw [hAe]; exact hD9⟩, by rw [hAe]; exact hS.F ht⟩) hS.2.2 dX7_within_14

set_option maxHeartbeats 4000000 in
set_option maxRecDepth 100000 in
theorem c_X7_mark (l : Launch) (D : va_G) (ak : Nat → ClassId) (ad : Nat → Nat) (sz : Nat) (h0 : Nat) (xt : Nat) (xe : Nat) (xr : Nat) (xh : Nat) (xw : Nat) (xf : Nat) (xm : Nat) (xd : Nat) (xs : Nat) (xl : Nat) (b1 : Nat) (b2 : Nat) (b3 : Nat) (b4 : Nat) (b5 : Nat) (b6 : Nat) (o0 : Nat) (oe : Nat) (m1 : Nat) (m2 : Nat) (m3 : Nat) (m4 : Nat) (m5 : Nat) (m6 : Nat) (a0 : Int32) (a1 : Int32) (fm : Nat → Option Nat) (g1 : Nat → Int32) (g2 : Nat → Int32) (g3 : Nat → Int32) (g4 : Nat → Int32) (g5 : Nat → Int32) (k1 : Nat → Int32) (k2 : Nat → Int32) (k3 : Nat → Int32) (k4 : Nat → Int32) (k5 : Nat → Int32) (hsel : ∀ j, j < 4 → a0 = nI j → fm j = some o0) : Met l yX7_mark wsX7_mark ({ frames := 3, cells := 0, slots := 0, locals := 82 }) (cPre D ak ad [.ref h0, .int (a0), .int (a1)] ([(h0, .inr (6, [.ref xt, .ref xe, .ref xr, .ref xh, .ref xw, .ref xf, .ref xm, .ref xd, .ref xs, .ref xl])), (xh, .inr (1, [.ref xe, .ref b1, .ref b2, .ref b3, .ref b4, .ref b5, .ref b6, .int (0), .int (0), .int (0), .int (0), .int (0)])), (o0, .inr (1, [.ref oe, .ref m1, .ref m2, .ref m3, .ref m4, .ref m5, .ref m6, .int (0), .int (0), .int (0), .int (0), .int (0)])), (b1, .inl (ak 0, 16, .inl (g1))), (b2, .inl (ak 0, 16, .inl (g2))), (b3, .inl (ak 0, 16, .inl (g3))), (b4, .inl (ak 0, 6, .inl (g4))), (b5, .inl (ak 0, 200, .inl (g5))), (m1, .inl (ak 0, 16, .inl (k1))), (m2, .inl (ak 0, 16, .inl (k2))), (m3, .inl (ak 0, 16, .inl (k3))), (m4, .inl (ak 0, 6, .inl (k4))), (m5, .inl (ak 0, 200, .inl (k5))), (xm, .inl (ak 5, 4, .inr (.inr (.inr (.inr (fm)))))), (xd, .inl (ak 3, 4, .inl (fun _ => 0)))]) sz) (cI D (S := Unit) (fun (r : Int32) (u : Unit) => r = fr_mark a0 a1) (fun u => []) ([(h0, .inr (6, [.ref xt, .ref xe, .ref xr, .ref xh, .ref xw, .ref xf, .ref xm, .ref xd, .ref xs, .ref xl])), (xh, .inr (1, [.ref xe, .ref b1, .ref b2, .ref b3, .ref b4, .ref b5, .ref b6, .int (0), .int (0), .int (0), .int (0), .int (0)])), (o0, .inr (1, [.ref oe, .ref m1, .ref m2, .ref m3, .ref m4, .ref m5, .ref m6, .int (0), .int (0), .int (0), .int (0), .int (0)])), (b1, .inl (ak 0, 16, .inl (g1))), (b2, .inl (ak 0, 16, .inl (g2))), (b3, .inl (ak 0, 16, .inl (g3))), (b4, .inl (ak 0, 6, .inl (g4))), (b5, .inl (ak 0, 200, .inl (g5))), (m1, .inl (ak 0, 16, .inl (k1))), (m2, .inl (ak 0, 16, .inl (k2))), (m3, .inl (ak 0, 16, .inl (k3))), (m4, .inl (ak 0, 6, .inl (k4))), (m5, .inl (ak 0, 200, .inl (k5))), (xm, .inl (ak 5, 4, .inr (.inr (.inr (.inr (fm)))))), (xd, .inl (ak 3, 4, .inl (fun _ => 0)))]) sz) 0 0 (va_A ([(h0, .inr (6, [.ref xt, .ref xe, .ref xr, .ref xh, .ref xw, .ref xf, .ref xm, .ref xd, .ref xs, .ref xl])), (xh, .inr (1, [.ref xe, .ref b1, .ref b2, .ref b3, .ref b4, .ref b5, .ref b6, .int (0), .int (0), .int (0), .int (0), .int (0)])), (o0, .inr (1, [.ref oe, .ref m1, .ref m2, .ref m3, .ref m4, .ref m5, .ref m6, .int (0), .int (0), .int (0), .int (0), .int (0)])), (b1, .inl (ak 0, 16, .inl (g1))), (b2, .inl (ak 0, 16, .inl (g2))), (b3, .inl (ak 0, 16, .inl (g3))), (b4, .inl (ak 0, 6, .inl (g4))), (b5, .inl (ak 0, 200, .inl (g5))), (m1, .inl (ak 0, 16, .inl (k1))), (m2, .inl (ak 0, 16, .inl (k2))), (m3, .inl (ak 0, 16, .inl (k3))), (m4, .inl (ak 0, 6, .inl (k4))), (m5, .inl (ak 0, 200, .inl (k5))), (xm, .inl (ak 5, 4, .inr (.inr (.inr (.inr (fm)))))), (xd, .inl (ak 3, 4, .inl (fun _ => 0)))]) sz) := by
  refine Met.ofW (cc := cX7_mark) (maxL := 3) (ret := (some .boolean)) (by decide) rfl ?_
  intro p e s m args below meth c s₁ B hml hv
  obtain ⟨rfl, hsz, hP, hE, hD0, hT⟩ := hv
  have hx := B.exec
  have hb := B.bytes
  have hr := B.returns
  have hts := atoms_spec (ws := wsX7_mark) B.pre
  have hown : s.vm.findClass RX7 = some m.cls := findClass_of_methodNamed B.named
  have hlocks := B.notSynchronized
  subst hsz
  have hD := hD0.self (sz := s.heap.size)
  generalize hAe : va_A ([(h0, .inr (6, [.ref xt, .ref xe, .ref xr, .ref xh, .ref xw, .ref xf, .ref xm, .ref xd, .ref xs, .ref xl])), (xh, .inr (1, [.ref xe, .ref b1, .ref b2, .ref b3, .ref b4, .ref b5, .ref b6, .int (0), .int (0), .int (0), .int (0), .int (0)])), (o0, .inr (1, [.ref oe, .ref m1, .ref m2, .ref m3, .ref m4, .ref m5, .ref m6, .int (0), .int (0), .int (0), .int (0), .int (0)])), (b1, .inl (ak 0, 16, .inl (g1))), (b2, .inl (ak 0, 16, .inl (g2))), (b3, .inl (ak 0, 16, .inl (g3))), (b4, .inl (ak 0, 6, .inl (g4))), (b5, .inl (ak 0, 200, .inl (g5))), (m1, .inl (ak 0, 16, .inl (k1))), (m2, .inl (ak 0, 16, .inl (k2))), (m3, .inl (ak 0, 16, .inl (k3))), (m4, .inl (ak 0, 6, .inl (k4))), (m5, .inl (ak 0, 200, .inl (k5))), (xm, .inl (ak 5, 4, .inr (.inr (.inr (.inr (fm)))))), (xd, .inl (ak 3, 4, .inl (fun _ => 0)))]) s.heap.size = A at hD hT ⊢
  have hA : ∀ q : Nat, s.heap.size ≤ q → A q := fun q h => by rw [← hAe]; exact Or.inr h
  have hS : va_S A s.heap s.heap [] := va_S.rf
  have hl := lv_entry ([.ref h0, .int (a0), .int (a1)]) (n := 3) (Nat.le_of_ble_eq_true rfl)
  rw [lg_entry_eq]
  generalize (lg_sl ([.ref h0, .int (a0), .int (a1)]) ++ List.replicate (3 - (lg_sl ([.ref h0, .int (a0), .int (a1)])).length) Slot.unset).toArray = ls at hl ⊢
  have hl : lv_has ls 3 [(0, .ref h0), (1, .int (a0)), (2, .int (a1))] := hl
  have hP : va_P D vwCl [(h0, .inr (6, [.ref xt, .ref xe, .ref xr, .ref xh, .ref xw, .ref xf, .ref xm, .ref xd, .ref xs, .ref xl])), (xh, .inr (1, [.ref xe, .ref b1, .ref b2, .ref b3, .ref b4, .ref b5, .ref b6, .int (0), .int (0), .int (0), .int (0), .int (0)])), (o0, .inr (1, [.ref oe, .ref m1, .ref m2, .ref m3, .ref m4, .ref m5, .ref m6, .int (0), .int (0), .int (0), .int (0), .int (0)])), (b1, .inl (ak 0, 16, .inl (g1))), (b2, .inl (ak 0, 16, .inl (g2))), (b3, .inl (ak 0, 16, .inl (g3))), (b4, .inl (ak 0, 6, .inl (g4))), (b5, .inl (ak 0, 200, .inl (g5))), (m1, .inl (ak 0, 16, .inl (k1))), (m2, .inl (ak 0, 16, .inl (k2))), (m3, .inl (ak 0, 16, .inl (k3))), (m4, .inl (ak 0, 6, .inl (k4))), (m5, .inl (ak 0, 200, .inl (k5))), (xm, .inl (ak 5, 4, .inr (.inr (.inr (.inr (fm)))))), (xd, .inl (ak 3, 4, .inl (fun _ => 0)))] s.heap := hP
  refine lv_iload_n hx hb dX7_mark_0 rfl (lv_at hl 1 rfl) ?_
  refine lv_iconst (v := 4) hx hb dX7_mark_1 (by decide) ?_
  refine kc_i (wc := []) (wr := [(h0, .inr (6, [.ref xt, .ref xe, .ref xr, .ref xh, .ref xw, .ref xf, .ref xm, .ref xd, .ref xs, .ref xl])), (xh, .inr (1, [.ref xe, .ref b1, .ref b2, .ref b3, .ref b4, .ref b5, .ref b6, .int (0), .int (0), .int (0), .int (0), .int (0)])), (o0, .inr (1, [.ref oe, .ref m1, .ref m2, .ref m3, .ref m4, .ref m5, .ref m6, .int (0), .int (0), .int (0), .int (0), .int (0)])), (b1, .inl (ak 0, 16, .inl (g1))), (b2, .inl (ak 0, 16, .inl (g2))), (b3, .inl (ak 0, 16, .inl (g3))), (b4, .inl (ak 0, 6, .inl (g4))), (b5, .inl (ak 0, 200, .inl (g5))), (m1, .inl (ak 0, 16, .inl (k1))), (m2, .inl (ak 0, 16, .inl (k2))), (m3, .inl (ak 0, 16, .inl (k3))), (m4, .inl (ak 0, 6, .inl (k4))), (m5, .inl (ak 0, 200, .inl (k5))), (xm, .inl (ak 5, 4, .inr (.inr (.inr (.inr (fm)))))), (xd, .inl (ak 3, 4, .inl (fun _ => 0)))]) hP hD hS hA [] [0, 1, 2, 3, 4, 5, 6, 7, 8, 9, 10, 11, 12, 13, 14] rfl rfl (by decide) (by decide) (va_runS (As := [.int (a0), .int (4)]) (rest := []) ⟨hx, hb, hml, hown, hts⟩ (c_X7_within4 l D ak ad _ (a0) ) (va_cwS 2 hts gX7_mark_X7_within rfl rfl rfl (by decide +kernel) ⟨Nat.le_of_ble_eq_true rfl, Nat.le_of_ble_eq_true rfl⟩) (kc_pre (As := [.int (a0), .int (4)]) (wc := []) hE hT hP hD hS hA [] (by decide) rfl rfl) rfl rfl hl.1 rfl (lv_room (Nat.le_of_ble_eq_true rfl)) dX7_mark_2 ⟨Nat.le_of_ble_eq_true rfl, Nat.le_of_ble_eq_true rfl⟩) (fun r_2 u_0 H locs hw_2 hP hD hS => ?_)
  have hP : va_P D vwCl [(h0, .inr (6, [.ref xt, .ref xe, .ref xr, .ref xh, .ref xw, .ref xf, .ref xm, .ref xd, .ref xs, .ref xl])), (xh, .inr (1, [.ref xe, .ref b1, .ref b2, .ref b3, .ref b4, .ref b5, .ref b6, .int (0), .int (0), .int (0), .int (0), .int (0)])), (o0, .inr (1, [.ref oe, .ref m1, .ref m2, .ref m3, .ref m4, .ref m5, .ref m6, .int (0), .int (0), .int (0), .int (0), .int (0)])), (b1, .inl (ak 0, 16, .inl (g1))), (b2, .inl (ak 0, 16, .inl (g2))), (b3, .inl (ak 0, 16, .inl (g3))), (b4, .inl (ak 0, 6, .inl (g4))), (b5, .inl (ak 0, 200, .inl (g5))), (m1, .inl (ak 0, 16, .inl (k1))), (m2, .inl (ak 0, 16, .inl (k2))), (m3, .inl (ak 0, 16, .inl (k3))), (m4, .inl (ak 0, 6, .inl (k4))), (m5, .inl (ak 0, 200, .inl (k5))), (xm, .inl (ak 5, 4, .inr (.inr (.inr (.inr (fm)))))), (xd, .inl (ak 3, 4, .inl (fun _ => 0)))] H := hP
  have hD : va_D A [(h0, .inr (6, [.ref xt, .ref xe, .ref xr, .ref xh, .ref xw, .ref xf, .ref xm, .ref xd, .ref xs, .ref xl])), (xh, .inr (1, [.ref xe, .ref b1, .ref b2, .ref b3, .ref b4, .ref b5, .ref b6, .int (0), .int (0), .int (0), .int (0), .int (0)])), (o0, .inr (1, [.ref oe, .ref m1, .ref m2, .ref m3, .ref m4, .ref m5, .ref m6, .int (0), .int (0), .int (0), .int (0), .int (0)])), (b1, .inl (ak 0, 16, .inl (g1))), (b2, .inl (ak 0, 16, .inl (g2))), (b3, .inl (ak 0, 16, .inl (g3))), (b4, .inl (ak 0, 6, .inl (g4))), (b5, .inl (ak 0, 200, .inl (g5))), (m1, .inl (ak 0, 16, .inl (k1))), (m2, .inl (ak 0, 16, .inl (k2))), (m3, .inl (ak 0, 16, .inl (k3))), (m4, .inl (ak 0, 6, .inl (k4))), (m5, .inl (ak 0, 200, .inl (k5))), (xm, .inl (ak 5, 4, .inr (.inr (.inr (.inr (fm)))))), (xd, .inl (ak 3, 4, .inl (fun _ => 0)))] := hD
  have hno : r_2 = 0 → (a0 < 0 ∨ 4 ≤ a0) := fun h => hw_2.elim (fun q => absurd (q.1.symm.trans h) (by decide)) (fun q => q.2)
  have hyes : ¬ r_2 = 0 → (r_2 = 1 ∧ ¬ a0 < 0 ∧ ¬ 4 ≤ a0) := fun h => hw_2.elim id (fun q => absurd q.1 h)
  refine lv_if_eq (tgt := 21) hx hb dX7_mark_5 (by decide) (fun c_5 => ?_) (fun c_5 => ?_)
  · refine lv_iconst (v := 0) hx hb dX7_mark_21 (by decide) ?_
    have hP9 := hP.sub (ws' := []) [] rfl
    have hD9 := hD.sub (ws' := []) [] (by decide) rfl
    refine W.widen (k := 0) (n := 0) (Nat.le_of_ble_eq_true rfl) (Nat.le_of_ble_eq_true rfl) ?_
    exact W.zret (v := 0) hx hb hr (rfl) (fun t ht hW => ⟨⟨0, (()), rfl, (by rw [fr_mark]; first | rw [if_neg (fun h => h.elim hr4.2.1 hr4.2.2), if_neg c_9] | rw [if_pos (hno c_5)]), by rw [ht]; exact hP9, by rw [hAe]; exact hD9⟩, by rw [hAe]; exact hS.F ht⟩) hS.2.2 dX7_mark_22
  · have hr4 := hyes c_5
    refine lv_iload_n hx hb dX7_mark_8 rfl (lv_at hl 2 rfl) ?_
    refine lv_if_eq (tgt := 23) hx hb dX7_mark_9 (by decide) (fun c_9 => ?_) (fun c_9 => ?_)
    · refine lv_iload_n hx hb dX7_mark_23 rfl (lv_at hl 2 rfl) ?_
      refine lv_if_eq (tgt := 43) hx hb dX7_mark_24 (by decide) (fun c_24 => ?_) (fun c_24 => ?_)
      · refine lv_aload_n hx hb dX7_mark_43 rfl (lv_at hl 0 rfl) ?_
        refine va_get (D := D) (ci := 6) (v := .ref xm) (C := RX7) (T := TX7) (N := 10) hx hb hts (fun w h => List.mem_cons_of_mem _ (List.mem_append_left _ (List.mem_append_right _ h))) hown hE.1 hP 0 rfl rfl 6 (by decide) (hts (.fieldLink RX7 47 "WornLines" "marks" "[LWornLines$Machine;") (by decide +kernel)) (fun _ h9 => h9) rfl dX7_mark_44 ?_
        refine lv_iload_n hx hb dX7_mark_47 rfl (lv_at hl 1 rfl) ?_
        refine va_aldq hx hb hE.1 hP 13 5 rfl rfl (in4 hr4.2.1 hr4.2.2) dX7_mark_48 ?_
        refine W.eq (g2 := F0 m 49 ls (.ref o0 :: [])) (by obtain ⟨j, hj, ej⟩ := vp_in_of (in4 hr4.2.1 hr4.2.2) (by decide); rw [show fm (a0 : Int32).toNatClampNeg = some o0 from by rw [ej, nI_clamp (by omega)]; exact hsel j hj ej]; rfl) ?_
        refine lv_aload_n hx hb dX7_mark_49 rfl (lv_at hl 0 rfl) ?_
        refine va_get (D := D) (ci := 6) (v := .ref xh) (C := RX7) (T := TX7) (N := 10) hx hb hts (fun w h => List.mem_cons_of_mem _ (List.mem_append_left _ (List.mem_append_right _ h))) hown hE.1 hP 0 rfl rfl 3 (by decide) (hts (.fieldLink RX7 37 "WornLines" "hand" "LWornLines$Machine;") (by decide +kernel)) (fun _ h9 => h9) rfl dX7_mark_50 ?_
        refine kc_v (wc := [(o0, .inr (1, [.ref oe, .ref m1, .ref m2, .ref m3, .ref m4, .ref m5, .ref m6, .int (0), .int (0), .int (0), .int (0), .int (0)])), (xh, .inr (1, [.ref xe, .ref b1, .ref b2, .ref b3, .ref b4, .ref b5, .ref b6, .int (0), .int (0), .int (0), .int (0), .int (0)])), (m1, .inl (ak 0, 16, .inl (k1))), (m2, .inl (ak 0, 16, .inl (k2))), (m3, .inl (ak 0, 16, .inl (k3))), (m4, .inl (ak 0, 6, .inl (k4))), (m5, .inl (ak 0, 200, .inl (k5))), (b1, .inl (ak 0, 16, .inl (g1))), (b2, .inl (ak 0, 16, .inl (g2))), (b3, .inl (ak 0, 16, .inl (g3))), (b4, .inl (ak 0, 6, .inl (g4))), (b5, .inl (ak 0, 200, .inl (g5)))]) (wr := [(h0, .inr (6, [.ref xt, .ref xe, .ref xr, .ref xh, .ref xw, .ref xf, .ref xm, .ref xd, .ref xs, .ref xl])), (xm, .inl (ak 5, 4, .inr (.inr (.inr (.inr (fm)))))), (xd, .inl (ak 3, 4, .inl (fun _ => 0)))]) hP hD hS hA [2, 1, 8, 9, 10, 11, 12, 3, 4, 5, 6, 7] [0, 13, 14] rfl rfl (by decide) (by decide) (va_runV (As := [.ref xh]) (rest := []) ⟨hx, hb, hml, hown, hts⟩ (c_X1_copy l D ak ad _ (o0) (oe) (xh) (xe) (m1) (m2) (m3) (m4) (m5) (m6) (b1) (b2) (b3) (b4) (b5) (b6) (k1) (k2) (k3) (k4) (k5) (g1) (g2) (g3) (g4) (g5) ) (cwV 1 hts gX7_mark_X1_copy rfl rfl rfl (by decide +kernel) ⟨Nat.le_of_ble_eq_true rfl, Nat.le_of_ble_eq_true rfl⟩) (kc_preV (As := [.ref xh]) (wc := [(o0, .inr (1, [.ref oe, .ref m1, .ref m2, .ref m3, .ref m4, .ref m5, .ref m6, .int (0), .int (0), .int (0), .int (0), .int (0)])), (xh, .inr (1, [.ref xe, .ref b1, .ref b2, .ref b3, .ref b4, .ref b5, .ref b6, .int (0), .int (0), .int (0), .int (0), .int (0)])), (m1, .inl (ak 0, 16, .inl (k1))), (m2, .inl (ak 0, 16, .inl (k2))), (m3, .inl (ak 0, 16, .inl (k3))), (m4, .inl (ak 0, 6, .inl (k4))), (m5, .inl (ak 0, 200, .inl (k5))), (b1, .inl (ak 0, 16, .inl (g1))), (b2, .inl (ak 0, 16, .inl (g2))), (b3, .inl (ak 0, 16, .inl (g3))), (b4, .inl (ak 0, 6, .inl (g4))), (b5, .inl (ak 0, 200, .inl (g5)))]) hE hT hP hD hS hA [2, 1, 8, 9, 10, 11, 12, 3, 4, 5, 6, 7] (by decide) rfl rfl 2 1 rfl rfl rfl) rfl rfl hl.1 rfl (lv_room (Nat.le_of_ble_eq_true rfl)) dX7_mark_53 ⟨Nat.le_of_ble_eq_true rfl, Nat.le_of_ble_eq_true rfl⟩) (fun u_2 H locs hw_4 hP hD hS => ?_)
        have hP : va_P D vwCl [(h0, .inr (6, [.ref xt, .ref xe, .ref xr, .ref xh, .ref xw, .ref xf, .ref xm, .ref xd, .ref xs, .ref xl])), (xm, .inl (ak 5, 4, .inr (.inr (.inr (.inr (fm)))))), (xd, .inl (ak 3, 4, .inl (fun _ => 0)))] H := hP
        have hD : va_D A [(h0, .inr (6, [.ref xt, .ref xe, .ref xr, .ref xh, .ref xw, .ref xf, .ref xm, .ref xd, .ref xs, .ref xl])), (xm, .inl (ak 5, 4, .inr (.inr (.inr (.inr (fm)))))), (xd, .inl (ak 3, 4, .inl (fun _ => 0)))] := hD
        refine lv_aload_n hx hb dX7_mark_56 rfl (lv_at hl 0 rfl) ?_
        refine va_get (D := D) (ci := 6) (v := .ref xd) (C := RX7) (T := TX7) (N := 10) hx hb hts (fun w h => List.mem_cons_of_mem _ (List.mem_append_left _ (List.mem_append_right _ h))) hown hE.1 hP 0 rfl rfl 7 (by decide) (hts (.fieldLink RX7 51 "WornLines" "marked" "[Z") (by decide +kernel)) (fun _ h9 => h9) rfl dX7_mark_57 ?_
        refine lv_iload_n hx hb dX7_mark_60 rfl (lv_at hl 1 rfl) ?_
        refine lv_iconst (v := 1) hx hb dX7_mark_61 (by decide) ?_
        refine va_zast hx hb hE.1 hP hD hS 2 3 rfl rfl (in4 hr4.2.1 hr4.2.2) dX7_mark_62 (fun H locs hP hD hS => ?_)
        have hP : va_P D vwCl [(h0, .inr (6, [.ref xt, .ref xe, .ref xr, .ref xh, .ref xw, .ref xf, .ref xm, .ref xd, .ref xs, .ref xl])), (xm, .inl (ak 5, 4, .inr (.inr (.inr (.inr (fm)))))), (xd, .inl (ak 3, 4, .inl (upd (fun _ => 0) ((a0 : Int32).toNatClampNeg) (vp_nar .boolean (1)))))] H := hP
        have hD : va_D A [(h0, .inr (6, [.ref xt, .ref xe, .ref xr, .ref xh, .ref xw, .ref xf, .ref xm, .ref xd, .ref xs, .ref xl])), (xm, .inl (ak 5, 4, .inr (.inr (.inr (.inr (fm)))))), (xd, .inl (ak 3, 4, .inl (upd (fun _ => 0) ((a0 : Int32).toNatClampNeg) (vp_nar .boolean (1)))))] := hD
        refine lv_iconst (v := 1) hx hb dX7_mark_63 (by decide) ?_
        have hP9 := hP.sub (ws' := []) [] rfl
        have hD9 := hD.sub (ws' := []) [] (by decide) rfl
        refine W.widen (k := 0) (n := 0) (Nat.le_of_ble_eq_true rfl) (Nat.le_of_ble_eq_true rfl) ?_
        exact W.zret (v := 1) hx hb hr (rfl) (fun t ht hW => ⟨⟨1, (()), rfl, (by rw [fr_mark, if_neg (fun h => h.elim hr4.2.1 hr4.2.2), if_pos c_9]), by rw [ht]; exact hP9, by rw [hAe]; exact hD9⟩, by rw [hAe]; exact hS.F ht⟩) hS.2.2 dX7_mark_64
      · exact absurd c_24 (fun h => h c_9)
    · refine lv_aload_n hx hb dX7_mark_12 rfl (lv_at hl 0 rfl) ?_
      refine va_get (D := D) (ci := 6) (v := .ref xd) (C := RX7) (T := TX7) (N := 10) hx hb hts (fun w h => List.mem_cons_of_mem _ (List.mem_append_left _ (List.mem_append_right _ h))) hown hE.1 hP 0 rfl rfl 7 (by decide) (hts (.fieldLink RX7 51 "WornLines" "marked" "[Z") (by decide +kernel)) (fun _ h9 => h9) rfl dX7_mark_13 ?_
      refine lv_iload_n hx hb dX7_mark_16 rfl (lv_at hl 1 rfl) ?_
      refine va_zald hx hb hE.1 hP 14 3 rfl rfl (in4 hr4.2.1 hr4.2.2) dX7_mark_17 ?_
      refine W.eq (g2 := F0 m 18 ls (.int (0) :: [])) rfl ?_
      refine lv_if_ne (tgt := 23) hx hb dX7_mark_18 (by decide) (fun c_18 => ?_) (fun c_18 => ?_)
      · exact absurd c_18 (by decide)
      · refine lv_iconst (v := 0) hx hb dX7_mark_21 (by decide) ?_
        have hP9 := hP.sub (ws' := []) [] rfl
        have hD9 := hD.sub (ws' := []) [] (by decide) rfl
        refine W.widen (k := 0) (n := 0) (Nat.le_of_ble_eq_true rfl) (Nat.le_of_ble_eq_true rfl) ?_
        exact W.zret (v := 0) hx hb hr (rfl) (fun t ht hW => ⟨⟨0, (()), rfl, (by rw [fr_mark]; first | rw [if_neg (fun h => h.elim hr4.2.1 hr4.2.2), if_neg c_9] | rw [if_pos (hno c_5)]), by rw [ht]; exact hP9, by rw [hAe]; exact hD9⟩, by rw [hAe]; exact hS.F ht⟩) hS.2.2 dX7_mark_22
