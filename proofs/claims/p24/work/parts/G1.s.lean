section FB5
variable {D : va_G} {A : Nat → Prop} {H : Heap} {FR B E S X : va_W}
theorem fb5 (h : va_P D vwCl (((FR ++ B) ++ S) ++ (X ++ E)) H) : va_P D vwCl ((FR ++ B) ++ (S ++ (X ++ E))) H := by rw [List.append_assoc (FR ++ B) S (X ++ E)] at h; exact h
theorem fb5D (h : va_D A (((FR ++ B) ++ S) ++ (X ++ E))) : va_D A ((FR ++ B) ++ (S ++ (X ++ E))) := by rw [List.append_assoc (FR ++ B) S (X ++ E)] at h; exact h
end FB5
theorem dX7_init_0 : decode cX7_init 0 = .ok (.aload_n 0, 1) := by decide +kernel
theorem dX7_init_1 : decode cX7_init 1 = .ok (.invokespecial 1, 3) := by decide +kernel
theorem dX7_init_4 : decode cX7_init 4 = .ok (.aload_n 0, 1) := by decide +kernel
theorem dX7_init_5 : decode cX7_init 5 = .ok (.new 7, 3) := by decide +kernel
theorem dX7_init_8 : decode cX7_init 8 = .ok (.dup, 1) := by decide +kernel
set_option maxRecDepth 20000 in
theorem ggX7_init_X5_init : GoodIn wsX7_init wsX5_init := gup gc_X5_init
set_option maxRecDepth 20000 in
theorem gX7_init_X5_init_n9 : GoodIn wsX7_init (wsX5_init) := ggX7_init_X5_init
theorem dX7_init_9 : decode cX7_init 9 = .ok (.invokespecial 9, 3) := by decide +kernel
theorem dX7_init_12 : decode cX7_init 12 = .ok (.putfield 10, 3) := by decide +kernel
theorem dX7_init_15 : decode cX7_init 15 = .ok (.aload_n 0, 1) := by decide +kernel
theorem dX7_init_16 : decode cX7_init 16 = .ok (.new 16, 3) := by decide +kernel
theorem dX7_init_19 : decode cX7_init 19 = .ok (.dup, 1) := by decide +kernel
set_option maxRecDepth 20000 in
theorem ggX7_init_X2_init : GoodIn wsX7_init wsX2_init := gup gc_X2_init
set_option maxRecDepth 20000 in
theorem gX7_init_X2_init_n18 : GoodIn wsX7_init (wsX2_init) := ggX7_init_X2_init
theorem dX7_init_20 : decode cX7_init 20 = .ok (.invokespecial 18, 3) := by decide +kernel
theorem dX7_init_23 : decode cX7_init 23 = .ok (.putfield 19, 3) := by decide +kernel
theorem dX7_init_26 : decode cX7_init 26 = .ok (.aload_n 0, 1) := by decide +kernel
theorem dX7_init_27 : decode cX7_init 27 = .ok (.new 23, 3) := by decide +kernel
theorem dX7_init_30 : decode cX7_init 30 = .ok (.dup, 1) := by decide +kernel
theorem dX7_init_31 : decode cX7_init 31 = .ok (.aload_n 0, 1) := by decide +kernel
theorem dX7_init_32 : decode cX7_init 32 = .ok (.getfield 10, 3) := by decide +kernel
theorem dX7_init_35 : decode cX7_init 35 = .ok (.aload_n 0, 1) := by decide +kernel
theorem dX7_init_36 : decode cX7_init 36 = .ok (.getfield 19, 3) := by decide +kernel
set_option maxRecDepth 20000 in
theorem ggX7_init_X3_init : GoodIn wsX7_init wsX3_init := gup gc_X3_init
set_option maxRecDepth 20000 in
theorem gX7_init_X3_init : GoodIn wsX7_init (wsX3_init) := ggX7_init_X3_init
theorem dX7_init_39 : decode cX7_init 39 = .ok (.invokespecial 25, 3) := by decide +kernel
theorem dX7_init_42 : decode cX7_init 42 = .ok (.putfield 28, 3) := by decide +kernel
theorem dX7_init_45 : decode cX7_init 45 = .ok (.aload_n 0, 1) := by decide +kernel
theorem dX7_init_46 : decode cX7_init 46 = .ok (.new 32, 3) := by decide +kernel
theorem dX7_init_49 : decode cX7_init 49 = .ok (.dup, 1) := by decide +kernel
theorem dX7_init_50 : decode cX7_init 50 = .ok (.aload_n 0, 1) := by decide +kernel
theorem dX7_init_51 : decode cX7_init 51 = .ok (.getfield 19, 3) := by decide +kernel
theorem dX7_init_54 : decode cX7_init 54 = .ok (.sipush 200, 3) := by decide +kernel
set_option maxRecDepth 20000 in
theorem ggX7_init_X1_init : GoodIn wsX7_init wsX1_init := gup gc_X1_init
set_option maxRecDepth 20000 in
theorem gX7_init_X1_init : GoodIn wsX7_init (wsX1_init) := ggX7_init_X1_init
theorem dX7_init_57 : decode cX7_init 57 = .ok (.invokespecial 34, 3) := by decide +kernel
theorem dX7_init_60 : decode cX7_init 60 = .ok (.putfield 37, 3) := by decide +kernel
theorem dX7_init_63 : decode cX7_init 63 = .ok (.aload_n 0, 1) := by decide +kernel
theorem dX7_init_64 : decode cX7_init 64 = .ok (.new 32, 3) := by decide +kernel
theorem dX7_init_67 : decode cX7_init 67 = .ok (.dup, 1) := by decide +kernel
theorem dX7_init_68 : decode cX7_init 68 = .ok (.aload_n 0, 1) := by decide +kernel
theorem dX7_init_69 : decode cX7_init 69 = .ok (.getfield 19, 3) := by decide +kernel
theorem dX7_init_72 : decode cX7_init 72 = .ok (.sipush 1000, 3) := by decide +kernel
theorem dX7_init_75 : decode cX7_init 75 = .ok (.invokespecial 34, 3) := by decide +kernel
theorem dX7_init_78 : decode cX7_init 78 = .ok (.putfield 41, 3) := by decide +kernel
theorem dX7_init_81 : decode cX7_init 81 = .ok (.aload_n 0, 1) := by decide +kernel
theorem dX7_init_82 : decode cX7_init 82 = .ok (.new 32, 3) := by decide +kernel
theorem dX7_init_85 : decode cX7_init 85 = .ok (.dup, 1) := by decide +kernel
theorem dX7_init_86 : decode cX7_init 86 = .ok (.aload_n 0, 1) := by decide +kernel
theorem dX7_init_87 : decode cX7_init 87 = .ok (.getfield 19, 3) := by decide +kernel
theorem dX7_init_90 : decode cX7_init 90 = .ok (.sipush 1000, 3) := by decide +kernel
theorem dX7_init_93 : decode cX7_init 93 = .ok (.invokespecial 34, 3) := by decide +kernel
theorem dX7_init_96 : decode cX7_init 96 = .ok (.putfield 44, 3) := by decide +kernel
theorem dX7_init_99 : decode cX7_init 99 = .ok (.aload_n 0, 1) := by decide +kernel
theorem dX7_init_100 : decode cX7_init 100 = .ok (.iconst 4, 1) := by decide +kernel
theorem dX7_init_101 : decode cX7_init 101 = .ok (.anewarray 32, 3) := by decide +kernel
theorem dX7_init_104 : decode cX7_init 104 = .ok (.putfield 47, 3) := by decide +kernel
theorem dX7_init_107 : decode cX7_init 107 = .ok (.aload_n 0, 1) := by decide +kernel
theorem dX7_init_108 : decode cX7_init 108 = .ok (.iconst 4, 1) := by decide +kernel
theorem dX7_init_109 : decode cX7_init 109 = .ok (.newarray .boolean, 2) := by decide +kernel
theorem dX7_init_111 : decode cX7_init 111 = .ok (.putfield 51, 3) := by decide +kernel
theorem dX7_init_114 : decode cX7_init 114 = .ok (.aload_n 0, 1) := by decide +kernel
theorem dX7_init_115 : decode cX7_init 115 = .ok (.new 55, 3) := by decide +kernel
theorem dX7_init_118 : decode cX7_init 118 = .ok (.dup, 1) := by decide +kernel
set_option maxRecDepth 20000 in
theorem ggX7_init_X4_init : GoodIn wsX7_init wsX4_init := gup gc_X4_init
set_option maxRecDepth 20000 in
theorem gX7_init_X4_init_n57 : GoodIn wsX7_init (wsX4_init) := ggX7_init_X4_init
theorem dX7_init_119 : decode cX7_init 119 = .ok (.invokespecial 57, 3) := by decide +kernel
theorem dX7_init_122 : decode cX7_init 122 = .ok (.putfield 58, 3) := by decide +kernel
theorem dX7_init_125 : decode cX7_init 125 = .ok (.aload_n 0, 1) := by decide +kernel
theorem dX7_init_126 : decode cX7_init 126 = .ok (.new 62, 3) := by decide +kernel
theorem dX7_init_129 : decode cX7_init 129 = .ok (.dup, 1) := by decide +kernel
theorem dX7_init_130 : decode cX7_init 130 = .ok (.aload_n 0, 1) := by decide +kernel
theorem dX7_init_131 : decode cX7_init 131 = .ok (.getfield 19, 3) := by decide +kernel
set_option maxRecDepth 20000 in
theorem ggX7_init_X0_init : GoodIn wsX7_init wsX0_init := gup gc_X0_init
set_option maxRecDepth 20000 in
theorem gX7_init_X0_init : GoodIn wsX7_init (wsX0_init) := ggX7_init_X0_init
theorem dX7_init_134 : decode cX7_init 134 = .ok (.invokespecial 64, 3) := by decide +kernel
theorem dX7_init_137 : decode cX7_init 137 = .ok (.putfield 67, 3) := by decide +kernel
theorem dX7_init_140 : decode cX7_init 140 = .ok (.iconst 0, 1) := by decide +kernel
theorem dX7_init_141 : decode cX7_init 141 = .ok (.istore_n 1, 1) := by decide +kernel
theorem dX7_init_142 : decode cX7_init 142 = .ok (.iload_n 1, 1) := by decide +kernel
theorem dX7_init_143 : decode cX7_init 143 = .ok (.iconst 4, 1) := by decide +kernel
theorem dX7_init_144 : decode cX7_init 144 = .ok (.if_icmp .ge 29, 3) := by decide +kernel
theorem dX7_init_147 : decode cX7_init 147 = .ok (.aload_n 0, 1) := by decide +kernel
theorem dX7_init_148 : decode cX7_init 148 = .ok (.getfield 47, 3) := by decide +kernel
theorem dX7_init_151 : decode cX7_init 151 = .ok (.iload_n 1, 1) := by decide +kernel
theorem dX7_init_152 : decode cX7_init 152 = .ok (.new 32, 3) := by decide +kernel
theorem dX7_init_155 : decode cX7_init 155 = .ok (.dup, 1) := by decide +kernel
theorem dX7_init_156 : decode cX7_init 156 = .ok (.aload_n 0, 1) := by decide +kernel
theorem dX7_init_157 : decode cX7_init 157 = .ok (.getfield 19, 3) := by decide +kernel
theorem dX7_init_160 : decode cX7_init 160 = .ok (.sipush 200, 3) := by decide +kernel
theorem dX7_init_163 : decode cX7_init 163 = .ok (.invokespecial 34, 3) := by decide +kernel
theorem dX7_init_166 : decode cX7_init 166 = .ok (.aastore, 1) := by decide +kernel
theorem dX7_init_167 : decode cX7_init 167 = .ok (.iinc 1 1, 3) := by decide +kernel
theorem dX7_init_170 : decode cX7_init 170 = .ok (.goto (-28), 3) := by decide +kernel
theorem dX7_init_173 : decode cX7_init 173 = .ok (.return_, 1) := by decide +kernel
set_option maxHeartbeats 8000000 in
set_option maxRecDepth 100000 in
theorem x_init (l : Launch) (D : va_G) (ak : Nat → ClassId) (ad : Nat → Nat) (sz : Nat) (h0 : Nat)  : Met l yX7_init wsX7_init ({ frames := 2, cells := 99, slots := 10070, locals := 34 }) (cPre D ak ad [.ref h0] ([(h0, .inr (6, [.null, .null, .null, .null, .null, .null, .null, .null, .null, .null]))]) sz) (cV D (S := va_W) (fun L => IX ak ad h0 v0 L) (fun L => L) ([(h0, .inr (6, [.null, .null, .null, .null, .null, .null, .null, .null, .null, .null]))]) sz) 99 10070 (va_A ([(h0, .inr (6, [.null, .null, .null, .null, .null, .null, .null, .null, .null, .null]))]) sz) := by
  refine Met.ofW (cc := cX7_init) (maxL := 2) (ret := none) (by decide) rfl ?_
  intro p e s m args below meth c s₁ B hml hv
  obtain ⟨rfl, hsz, hP, hE, hD0, hT⟩ := hv
  have hx := B.exec
  have hb := B.bytes
  have hr := B.returns
  have hts := atoms_spec (ws := wsX7_init) B.pre
  have hown : s.vm.findClass RX7 = some m.cls := findClass_of_methodNamed B.named
  have hlocks := B.notSynchronized
  have hin : meth.name = "<init>" := (name_of_methodNamed B.named B.method).1
  subst hsz
  have hD := hD0.self (sz := s.heap.size)
  generalize hAe : va_A ([(h0, .inr (6, [.null, .null, .null, .null, .null, .null, .null, .null, .null, .null]))]) s.heap.size = A at hD hT ⊢
  have hA : ∀ q : Nat, s.heap.size ≤ q → A q := fun q h => by rw [← hAe]; exact Or.inr h
  have hS : va_S A s.heap s.heap [] := va_S.rf
  have hl := lv_entry ([.ref h0]) (n := 2) (Nat.le_of_ble_eq_true rfl)
  rw [lg_entry_eq]
  generalize (lg_sl ([.ref h0]) ++ List.replicate (2 - (lg_sl ([.ref h0])).length) Slot.unset).toArray = ls at hl ⊢
  have hl : lv_has ls 2 [(0, .ref h0)] := hl
  refine lv_aload_n hx hb dX7_init_0 rfl (lv_at hl 0 rfl) ?_
  refine W.objInit hx hb hown (hts (.methodLink RX7 1 objectInit) (wm_c hw_652)) (hts (.instanceMethod objectInit) (wm_c hw_261)) (hts (.code objectInit ⟨#[0xb1]⟩ 1 none) (wm_c hw_262)) rfl (by rw [hml]; exact hl.1) rfl dX7_init_1 (Nat.le_of_ble_eq_true rfl) (Nat.le_of_ble_eq_true rfl) ?_
  refine W.eq (g2 := F0 m 4 ls ([])) rfl ?_
  have hP : va_P D vwCl (([(h0, .inr (6, [.null, .null, .null, .null, .null, .null, .null, .null, .null, .null]))] ++ ([] : va_W)) ++ ([] : va_W)) s.heap := hP
  have hD : va_D A (([(h0, .inr (6, [.null, .null, .null, .null, .null, .null, .null, .null, .null, .null]))] ++ ([] : va_W)) ++ ([] : va_W)) := hD
  refine lv_aload_n hx hb dX7_init_4 rfl (lv_at hl 0 rfl) ?_
  refine va_new (ci := 5) (fs := [.null, .int (0), .null, .null, .null, .int (0)]) (C := RX5) (T := TX5) (N := 6) hx hb hts (fun w h => wm_c (wc_X5 w h)) tyX5 tyX5_ok hown (hts (.classLink RX7 7 RX5) (wm_c hw_653)) (hts (.instantiable RX5 6) (wm_c hw_654)) (hts (.initialized RX5) (wm_c hw_401)) hE.1 hP hD hS hA rfl (by decide) (Nat.le_of_ble_eq_true rfl) (Nat.le_of_ble_eq_true rfl) dX7_init_5 (fun q_1 H hP hD hS => ?_)
  have hP : va_P D vwCl (([(h0, .inr (6, [.null, .null, .null, .null, .null, .null, .null, .null, .null, .null]))] ++ ([] : va_W)) ++ ([(q_1, .inr (5, [.null, .int (0), .null, .null, .null, .int (0)]))] ++ ([] : va_W))) H := fb1 hP
  have hD : va_D A (([(h0, .inr (6, [.null, .null, .null, .null, .null, .null, .null, .null, .null, .null]))] ++ ([] : va_W)) ++ ([(q_1, .inr (5, [.null, .int (0), .null, .null, .null, .int (0)]))] ++ ([] : va_W))) := fb1D hD
  refine W.widen (k := 1) (n := 6) (Nat.le_of_ble_eq_true rfl) (Nat.le_of_ble_eq_true rfl) ?_
  refine lv_dup hx hb dX7_init_8 rfl ?_
  refine lc_v hP hD hS hA (va_runIN (As := []) (rest := [.ref q_1, .ref h0]) ⟨hx, hb, hml, hown, hts⟩ (c_X5_init l D ak ad _ (q_1) ) ⟨va_cnB 0 hts gX7_init_X5_init_n9 rfl rfl rfl (hE.2.2.2.1 _ (List.mem_of_getElem? (i := 0) rfl)) (hts (.initialized RX5) (wm_c hw_401)) (by decide +kernel) ⟨Nat.le_of_ble_eq_true rfl, Nat.le_of_ble_eq_true rfl⟩, rfl, (hts (.instanceMethod yX5_init) (wm_c hw_655))⟩ (lc_pre (As := [.ref q_1]) hE hT hP hD hS hA) rfl rfl hl.1 rfl (lv_room (Nat.le_of_ble_eq_true rfl)) dX7_init_9 ⟨Nat.le_of_ble_eq_true rfl, Nat.le_of_ble_eq_true rfl⟩) (fun a_3 H locs _ hP hD hS => ?_)
  have hP : va_P D vwCl (([(h0, .inr (6, [.null, .null, .null, .null, .null, .null, .null, .null, .null, .null]))] ++ ([] : va_W)) ++ (bT ak ad q_1 a_3 ++ ([] : va_W))) H := hP
  have hD : va_D A (([(h0, .inr (6, [.null, .null, .null, .null, .null, .null, .null, .null, .null, .null]))] ++ ([] : va_W)) ++ (bT ak ad q_1 a_3 ++ ([] : va_W))) := hD
  have hP : va_P D vwCl (([(h0, .inr (6, [.null, .null, .null, .null, .null, .null, .null, .null, .null, .null]))] ++ (([] : va_W) ++ bT ak ad q_1 a_3)) ++ ([] : va_W)) H := fb2 hP
  have hD : va_D A (([(h0, .inr (6, [.null, .null, .null, .null, .null, .null, .null, .null, .null, .null]))] ++ (([] : va_W) ++ bT ak ad q_1 a_3)) ++ ([] : va_W)) := fb2D hD
  obtain ⟨B1, eB1⟩ : ∃ Z : va_W, Z = ([] : va_W) ++ bT ak ad q_1 a_3 := ⟨_, rfl⟩
  rw [← eB1] at hP hD
  refine W.widen (k := 5) (n := 4009) (Nat.le_of_ble_eq_true rfl) (Nat.le_of_ble_eq_true rfl) ?_
  refine vt_putF (D := D) (ci := 6) (v := .ref q_1) (ty := .object "WornLines$Tape") (C := RX7) (T := TX7) (N := 10) hx hb hts (fun w h => wm_c (wc_X7 w h)) tyX7 tyX7_ok nmX7 hown hE.1 hP hD hS 0 rfl rfl 0 (by decide) tX7_0 (hts (.fieldLink RX7 10 "WornLines" "tape" "LWornLines$Tape;") (wm_c hw_547)) (fun _ h9 => h9) rfl hin rfl pf_8 rfl rfl (Nat.le_of_ble_eq_true rfl) dX7_init_12 (fun H locs hP hD hS => ?_)
  have hP : va_P D vwCl (([(h0, .inr (6, [.ref q_1, .null, .null, .null, .null, .null, .null, .null, .null, .null]))] ++ B1) ++ ([] : va_W)) H := hP
  have hD : va_D A (([(h0, .inr (6, [.ref q_1, .null, .null, .null, .null, .null, .null, .null, .null, .null]))] ++ B1) ++ ([] : va_W)) := hD
  refine lv_aload_n hx hb dX7_init_15 rfl (lv_at hl 0 rfl) ?_
  refine va_new (ci := 2) (fs := [.int (0), .null, .null, .int (0), .null, .int (0), .null, .null, .null, .int (0), .null, .null, .null, .null, .null, .null, .null]) (C := RX2) (T := TX2) (N := 17) hx hb hts (fun w h => wm_c (wc_X2 w h)) tyX2 tyX2_ok hown (hts (.classLink RX7 16 RX2) (wm_c hw_656)) (hts (.instantiable RX2 17) (wm_c hw_519)) (hts (.initialized RX2) (wm_c hw_318)) hE.1 hP hD hS hA rfl (by decide) (Nat.le_of_ble_eq_true rfl) (Nat.le_of_ble_eq_true rfl) dX7_init_16 (fun q_5 H hP hD hS => ?_)
  have hP : va_P D vwCl (([(h0, .inr (6, [.ref q_1, .null, .null, .null, .null, .null, .null, .null, .null, .null]))] ++ B1) ++ ([(q_5, .inr (2, [.int (0), .null, .null, .int (0), .null, .int (0), .null, .null, .null, .int (0), .null, .null, .null, .null, .null, .null, .null]))] ++ ([] : va_W))) H := fb1 hP
  have hD : va_D A (([(h0, .inr (6, [.ref q_1, .null, .null, .null, .null, .null, .null, .null, .null, .null]))] ++ B1) ++ ([(q_5, .inr (2, [.int (0), .null, .null, .int (0), .null, .int (0), .null, .null, .null, .int (0), .null, .null, .null, .null, .null, .null, .null]))] ++ ([] : va_W))) := fb1D hD
  refine W.widen (k := 6) (n := 4026) (Nat.le_of_ble_eq_true rfl) (Nat.le_of_ble_eq_true rfl) ?_
  refine lv_dup hx hb dX7_init_19 rfl ?_
  refine lc_v hP hD hS hA (va_runIN (As := []) (rest := [.ref q_5, .ref h0]) ⟨hx, hb, hml, hown, hts⟩ (c_X2_init l D ak ad _ (q_5) ) ⟨va_cnB 0 hts gX7_init_X2_init_n18 rfl rfl rfl (hE.2.2.2.1 _ (List.mem_of_getElem? (i := 1) rfl)) (hts (.initialized RX2) (wm_c hw_318)) (by decide +kernel) ⟨Nat.le_of_ble_eq_true rfl, Nat.le_of_ble_eq_true rfl⟩, rfl, (hts (.instanceMethod yX2_init) (wm_c hw_520))⟩ (lc_pre (As := [.ref q_5]) hE hT hP hD hS hA) rfl rfl hl.1 rfl (lv_room (Nat.le_of_ble_eq_true rfl)) dX7_init_20 ⟨Nat.le_of_ble_eq_true rfl, Nat.le_of_ble_eq_true rfl⟩) (fun a_7 H locs _ hP hD hS => ?_)
  have hP : va_P D vwCl (([(h0, .inr (6, [.ref q_1, .null, .null, .null, .null, .null, .null, .null, .null, .null]))] ++ B1) ++ (bE ak q_5 a_7 ++ ([] : va_W))) H := hP
  have hD : va_D A (([(h0, .inr (6, [.ref q_1, .null, .null, .null, .null, .null, .null, .null, .null, .null]))] ++ B1) ++ (bE ak q_5 a_7 ++ ([] : va_W))) := hD
  obtain ⟨E0, eE0⟩ : ∃ Z : va_W, Z = bE ak q_5 a_7 ++ ([] : va_W) := ⟨_, rfl⟩
  rw [← eE0] at hP hD
  refine W.widen (k := 19) (n := 4142) (Nat.le_of_ble_eq_true rfl) (Nat.le_of_ble_eq_true rfl) ?_
  refine vt_putF (D := D) (ci := 6) (v := .ref q_5) (ty := .object "WornLines$Programme") (C := RX7) (T := TX7) (N := 10) hx hb hts (fun w h => wm_c (wc_X7 w h)) tyX7 tyX7_ok nmX7 hown hE.1 hP hD hS 0 rfl rfl 1 (by decide) tX7_1 (hts (.fieldLink RX7 19 "WornLines" "empty" "LWornLines$Programme;") (wm_c hw_657)) (fun _ h9 => h9) rfl hin rfl pf_9 rfl rfl (Nat.le_of_ble_eq_true rfl) dX7_init_23 (fun H locs hP hD hS => ?_)
  have hP : va_P D vwCl (([(h0, .inr (6, [.ref q_1, .ref q_5, .null, .null, .null, .null, .null, .null, .null, .null]))] ++ B1) ++ E0) H := hP
  have hD : va_D A (([(h0, .inr (6, [.ref q_1, .ref q_5, .null, .null, .null, .null, .null, .null, .null, .null]))] ++ B1) ++ E0) := hD
  refine lv_aload_n hx hb dX7_init_26 rfl (lv_at hl 0 rfl) ?_
  refine va_new (ci := 3) (fs := [.null, .null, .null, .null, .int (0), .null, .int (0), .null, .int (0), .long (0), .int (0)]) (C := RX3) (T := TX3) (N := 11) hx hb hts (fun w h => wm_c (wc_X3 w h)) tyX3 tyX3_ok hown (hts (.classLink RX7 23 RX3) (wm_c hw_658)) (hts (.instantiable RX3 11) (wm_c hw_659)) (hts (.initialized RX3) (wm_c hw_440)) hE.1 hP hD hS hA rfl (by decide) (Nat.le_of_ble_eq_true rfl) (Nat.le_of_ble_eq_true rfl) dX7_init_27 (fun q_9 H hP hD hS => ?_)
  have hP : va_P D vwCl (([(h0, .inr (6, [.ref q_1, .ref q_5, .null, .null, .null, .null, .null, .null, .null, .null]))] ++ B1) ++ ([(q_9, .inr (3, [.null, .null, .null, .null, .int (0), .null, .int (0), .null, .int (0), .long (0), .int (0)]))] ++ E0)) H := fb1 hP
  have hD : va_D A (([(h0, .inr (6, [.ref q_1, .ref q_5, .null, .null, .null, .null, .null, .null, .null, .null]))] ++ B1) ++ ([(q_9, .inr (3, [.null, .null, .null, .null, .int (0), .null, .int (0), .null, .int (0), .long (0), .int (0)]))] ++ E0)) := fb1D hD
  refine W.widen (k := 20) (n := 4153) (Nat.le_of_ble_eq_true rfl) (Nat.le_of_ble_eq_true rfl) ?_
  refine lv_dup hx hb dX7_init_30 rfl ?_
  refine lv_aload_n hx hb dX7_init_31 rfl (lv_at hl 0 rfl) ?_
  refine vt_get (D := D) (ci := 6) (v := .ref q_1) (C := RX7) (T := TX7) (N := 10) hx hb hts (fun w h => wm_c (wc_X7 w h)) hown hE.1 hP 0 rfl rfl 0 (by decide) tX7_0 (hts (.fieldLink RX7 10 "WornLines" "tape" "LWornLines$Tape;") (wm_c hw_547)) (fun _ h9 => h9) rfl dX7_init_32 ?_
  refine lv_aload_n hx hb dX7_init_35 rfl (lv_at hl 0 rfl) ?_
  refine vt_get (D := D) (ci := 6) (v := .ref q_5) (C := RX7) (T := TX7) (N := 10) hx hb hts (fun w h => wm_c (wc_X7 w h)) hown hE.1 hP 0 rfl rfl 1 (by decide) tX7_1 (hts (.fieldLink RX7 19 "WornLines" "empty" "LWornLines$Programme;") (wm_c hw_657)) (fun _ h9 => h9) rfl dX7_init_36 ?_
  refine lc_v hP hD hS hA (va_runI (As := [.ref q_1, .ref q_5]) (rest := [.ref q_9, .ref h0]) ⟨hx, hb, hml, hown, hts⟩ (c_X3_init l D ak ad _ (q_9) (q_1) (q_5) ) (cwI 2 hts gX7_init_X3_init rfl rfl rfl (hts (.initialized RX3) (wm_c hw_440)) (hts (.methodLink RX7 25 yX3_init) (wm_c hw_660)) (hts (.instanceMethod yX3_init) (wm_c hw_661)) rfl hz_X3_init ⟨Nat.le_of_ble_eq_true rfl, Nat.le_of_ble_eq_true rfl⟩) (lc_pre (As := [.ref q_9, .ref q_1, .ref q_5]) hE hT hP hD hS hA) rfl rfl hl.1 rfl (lv_room (Nat.le_of_ble_eq_true rfl)) dX7_init_39 ⟨Nat.le_of_ble_eq_true rfl, Nat.le_of_ble_eq_true rfl⟩) (fun a_11 H locs _ hP hD hS => ?_)
  have hP : va_P D vwCl (([(h0, .inr (6, [.ref q_1, .ref q_5, .null, .null, .null, .null, .null, .null, .null, .null]))] ++ B1) ++ (bR ak ad q_9 q_1 q_5 a_11 ++ E0)) H := hP
  have hD : va_D A (([(h0, .inr (6, [.ref q_1, .ref q_5, .null, .null, .null, .null, .null, .null, .null, .null]))] ++ B1) ++ (bR ak ad q_9 q_1 q_5 a_11 ++ E0)) := hD
  have hP : va_P D vwCl (([(h0, .inr (6, [.ref q_1, .ref q_5, .null, .null, .null, .null, .null, .null, .null, .null]))] ++ (B1 ++ bR ak ad q_9 q_1 q_5 a_11)) ++ E0) H := fb2 hP
  have hD : va_D A (([(h0, .inr (6, [.ref q_1, .ref q_5, .null, .null, .null, .null, .null, .null, .null, .null]))] ++ (B1 ++ bR ak ad q_9 q_1 q_5 a_11)) ++ E0) := fb2D hD
  obtain ⟨B2, eB2⟩ : ∃ Z : va_W, Z = B1 ++ bR ak ad q_9 q_1 q_5 a_11 := ⟨_, rfl⟩
  rw [← eB2] at hP hD
  refine W.widen (k := 23) (n := 5163) (Nat.le_of_ble_eq_true rfl) (Nat.le_of_ble_eq_true rfl) ?_
  refine vt_putF (D := D) (ci := 6) (v := .ref q_9) (ty := .object "WornLines$Reader") (C := RX7) (T := TX7) (N := 10) hx hb hts (fun w h => wm_c (wc_X7 w h)) tyX7 tyX7_ok nmX7 hown hE.1 hP hD hS 0 rfl rfl 2 (by decide) tX7_2 (hts (.fieldLink RX7 28 "WornLines" "reader" "LWornLines$Reader;") (wm_c hw_538)) (fun _ h9 => h9) rfl hin rfl pf_12 rfl rfl (Nat.le_of_ble_eq_true rfl) dX7_init_42 (fun H locs hP hD hS => ?_)
  have hP : va_P D vwCl (([(h0, .inr (6, [.ref q_1, .ref q_5, .ref q_9, .null, .null, .null, .null, .null, .null, .null]))] ++ B2) ++ E0) H := hP
  have hD : va_D A (([(h0, .inr (6, [.ref q_1, .ref q_5, .ref q_9, .null, .null, .null, .null, .null, .null, .null]))] ++ B2) ++ E0) := hD
  refine lv_aload_n hx hb dX7_init_45 rfl (lv_at hl 0 rfl) ?_
  refine va_new (ci := 1) (fs := [.null, .null, .null, .null, .null, .null, .null, .int (0), .int (0), .int (0), .int (0), .int (0)]) (C := RX1) (T := TX1) (N := 12) hx hb hts (fun w h => wm_c (wc_X1 w h)) tyX1 tyX1_ok hown (hts (.classLink RX7 32 RX1) (wm_c hw_662)) (hts (.instantiable RX1 12) (wm_c hw_663)) (hts (.initialized RX1) (wm_c hw_331)) hE.1 hP hD hS hA rfl (by decide) (Nat.le_of_ble_eq_true rfl) (Nat.le_of_ble_eq_true rfl) dX7_init_46 (fun q_13 H hP hD hS => ?_)
  have hP : va_P D vwCl (([(h0, .inr (6, [.ref q_1, .ref q_5, .ref q_9, .null, .null, .null, .null, .null, .null, .null]))] ++ B2) ++ ([(q_13, .inr (1, [.null, .null, .null, .null, .null, .null, .null, .int (0), .int (0), .int (0), .int (0), .int (0)]))] ++ E0)) H := fb1 hP
  have hD : va_D A (([(h0, .inr (6, [.ref q_1, .ref q_5, .ref q_9, .null, .null, .null, .null, .null, .null, .null]))] ++ B2) ++ ([(q_13, .inr (1, [.null, .null, .null, .null, .null, .null, .null, .int (0), .int (0), .int (0), .int (0), .int (0)]))] ++ E0)) := fb1D hD
  refine W.widen (k := 24) (n := 5175) (Nat.le_of_ble_eq_true rfl) (Nat.le_of_ble_eq_true rfl) ?_
  refine lv_dup hx hb dX7_init_49 rfl ?_
  refine lv_aload_n hx hb dX7_init_50 rfl (lv_at hl 0 rfl) ?_
  refine vt_get (D := D) (ci := 6) (v := .ref q_5) (C := RX7) (T := TX7) (N := 10) hx hb hts (fun w h => wm_c (wc_X7 w h)) hown hE.1 hP 0 rfl rfl 1 (by decide) tX7_1 (hts (.fieldLink RX7 19 "WornLines" "empty" "LWornLines$Programme;") (wm_c hw_657)) (fun _ h9 => h9) rfl dX7_init_51 ?_
  refine lv_sipush (v := 200) hx hb dX7_init_54 (by decide) ?_
  refine lc_v hP hD hS hA (va_runI (As := [.ref q_5, .int (200)]) (rest := [.ref q_13, .ref h0]) ⟨hx, hb, hml, hown, hts⟩ (c_X1_init200 l D ak ad _ (q_13) (q_5) ) (cwI 2 hts gX7_init_X1_init rfl rfl rfl (hts (.initialized RX1) (wm_c hw_331)) (hts (.methodLink RX7 34 yX1_init) (wm_c hw_664)) (hts (.instanceMethod yX1_init) (wm_c hw_665)) rfl hz_X1_init ⟨Nat.le_of_ble_eq_true rfl, Nat.le_of_ble_eq_true rfl⟩) (lc_pre (As := [.ref q_13, .ref q_5, .int (200)]) hE hT hP hD hS hA) rfl rfl hl.1 rfl (lv_room (Nat.le_of_ble_eq_true rfl)) dX7_init_57 ⟨Nat.le_of_ble_eq_true rfl, Nat.le_of_ble_eq_true rfl⟩) (fun a_15 H locs _ hP hD hS => ?_)
  have hP : va_P D vwCl (([(h0, .inr (6, [.ref q_1, .ref q_5, .ref q_9, .null, .null, .null, .null, .null, .null, .null]))] ++ B2) ++ (bM ak 200 q_13 q_5 a_15 ++ E0)) H := hP
  have hD : va_D A (([(h0, .inr (6, [.ref q_1, .ref q_5, .ref q_9, .null, .null, .null, .null, .null, .null, .null]))] ++ B2) ++ (bM ak 200 q_13 q_5 a_15 ++ E0)) := hD
  have hP : va_P D vwCl (([(h0, .inr (6, [.ref q_1, .ref q_5, .ref q_9, .null, .null, .null, .null, .null, .null, .null]))] ++ (B2 ++ bM ak 200 q_13 q_5 a_15)) ++ E0) H := fb2 hP
  have hD : va_D A (([(h0, .inr (6, [.ref q_1, .ref q_5, .ref q_9, .null, .null, .null, .null, .null, .null, .null]))] ++ (B2 ++ bM ak 200 q_13 q_5 a_15)) ++ E0) := fb2D hD
  obtain ⟨B3, eB3⟩ : ∃ Z : va_W, Z = B2 ++ bM ak 200 q_13 q_5 a_15 := ⟨_, rfl⟩
  rw [← eB3] at hP hD
  refine W.widen (k := 30) (n := 5461) (Nat.le_of_ble_eq_true rfl) (Nat.le_of_ble_eq_true rfl) ?_
  refine vt_putF (D := D) (ci := 6) (v := .ref q_13) (ty := .object "WornLines$Machine") (C := RX7) (T := TX7) (N := 10) hx hb hts (fun w h => wm_c (wc_X7 w h)) tyX7 tyX7_ok nmX7 hown hE.1 hP hD hS 0 rfl rfl 3 (by decide) tX7_3 (hts (.fieldLink RX7 37 "WornLines" "hand" "LWornLines$Machine;") (wm_c hw_540)) (fun _ h9 => h9) rfl hin rfl pf_13 rfl rfl (Nat.le_of_ble_eq_true rfl) dX7_init_60 (fun H locs hP hD hS => ?_)
  have hP : va_P D vwCl (([(h0, .inr (6, [.ref q_1, .ref q_5, .ref q_9, .ref q_13, .null, .null, .null, .null, .null, .null]))] ++ B3) ++ E0) H := hP
  have hD : va_D A (([(h0, .inr (6, [.ref q_1, .ref q_5, .ref q_9, .ref q_13, .null, .null, .null, .null, .null, .null]))] ++ B3) ++ E0) := hD
  refine lv_aload_n hx hb dX7_init_63 rfl (lv_at hl 0 rfl) ?_
  refine va_new (ci := 1) (fs := [.null, .null, .null, .null, .null, .null, .null, .int (0), .int (0), .int (0), .int (0), .int (0)]) (C := RX1) (T := TX1) (N := 12) hx hb hts (fun w h => wm_c (wc_X1 w h)) tyX1 tyX1_ok hown (hts (.classLink RX7 32 RX1) (wm_c hw_662)) (hts (.instantiable RX1 12) (wm_c hw_663)) (hts (.initialized RX1) (wm_c hw_331)) hE.1 hP hD hS hA rfl (by decide) (Nat.le_of_ble_eq_true rfl) (Nat.le_of_ble_eq_true rfl) dX7_init_64 (fun q_17 H hP hD hS => ?_)
  have hP : va_P D vwCl (([(h0, .inr (6, [.ref q_1, .ref q_5, .ref q_9, .ref q_13, .null, .null, .null, .null, .null, .null]))] ++ B3) ++ ([(q_17, .inr (1, [.null, .null, .null, .null, .null, .null, .null, .int (0), .int (0), .int (0), .int (0), .int (0)]))] ++ E0)) H := fb1 hP
  have hD : va_D A (([(h0, .inr (6, [.ref q_1, .ref q_5, .ref q_9, .ref q_13, .null, .null, .null, .null, .null, .null]))] ++ B3) ++ ([(q_17, .inr (1, [.null, .null, .null, .null, .null, .null, .null, .int (0), .int (0), .int (0), .int (0), .int (0)]))] ++ E0)) := fb1D hD
  refine W.widen (k := 31) (n := 5473) (Nat.le_of_ble_eq_true rfl) (Nat.le_of_ble_eq_true rfl) ?_
  refine lv_dup hx hb dX7_init_67 rfl ?_
  refine lv_aload_n hx hb dX7_init_68 rfl (lv_at hl 0 rfl) ?_
  refine vt_get (D := D) (ci := 6) (v := .ref q_5) (C := RX7) (T := TX7) (N := 10) hx hb hts (fun w h => wm_c (wc_X7 w h)) hown hE.1 hP 0 rfl rfl 1 (by decide) tX7_1 (hts (.fieldLink RX7 19 "WornLines" "empty" "LWornLines$Programme;") (wm_c hw_657)) (fun _ h9 => h9) rfl dX7_init_69 ?_
  refine lv_sipush (v := 1000) hx hb dX7_init_72 (by decide) ?_
  refine lc_v hP hD hS hA (va_runI (As := [.ref q_5, .int (1000)]) (rest := [.ref q_17, .ref h0]) ⟨hx, hb, hml, hown, hts⟩ (c_X1_init1000 l D ak ad _ (q_17) (q_5) ) (cwI 2 hts gX7_init_X1_init rfl rfl rfl (hts (.initialized RX1) (wm_c hw_331)) (hts (.methodLink RX7 34 yX1_init) (wm_c hw_664)) (hts (.instanceMethod yX1_init) (wm_c hw_665)) rfl hz_X1_init ⟨Nat.le_of_ble_eq_true rfl, Nat.le_of_ble_eq_true rfl⟩) (lc_pre (As := [.ref q_17, .ref q_5, .int (1000)]) hE hT hP hD hS hA) rfl rfl hl.1 rfl (lv_room (Nat.le_of_ble_eq_true rfl)) dX7_init_75 ⟨Nat.le_of_ble_eq_true rfl, Nat.le_of_ble_eq_true rfl⟩) (fun a_19 H locs _ hP hD hS => ?_)
  have hP : va_P D vwCl (([(h0, .inr (6, [.ref q_1, .ref q_5, .ref q_9, .ref q_13, .null, .null, .null, .null, .null, .null]))] ++ B3) ++ (bM ak 1000 q_17 q_5 a_19 ++ E0)) H := hP
  have hD : va_D A (([(h0, .inr (6, [.ref q_1, .ref q_5, .ref q_9, .ref q_13, .null, .null, .null, .null, .null, .null]))] ++ B3) ++ (bM ak 1000 q_17 q_5 a_19 ++ E0)) := hD
  have hP : va_P D vwCl (([(h0, .inr (6, [.ref q_1, .ref q_5, .ref q_9, .ref q_13, .null, .null, .null, .null, .null, .null]))] ++ (B3 ++ bM ak 1000 q_17 q_5 a_19)) ++ E0) H := fb2 hP
  have hD : va_D A (([(h0, .inr (6, [.ref q_1, .ref q_5, .ref q_9, .ref q_13, .null, .null, .null, .null, .null, .null]))] ++ (B3 ++ bM ak 1000 q_17 q_5 a_19)) ++ E0) := fb2D hD
  obtain ⟨B4, eB4⟩ : ∃ Z : va_W, Z = B3 ++ bM ak 1000 q_17 q_5 a_19 := ⟨_, rfl⟩
  rw [← eB4] at hP hD
  refine W.widen (k := 37) (n := 6559) (Nat.le_of_ble_eq_true rfl) (Nat.le_of_ble_eq_true rfl) ?_
  refine vt_putF (D := D) (ci := 6) (v := .ref q_17) (ty := .object "WornLines$Machine") (C := RX7) (T := TX7) (N := 10) hx hb hts (fun w h => wm_c (wc_X7 w h)) tyX7 tyX7_ok nmX7 hown hE.1 hP hD hS 0 rfl rfl 4 (by decide) tX7_4 (hts (.fieldLink RX7 41 "WornLines" "walker" "LWornLines$Machine;") (wm_c hw_579)) (fun _ h9 => h9) rfl hin rfl pf_13 rfl rfl (Nat.le_of_ble_eq_true rfl) dX7_init_78 (fun H locs hP hD hS => ?_)
  have hP : va_P D vwCl (([(h0, .inr (6, [.ref q_1, .ref q_5, .ref q_9, .ref q_13, .ref q_17, .null, .null, .null, .null, .null]))] ++ B4) ++ E0) H := hP
  have hD : va_D A (([(h0, .inr (6, [.ref q_1, .ref q_5, .ref q_9, .ref q_13, .ref q_17, .null, .null, .null, .null, .null]))] ++ B4) ++ E0) := hD
  refine lv_aload_n hx hb dX7_init_81 rfl (lv_at hl 0 rfl) ?_
  refine va_new (ci := 1) (fs := [.null, .null, .null, .null, .null, .null, .null, .int (0), .int (0), .int (0), .int (0), .int (0)]) (C := RX1) (T := TX1) (N := 12) hx hb hts (fun w h => wm_c (wc_X1 w h)) tyX1 tyX1_ok hown (hts (.classLink RX7 32 RX1) (wm_c hw_662)) (hts (.instantiable RX1 12) (wm_c hw_663)) (hts (.initialized RX1) (wm_c hw_331)) hE.1 hP hD hS hA rfl (by decide) (Nat.le_of_ble_eq_true rfl) (Nat.le_of_ble_eq_true rfl) dX7_init_82 (fun q_21 H hP hD hS => ?_)
  have hP : va_P D vwCl (([(h0, .inr (6, [.ref q_1, .ref q_5, .ref q_9, .ref q_13, .ref q_17, .null, .null, .null, .null, .null]))] ++ B4) ++ ([(q_21, .inr (1, [.null, .null, .null, .null, .null, .null, .null, .int (0), .int (0), .int (0), .int (0), .int (0)]))] ++ E0)) H := fb1 hP
  have hD : va_D A (([(h0, .inr (6, [.ref q_1, .ref q_5, .ref q_9, .ref q_13, .ref q_17, .null, .null, .null, .null, .null]))] ++ B4) ++ ([(q_21, .inr (1, [.null, .null, .null, .null, .null, .null, .null, .int (0), .int (0), .int (0), .int (0), .int (0)]))] ++ E0)) := fb1D hD
  refine W.widen (k := 38) (n := 6571) (Nat.le_of_ble_eq_true rfl) (Nat.le_of_ble_eq_true rfl) ?_
  refine lv_dup hx hb dX7_init_85 rfl ?_
  refine lv_aload_n hx hb dX7_init_86 rfl (lv_at hl 0 rfl) ?_
  refine vt_get (D := D) (ci := 6) (v := .ref q_5) (C := RX7) (T := TX7) (N := 10) hx hb hts (fun w h => wm_c (wc_X7 w h)) hown hE.1 hP 0 rfl rfl 1 (by decide) tX7_1 (hts (.fieldLink RX7 19 "WornLines" "empty" "LWornLines$Programme;") (wm_c hw_657)) (fun _ h9 => h9) rfl dX7_init_87 ?_
  refine lv_sipush (v := 1000) hx hb dX7_init_90 (by decide) ?_
  refine lc_v hP hD hS hA (va_runI (As := [.ref q_5, .int (1000)]) (rest := [.ref q_21, .ref h0]) ⟨hx, hb, hml, hown, hts⟩ (c_X1_init1000 l D ak ad _ (q_21) (q_5) ) (cwI 2 hts gX7_init_X1_init rfl rfl rfl (hts (.initialized RX1) (wm_c hw_331)) (hts (.methodLink RX7 34 yX1_init) (wm_c hw_664)) (hts (.instanceMethod yX1_init) (wm_c hw_665)) rfl hz_X1_init ⟨Nat.le_of_ble_eq_true rfl, Nat.le_of_ble_eq_true rfl⟩) (lc_pre (As := [.ref q_21, .ref q_5, .int (1000)]) hE hT hP hD hS hA) rfl rfl hl.1 rfl (lv_room (Nat.le_of_ble_eq_true rfl)) dX7_init_93 ⟨Nat.le_of_ble_eq_true rfl, Nat.le_of_ble_eq_true rfl⟩) (fun a_23 H locs _ hP hD hS => ?_)
  have hP : va_P D vwCl (([(h0, .inr (6, [.ref q_1, .ref q_5, .ref q_9, .ref q_13, .ref q_17, .null, .null, .null, .null, .null]))] ++ B4) ++ (bM ak 1000 q_21 q_5 a_23 ++ E0)) H := hP
  have hD : va_D A (([(h0, .inr (6, [.ref q_1, .ref q_5, .ref q_9, .ref q_13, .ref q_17, .null, .null, .null, .null, .null]))] ++ B4) ++ (bM ak 1000 q_21 q_5 a_23 ++ E0)) := hD
  have hP : va_P D vwCl (([(h0, .inr (6, [.ref q_1, .ref q_5, .ref q_9, .ref q_13, .ref q_17, .null, .null, .null, .null, .null]))] ++ (B4 ++ bM ak 1000 q_21 q_5 a_23)) ++ E0) H := fb2 hP
  have hD : va_D A (([(h0, .inr (6, [.ref q_1, .ref q_5, .ref q_9, .ref q_13, .ref q_17, .null, .null, .null, .null, .null]))] ++ (B4 ++ bM ak 1000 q_21 q_5 a_23)) ++ E0) := fb2D hD
  obtain ⟨B5, eB5⟩ : ∃ Z : va_W, Z = B4 ++ bM ak 1000 q_21 q_5 a_23 := ⟨_, rfl⟩
  rw [← eB5] at hP hD
  refine W.widen (k := 44) (n := 7657) (Nat.le_of_ble_eq_true rfl) (Nat.le_of_ble_eq_true rfl) ?_
  refine vt_putF (D := D) (ci := 6) (v := .ref q_21) (ty := .object "WornLines$Machine") (C := RX7) (T := TX7) (N := 10) hx hb hts (fun w h => wm_c (wc_X7 w h)) tyX7 tyX7_ok nmX7 hown hE.1 hP hD hS 0 rfl rfl 5 (by decide) tX7_5 (hts (.fieldLink RX7 44 "WornLines" "fellow" "LWornLines$Machine;") (wm_c hw_591)) (fun _ h9 => h9) rfl hin rfl pf_13 rfl rfl (Nat.le_of_ble_eq_true rfl) dX7_init_96 (fun H locs hP hD hS => ?_)
  have hP : va_P D vwCl (([(h0, .inr (6, [.ref q_1, .ref q_5, .ref q_9, .ref q_13, .ref q_17, .ref q_21, .null, .null, .null, .null]))] ++ B5) ++ E0) H := hP
  have hD : va_D A (([(h0, .inr (6, [.ref q_1, .ref q_5, .ref q_9, .ref q_13, .ref q_17, .ref q_21, .null, .null, .null, .null]))] ++ B5) ++ E0) := hD
  refine lv_aload_n hx hb dX7_init_99 rfl (lv_at hl 0 rfl) ?_
  refine lv_iconst (v := 4) hx hb dX7_init_100 (by decide) ?_
  refine kn_q (C := RX1) (N' := 4) hx hb hown (hts (.classLink RX7 32 RX1) (wm_c hw_662)) hE.2.2.1 hE 5 rfl hP hD hS hA (by decide) rfl (Nat.le_of_ble_eq_true rfl) (Nat.le_of_ble_eq_true rfl) (Nat.le_of_ble_eq_true rfl) dX7_init_101 (fun q_25 H hP hD hS => ?_)
  obtain ⟨BF, eBF⟩ : ∃ Z : va_W, Z = B5 := ⟨_, rfl⟩
  rw [← eBF] at hP hD
  have hP : va_P D vwCl (([(h0, .inr (6, [.ref q_1, .ref q_5, .ref q_9, .ref q_13, .ref q_17, .ref q_21, .null, .null, .null, .null])), (q_25, .inl (ak 5, 4, .inr (.inr (.inr (.inr (fun _ => none))))))] ++ BF) ++ E0) H := fb3 hP
  have hD : va_D A (([(h0, .inr (6, [.ref q_1, .ref q_5, .ref q_9, .ref q_13, .ref q_17, .ref q_21, .null, .null, .null, .null])), (q_25, .inl (ak 5, 4, .inr (.inr (.inr (.inr (fun _ => none))))))] ++ BF) ++ E0) := fb3D hD
  rw [← List.append_nil (([(h0, .inr (6, [.ref q_1, .ref q_5, .ref q_9, .ref q_13, .ref q_17, .ref q_21, .null, .null, .null, .null])), (q_25, .inl (ak 5, 4, .inr (.inr (.inr (.inr (fun _ => none))))))] : va_W) ++ BF)] at hP hD
  have hP : va_P D vwCl ((([(h0, .inr (6, [.ref q_1, .ref q_5, .ref q_9, .ref q_13, .ref q_17, .ref q_21, .null, .null, .null, .null])), (q_25, .inl (ak 5, 4, .inr (.inr (.inr (.inr (fun _ => none))))))] ++ BF) ++ ([] : va_W)) ++ E0) H := hP
  have hD : va_D A ((([(h0, .inr (6, [.ref q_1, .ref q_5, .ref q_9, .ref q_13, .ref q_17, .ref q_21, .null, .null, .null, .null])), (q_25, .inl (ak 5, 4, .inr (.inr (.inr (.inr (fun _ => none))))))] ++ BF) ++ ([] : va_W)) ++ E0) := hD
  refine W.widen (k := 45) (n := 7661) (Nat.le_of_ble_eq_true rfl) (Nat.le_of_ble_eq_true rfl) ?_
  refine vt_putF (D := D) (ci := 6) (v := .ref q_25) (ty := .array (.object "WornLines$Machine")) (C := RX7) (T := TX7) (N := 10) hx hb hts (fun w h => wm_c (wc_X7 w h)) tyX7 tyX7_ok nmX7 hown hE.1 hP hD hS 0 rfl rfl 6 (by decide) tX7_6 (hts (.fieldLink RX7 47 "WornLines" "marks" "[LWornLines$Machine;") (wm_c hw_601)) (fun _ h9 => h9) rfl hin rfl pf_14 rfl rfl (Nat.le_of_ble_eq_true rfl) dX7_init_104 (fun H locs hP hD hS => ?_)
  have hP : va_P D vwCl ((([(h0, .inr (6, [.ref q_1, .ref q_5, .ref q_9, .ref q_13, .ref q_17, .ref q_21, .ref q_25, .null, .null, .null])), (q_25, .inl (ak 5, 4, .inr (.inr (.inr (.inr (fun _ => none))))))] ++ BF) ++ ([] : va_W)) ++ E0) H := hP
  have hD : va_D A ((([(h0, .inr (6, [.ref q_1, .ref q_5, .ref q_9, .ref q_13, .ref q_17, .ref q_21, .ref q_25, .null, .null, .null])), (q_25, .inl (ak 5, 4, .inr (.inr (.inr (.inr (fun _ => none))))))] ++ BF) ++ ([] : va_W)) ++ E0) := hD
  refine lv_aload_n hx hb dX7_init_107 rfl (lv_at hl 0 rfl) ?_
  refine lv_iconst (v := 4) hx hb dX7_init_108 (by decide) ?_
  refine kn_a (atype := .boolean) (ty := .boolean) (a0 := (4, .inl (fun _ => 0))) (N' := 4) hx hb (hts (.arrayClass .boolean) (wm_c hw_651)) hE 3 rfl rfl (fun _ h => h) hP hD hS hA (fun cA => vp_cell_i cA 4 (fun _ => 0)) (by decide) (rfl) (by decide +kernel) (Nat.le_of_ble_eq_true rfl) (Nat.le_of_ble_eq_true rfl) dX7_init_109 (fun q_26 H hP hD hS => ?_)
  have hP : va_P D vwCl ((([(h0, .inr (6, [.ref q_1, .ref q_5, .ref q_9, .ref q_13, .ref q_17, .ref q_21, .ref q_25, .null, .null, .null])), (q_25, .inl (ak 5, 4, .inr (.inr (.inr (.inr (fun _ => none))))))] ++ BF) ++ ([] : va_W)) ++ ([(q_26, .inl (ak 3, 4, .inl (fun _ => 0)))] ++ E0)) H := fb1 hP
  have hD : va_D A ((([(h0, .inr (6, [.ref q_1, .ref q_5, .ref q_9, .ref q_13, .ref q_17, .ref q_21, .ref q_25, .null, .null, .null])), (q_25, .inl (ak 5, 4, .inr (.inr (.inr (.inr (fun _ => none))))))] ++ BF) ++ ([] : va_W)) ++ ([(q_26, .inl (ak 3, 4, .inl (fun _ => 0)))] ++ E0)) := fb1D hD
  have hP : va_P D vwCl ((([(h0, .inr (6, [.ref q_1, .ref q_5, .ref q_9, .ref q_13, .ref q_17, .ref q_21, .ref q_25, .null, .null, .null])), (q_25, .inl (ak 5, 4, .inr (.inr (.inr (.inr (fun _ => none))))))] ++ BF) ++ (([] : va_W) ++ [(q_26, .inl (ak 3, 4, .inl (fun _ => 0)))])) ++ E0) H := fb2 hP
  have hD : va_D A ((([(h0, .inr (6, [.ref q_1, .ref q_5, .ref q_9, .ref q_13, .ref q_17, .ref q_21, .ref q_25, .null, .null, .null])), (q_25, .inl (ak 5, 4, .inr (.inr (.inr (.inr (fun _ => none))))))] ++ BF) ++ (([] : va_W) ++ [(q_26, .inl (ak 3, 4, .inl (fun _ => 0)))])) ++ E0) := fb2D hD
  obtain ⟨B6, eB6⟩ : ∃ Z : va_W, Z = ([] : va_W) ++ [(q_26, .inl (ak 3, 4, .inl (fun _ => 0)))] := ⟨_, rfl⟩
  rw [← eB6] at hP hD
  refine W.widen (k := 46) (n := 7665) (Nat.le_of_ble_eq_true rfl) (Nat.le_of_ble_eq_true rfl) ?_
  refine vt_putF (D := D) (ci := 6) (v := .ref q_26) (ty := .array .boolean) (C := RX7) (T := TX7) (N := 10) hx hb hts (fun w h => wm_c (wc_X7 w h)) tyX7 tyX7_ok nmX7 hown hE.1 hP hD hS 0 rfl rfl 7 (by decide) tX7_7 (hts (.fieldLink RX7 51 "WornLines" "marked" "[Z") (wm_c hw_602)) (fun _ h9 => h9) rfl hin rfl pf_11 rfl rfl (Nat.le_of_ble_eq_true rfl) dX7_init_111 (fun H locs hP hD hS => ?_)
  have hP : va_P D vwCl ((([(h0, .inr (6, [.ref q_1, .ref q_5, .ref q_9, .ref q_13, .ref q_17, .ref q_21, .ref q_25, .ref q_26, .null, .null])), (q_25, .inl (ak 5, 4, .inr (.inr (.inr (.inr (fun _ => none))))))] ++ BF) ++ B6) ++ E0) H := hP
  have hD : va_D A ((([(h0, .inr (6, [.ref q_1, .ref q_5, .ref q_9, .ref q_13, .ref q_17, .ref q_21, .ref q_25, .ref q_26, .null, .null])), (q_25, .inl (ak 5, 4, .inr (.inr (.inr (.inr (fun _ => none))))))] ++ BF) ++ B6) ++ E0) := hD
  refine lv_aload_n hx hb dX7_init_114 rfl (lv_at hl 0 rfl) ?_
  refine va_new (ci := 4) (fs := [.null, .int (0), .null, .null, .null, .null]) (C := RX4) (T := TX4) (N := 6) hx hb hts (fun w h => wm_c (wc_X4 w h)) tyX4 tyX4_ok hown (hts (.classLink RX7 55 RX4) (wm_c hw_666)) (hts (.instantiable RX4 6) (wm_c hw_667)) (hts (.initialized RX4) (wm_c hw_632)) hE.1 hP hD hS hA rfl (by decide) (Nat.le_of_ble_eq_true rfl) (Nat.le_of_ble_eq_true rfl) dX7_init_115 (fun q_27 H hP hD hS => ?_)
  have hP : va_P D vwCl ((([(h0, .inr (6, [.ref q_1, .ref q_5, .ref q_9, .ref q_13, .ref q_17, .ref q_21, .ref q_25, .ref q_26, .null, .null])), (q_25, .inl (ak 5, 4, .inr (.inr (.inr (.inr (fun _ => none))))))] ++ BF) ++ B6) ++ ([(q_27, .inr (4, [.null, .int (0), .null, .null, .null, .null]))] ++ E0)) H := fb1 hP
  have hD : va_D A ((([(h0, .inr (6, [.ref q_1, .ref q_5, .ref q_9, .ref q_13, .ref q_17, .ref q_21, .ref q_25, .ref q_26, .null, .null])), (q_25, .inl (ak 5, 4, .inr (.inr (.inr (.inr (fun _ => none))))))] ++ BF) ++ B6) ++ ([(q_27, .inr (4, [.null, .int (0), .null, .null, .null, .null]))] ++ E0)) := fb1D hD
  refine W.widen (k := 47) (n := 7671) (Nat.le_of_ble_eq_true rfl) (Nat.le_of_ble_eq_true rfl) ?_
  refine lv_dup hx hb dX7_init_118 rfl ?_
  refine lc_v hP hD hS hA (va_runIN (As := []) (rest := [.ref q_27, .ref h0]) ⟨hx, hb, hml, hown, hts⟩ (c_X4_init l D ak ad _ (q_27) ) ⟨va_cnB 0 hts gX7_init_X4_init_n57 rfl rfl rfl (hE.2.2.2.1 _ (List.mem_of_getElem? (i := 2) rfl)) (hts (.initialized RX4) (wm_c hw_632)) (by decide +kernel) ⟨Nat.le_of_ble_eq_true rfl, Nat.le_of_ble_eq_true rfl⟩, rfl, (hts (.instanceMethod yX4_init) (wm_c hw_668))⟩ (lc_pre (As := [.ref q_27]) hE hT hP hD hS hA) rfl rfl hl.1 rfl (lv_room (Nat.le_of_ble_eq_true rfl)) dX7_init_119 ⟨Nat.le_of_ble_eq_true rfl, Nat.le_of_ble_eq_true rfl⟩) (fun a_29 H locs _ hP hD hS => ?_)
  have hP : va_P D vwCl ((([(h0, .inr (6, [.ref q_1, .ref q_5, .ref q_9, .ref q_13, .ref q_17, .ref q_21, .ref q_25, .ref q_26, .null, .null])), (q_25, .inl (ak 5, 4, .inr (.inr (.inr (.inr (fun _ => none))))))] ++ BF) ++ B6) ++ (bS ak q_27 a_29 ++ E0)) H := hP
  have hD : va_D A ((([(h0, .inr (6, [.ref q_1, .ref q_5, .ref q_9, .ref q_13, .ref q_17, .ref q_21, .ref q_25, .ref q_26, .null, .null])), (q_25, .inl (ak 5, 4, .inr (.inr (.inr (.inr (fun _ => none))))))] ++ BF) ++ B6) ++ (bS ak q_27 a_29 ++ E0)) := hD
  obtain ⟨SV, eSV⟩ : ∃ Z : va_W, Z = bS ak q_27 a_29 := ⟨_, rfl⟩
  rw [← eSV] at hP hD
  refine W.widen (k := 51) (n := 7735) (Nat.le_of_ble_eq_true rfl) (Nat.le_of_ble_eq_true rfl) ?_
  refine vt_putF (D := D) (ci := 6) (v := .ref q_27) (ty := .object "WornLines$Survey") (C := RX7) (T := TX7) (N := 10) hx hb hts (fun w h => wm_c (wc_X7 w h)) tyX7 tyX7_ok nmX7 hown hE.1 hP hD hS 0 rfl rfl 8 (by decide) tX7_8 (hts (.fieldLink RX7 58 "WornLines" "survey" "LWornLines$Survey;") (wm_c hw_620)) (fun _ h9 => h9) rfl hin rfl pf_15 rfl rfl (Nat.le_of_ble_eq_true rfl) dX7_init_122 (fun H locs hP hD hS => ?_)
  have hP : va_P D vwCl ((([(h0, .inr (6, [.ref q_1, .ref q_5, .ref q_9, .ref q_13, .ref q_17, .ref q_21, .ref q_25, .ref q_26, .ref q_27, .null])), (q_25, .inl (ak 5, 4, .inr (.inr (.inr (.inr (fun _ => none))))))] ++ BF) ++ B6) ++ (SV ++ E0)) H := hP
  have hD : va_D A ((([(h0, .inr (6, [.ref q_1, .ref q_5, .ref q_9, .ref q_13, .ref q_17, .ref q_21, .ref q_25, .ref q_26, .ref q_27, .null])), (q_25, .inl (ak 5, 4, .inr (.inr (.inr (.inr (fun _ => none))))))] ++ BF) ++ B6) ++ (SV ++ E0)) := hD
  refine lv_aload_n hx hb dX7_init_125 rfl (lv_at hl 0 rfl) ?_
  refine va_new (ci := 0) (fs := [.null, .null, .null, .int (0), .int (0)]) (C := RX0) (T := TX0) (N := 5) hx hb hts (fun w h => wm_c (wc_X0 w h)) tyX0 tyX0_ok hown (hts (.classLink RX7 62 RX0) (wm_c hw_669)) (hts (.instantiable RX0 5) (wm_c hw_670)) (hts (.initialized RX0) (wm_c hw_615)) hE.1 hP hD hS hA rfl (by decide) (Nat.le_of_ble_eq_true rfl) (Nat.le_of_ble_eq_true rfl) dX7_init_126 (fun q_31 H hP hD hS => ?_)
  have hP : va_P D vwCl (((([(h0, .inr (6, [.ref q_1, .ref q_5, .ref q_9, .ref q_13, .ref q_17, .ref q_21, .ref q_25, .ref q_26, .ref q_27, .null])), (q_25, .inl (ak 5, 4, .inr (.inr (.inr (.inr (fun _ => none))))))] ++ BF) ++ B6) ++ SV) ++ ([(q_31, .inr (0, [.null, .null, .null, .int (0), .int (0)]))] ++ E0)) H := fb4 hP
  have hD : va_D A (((([(h0, .inr (6, [.ref q_1, .ref q_5, .ref q_9, .ref q_13, .ref q_17, .ref q_21, .ref q_25, .ref q_26, .ref q_27, .null])), (q_25, .inl (ak 5, 4, .inr (.inr (.inr (.inr (fun _ => none))))))] ++ BF) ++ B6) ++ SV) ++ ([(q_31, .inr (0, [.null, .null, .null, .int (0), .int (0)]))] ++ E0)) := fb4D hD
  refine W.widen (k := 52) (n := 7740) (Nat.le_of_ble_eq_true rfl) (Nat.le_of_ble_eq_true rfl) ?_
  refine lv_dup hx hb dX7_init_129 rfl ?_
  refine lv_aload_n hx hb dX7_init_130 rfl (lv_at hl 0 rfl) ?_
  refine vt_get (D := D) (ci := 6) (v := .ref q_5) (C := RX7) (T := TX7) (N := 10) hx hb hts (fun w h => wm_c (wc_X7 w h)) hown hE.1 hP 0 rfl rfl 1 (by decide) tX7_1 (hts (.fieldLink RX7 19 "WornLines" "empty" "LWornLines$Programme;") (wm_c hw_657)) (fun _ h9 => h9) rfl dX7_init_131 ?_
  refine lc_v hP hD hS hA (va_runI (As := [.ref q_5]) (rest := [.ref q_31, .ref h0]) ⟨hx, hb, hml, hown, hts⟩ (c_X0_init2 l D ak ad _ (q_31) (q_5) ) (cwI 1 hts gX7_init_X0_init rfl rfl rfl (hts (.initialized RX0) (wm_c hw_615)) (hts (.methodLink RX7 64 yX0_init) (wm_c hw_671)) (hts (.instanceMethod yX0_init) (wm_c hw_672)) rfl hz_X0_init ⟨Nat.le_of_ble_eq_true rfl, Nat.le_of_ble_eq_true rfl⟩) (lc_pre (As := [.ref q_31, .ref q_5]) hE hT hP hD hS hA) rfl rfl hl.1 rfl (lv_room (Nat.le_of_ble_eq_true rfl)) dX7_init_134 ⟨Nat.le_of_ble_eq_true rfl, Nat.le_of_ble_eq_true rfl⟩) (fun a_33 H locs _ hP hD hS => ?_)
  have hP : va_P D vwCl (((([(h0, .inr (6, [.ref q_1, .ref q_5, .ref q_9, .ref q_13, .ref q_17, .ref q_21, .ref q_25, .ref q_26, .ref q_27, .null])), (q_25, .inl (ak 5, 4, .inr (.inr (.inr (.inr (fun _ => none))))))] ++ BF) ++ B6) ++ SV) ++ (LB ak q_31 q_5 a_33 ++ E0)) H := hP
  have hD : va_D A (((([(h0, .inr (6, [.ref q_1, .ref q_5, .ref q_9, .ref q_13, .ref q_17, .ref q_21, .ref q_25, .ref q_26, .ref q_27, .null])), (q_25, .inl (ak 5, 4, .inr (.inr (.inr (.inr (fun _ => none))))))] ++ BF) ++ B6) ++ SV) ++ (LB ak q_31 q_5 a_33 ++ E0)) := hD
  obtain ⟨E2, eE2⟩ : ∃ Z : va_W, Z = SV ++ (LB ak q_31 q_5 a_33 ++ E0) := ⟨_, rfl⟩
  have hP : va_P D vwCl ((([(h0, .inr (6, [.ref q_1, .ref q_5, .ref q_9, .ref q_13, .ref q_17, .ref q_21, .ref q_25, .ref q_26, .ref q_27, .null])), (q_25, .inl (ak 5, 4, .inr (.inr (.inr (.inr (fun _ => none))))))] ++ BF) ++ B6) ++ (SV ++ (LB ak q_31 q_5 a_33 ++ E0))) H := fb5 hP
  have hD : va_D A ((([(h0, .inr (6, [.ref q_1, .ref q_5, .ref q_9, .ref q_13, .ref q_17, .ref q_21, .ref q_25, .ref q_26, .ref q_27, .null])), (q_25, .inl (ak 5, 4, .inr (.inr (.inr (.inr (fun _ => none))))))] ++ BF) ++ B6) ++ (SV ++ (LB ak q_31 q_5 a_33 ++ E0))) := fb5D hD
  rw [← eE2] at hP hD
  refine W.widen (k := 71) (n := 8878) (Nat.le_of_ble_eq_true rfl) (Nat.le_of_ble_eq_true rfl) ?_
  refine va_putF (D := D) (ci := 6) (v := .ref q_31) (ty := .object "WornLines$Layout") (C := RX7) (T := TX7) (N := 10) hx hb hts (fun w h => wm_c (wc_X7 w h)) tyX7 tyX7_ok nmX7 hown hE.1 hP hD hS 0 rfl rfl 9 (by decide) (hts (.fieldLink RX7 67 "WornLines" "layout" "LWornLines$Layout;") (wm_c hw_619)) (fun _ h9 => h9) rfl hin rfl pf_16 rfl rfl (Nat.le_of_ble_eq_true rfl) dX7_init_137 (fun H locs hP hD hS => ?_)
  have hP : va_P D vwCl ((([(h0, .inr (6, [.ref q_1, .ref q_5, .ref q_9, .ref q_13, .ref q_17, .ref q_21, .ref q_25, .ref q_26, .ref q_27, .ref q_31])), (q_25, .inl (ak 5, 4, .inr (.inr (.inr (.inr (fun _ => none))))))] ++ BF) ++ B6) ++ E2) H := hP
  have hD : va_D A ((([(h0, .inr (6, [.ref q_1, .ref q_5, .ref q_9, .ref q_13, .ref q_17, .ref q_21, .ref q_25, .ref q_26, .ref q_27, .ref q_31])), (q_25, .inl (ak 5, 4, .inr (.inr (.inr (.inr (fun _ => none))))))] ++ BF) ++ B6) ++ E2) := hD
  refine lv_iconst (v := 0) hx hb dX7_init_140 (by decide) ?_
  refine lv_istore_n (lv' := [(1, .int (0)), (0, .ref h0)]) hx hb dX7_init_141 rfl hl (by decide) rfl (fun ls hl => ?_)
  refine lv_iload_n hx hb dX7_init_142 rfl (lv_at hl 0 rfl) ?_
  refine lv_iconst (v := 4) hx hb dX7_init_143 (by decide) ?_
  refine lv_icmp_ge (tgt := 173) hx hb dX7_init_144 (by decide) (fun c_144 => ?_) (fun c_144 => ?_)
  · exact absurd c_144 (by decide)
  · refine lv_aload_n hx hb dX7_init_147 rfl (lv_at hl 1 rfl) ?_
    refine vt_get (D := D) (ci := 6) (v := .ref q_25) (C := RX7) (T := TX7) (N := 10) hx hb hts (fun w h => wm_c (wc_X7 w h)) hown hE.1 hP 0 rfl rfl 6 (by decide) tX7_6 (hts (.fieldLink RX7 47 "WornLines" "marks" "[LWornLines$Machine;") (wm_c hw_601)) (fun _ h9 => h9) rfl dX7_init_148 ?_
    refine lv_iload_n hx hb dX7_init_151 rfl (lv_at hl 0 rfl) ?_
    refine va_new (ci := 1) (fs := [.null, .null, .null, .null, .null, .null, .null, .int (0), .int (0), .int (0), .int (0), .int (0)]) (C := RX1) (T := TX1) (N := 12) hx hb hts (fun w h => wm_c (wc_X1 w h)) tyX1 tyX1_ok hown (hts (.classLink RX7 32 RX1) (wm_c hw_662)) (hts (.instantiable RX1 12) (wm_c hw_663)) (hts (.initialized RX1) (wm_c hw_331)) hE.1 hP hD hS hA rfl (by decide) (Nat.le_of_ble_eq_true rfl) (Nat.le_of_ble_eq_true rfl) dX7_init_152 (fun q_35 H hP hD hS => ?_)
    have hP : va_P D vwCl ((([(h0, .inr (6, [.ref q_1, .ref q_5, .ref q_9, .ref q_13, .ref q_17, .ref q_21, .ref q_25, .ref q_26, .ref q_27, .ref q_31])), (q_25, .inl (ak 5, 4, .inr (.inr (.inr (.inr (fun _ => none))))))] ++ BF) ++ B6) ++ ([(q_35, .inr (1, [.null, .null, .null, .null, .null, .null, .null, .int (0), .int (0), .int (0), .int (0), .int (0)]))] ++ E2)) H := fb1 hP
    have hD : va_D A ((([(h0, .inr (6, [.ref q_1, .ref q_5, .ref q_9, .ref q_13, .ref q_17, .ref q_21, .ref q_25, .ref q_26, .ref q_27, .ref q_31])), (q_25, .inl (ak 5, 4, .inr (.inr (.inr (.inr (fun _ => none))))))] ++ BF) ++ B6) ++ ([(q_35, .inr (1, [.null, .null, .null, .null, .null, .null, .null, .int (0), .int (0), .int (0), .int (0), .int (0)]))] ++ E2)) := fb1D hD
    refine W.widen (k := 72) (n := 8890) (Nat.le_of_ble_eq_true rfl) (Nat.le_of_ble_eq_true rfl) ?_
    refine lv_dup hx hb dX7_init_155 rfl ?_
    refine lv_aload_n hx hb dX7_init_156 rfl (lv_at hl 1 rfl) ?_
    refine vt_get (D := D) (ci := 6) (v := .ref q_5) (C := RX7) (T := TX7) (N := 10) hx hb hts (fun w h => wm_c (wc_X7 w h)) hown hE.1 hP 0 rfl rfl 1 (by decide) tX7_1 (hts (.fieldLink RX7 19 "WornLines" "empty" "LWornLines$Programme;") (wm_c hw_657)) (fun _ h9 => h9) rfl dX7_init_157 ?_
    refine lv_sipush (v := 200) hx hb dX7_init_160 (by decide) ?_
    refine lc_v hP hD hS hA (va_runI (As := [.ref q_5, .int (200)]) (rest := [.ref q_35, .int (0), .ref q_25]) ⟨hx, hb, hml, hown, hts⟩ (c_X1_init200 l D ak ad _ (q_35) (q_5) ) (cwI 2 hts gX7_init_X1_init rfl rfl rfl (hts (.initialized RX1) (wm_c hw_331)) (hts (.methodLink RX7 34 yX1_init) (wm_c hw_664)) (hts (.instanceMethod yX1_init) (wm_c hw_665)) rfl hz_X1_init ⟨Nat.le_of_ble_eq_true rfl, Nat.le_of_ble_eq_true rfl⟩) (lc_pre (As := [.ref q_35, .ref q_5, .int (200)]) hE hT hP hD hS hA) rfl rfl hl.1 rfl (lv_room (Nat.le_of_ble_eq_true rfl)) dX7_init_163 ⟨Nat.le_of_ble_eq_true rfl, Nat.le_of_ble_eq_true rfl⟩) (fun a_37 H locs _ hP hD hS => ?_)
    have hP : va_P D vwCl ((([(h0, .inr (6, [.ref q_1, .ref q_5, .ref q_9, .ref q_13, .ref q_17, .ref q_21, .ref q_25, .ref q_26, .ref q_27, .ref q_31])), (q_25, .inl (ak 5, 4, .inr (.inr (.inr (.inr (fun _ => none))))))] ++ BF) ++ B6) ++ (bM ak 200 q_35 q_5 a_37 ++ E2)) H := hP
    have hD : va_D A ((([(h0, .inr (6, [.ref q_1, .ref q_5, .ref q_9, .ref q_13, .ref q_17, .ref q_21, .ref q_25, .ref q_26, .ref q_27, .ref q_31])), (q_25, .inl (ak 5, 4, .inr (.inr (.inr (.inr (fun _ => none))))))] ++ BF) ++ B6) ++ (bM ak 200 q_35 q_5 a_37 ++ E2)) := hD
    refine W.widen (k := 78) (n := 9176) (Nat.le_of_ble_eq_true rfl) (Nat.le_of_ble_eq_true rfl) ?_
    refine va_astq hx hb hE.1 hP hD hS 1 5 (([(h0, .inr (6, [.ref q_1, .ref q_5, .ref q_9, .ref q_13, .ref q_17, .ref q_21, .ref q_25, .ref q_26, .ref q_27, .ref q_31])), (q_25, .inl (ak 5, 4, .inr (.inr (.inr (.inr (fun _ => none))))))] ++ BF) ++ B6 : va_W).length 1 rfl rfl (by rw [List.getElem?_append_right (Nat.le_refl _), Nat.sub_self]; rfl) rfl (by unfold vp_in; decide) dX7_init_166 (fun H locs hP hD hS => ?_)
    have hP : va_P D vwCl ((([(h0, .inr (6, [.ref q_1, .ref q_5, .ref q_9, .ref q_13, .ref q_17, .ref q_21, .ref q_25, .ref q_26, .ref q_27, .ref q_31])), (q_25, .inl (ak 5, 4, .inr (.inr (.inr (.inr (va_up (fun _ => none) (Int32.toNatClampNeg 0) (some q_35)))))))] ++ BF) ++ B6) ++ (bM ak 200 q_35 q_5 a_37 ++ E2)) H := hP
    have hD : va_D A ((([(h0, .inr (6, [.ref q_1, .ref q_5, .ref q_9, .ref q_13, .ref q_17, .ref q_21, .ref q_25, .ref q_26, .ref q_27, .ref q_31])), (q_25, .inl (ak 5, 4, .inr (.inr (.inr (.inr (va_up (fun _ => none) (Int32.toNatClampNeg 0) (some q_35)))))))] ++ BF) ++ B6) ++ (bM ak 200 q_35 q_5 a_37 ++ E2)) := hD
    have hP : va_P D vwCl ((([(h0, .inr (6, [.ref q_1, .ref q_5, .ref q_9, .ref q_13, .ref q_17, .ref q_21, .ref q_25, .ref q_26, .ref q_27, .ref q_31])), (q_25, .inl (ak 5, 4, .inr (.inr (.inr (.inr (va_up (fun _ => none) (Int32.toNatClampNeg 0) (some q_35)))))))] ++ BF) ++ (B6 ++ bM ak 200 q_35 q_5 a_37)) ++ E2) H := fb2 hP
    have hD : va_D A ((([(h0, .inr (6, [.ref q_1, .ref q_5, .ref q_9, .ref q_13, .ref q_17, .ref q_21, .ref q_25, .ref q_26, .ref q_27, .ref q_31])), (q_25, .inl (ak 5, 4, .inr (.inr (.inr (.inr (va_up (fun _ => none) (Int32.toNatClampNeg 0) (some q_35)))))))] ++ BF) ++ (B6 ++ bM ak 200 q_35 q_5 a_37)) ++ E2) := fb2D hD
    obtain ⟨B7, eB7⟩ : ∃ Z : va_W, Z = B6 ++ bM ak 200 q_35 q_5 a_37 := ⟨_, rfl⟩
    rw [← eB7] at hP hD
    refine lv_iinc (v := (1)) (lv' := [(1, .int (1)), (0, .ref h0)]) hx hb dX7_init_167 hl (k := 0) rfl (rfl) (by decide) rfl (fun ls hl => ?_)
    refine lv_goto (tgt := 142) hx hb dX7_init_170 (by decide) ?_
    refine lv_iload_n hx hb dX7_init_142 rfl (lv_at hl 0 rfl) ?_
    refine lv_iconst (v := 4) hx hb dX7_init_143 (by decide) ?_
    refine lv_icmp_ge (tgt := 173) hx hb dX7_init_144 (by decide) (fun c_144_39 => ?_) (fun c_144_39 => ?_)
    · exact absurd c_144_39 (by decide)
    · refine lv_aload_n hx hb dX7_init_147 rfl (lv_at hl 1 rfl) ?_
      refine vt_get (D := D) (ci := 6) (v := .ref q_25) (C := RX7) (T := TX7) (N := 10) hx hb hts (fun w h => wm_c (wc_X7 w h)) hown hE.1 hP 0 rfl rfl 6 (by decide) tX7_6 (hts (.fieldLink RX7 47 "WornLines" "marks" "[LWornLines$Machine;") (wm_c hw_601)) (fun _ h9 => h9) rfl dX7_init_148 ?_
      refine lv_iload_n hx hb dX7_init_151 rfl (lv_at hl 0 rfl) ?_
      refine va_new (ci := 1) (fs := [.null, .null, .null, .null, .null, .null, .null, .int (0), .int (0), .int (0), .int (0), .int (0)]) (C := RX1) (T := TX1) (N := 12) hx hb hts (fun w h => wm_c (wc_X1 w h)) tyX1 tyX1_ok hown (hts (.classLink RX7 32 RX1) (wm_c hw_662)) (hts (.instantiable RX1 12) (wm_c hw_663)) (hts (.initialized RX1) (wm_c hw_331)) hE.1 hP hD hS hA rfl (by decide) (Nat.le_of_ble_eq_true rfl) (Nat.le_of_ble_eq_true rfl) dX7_init_152 (fun q_40 H hP hD hS => ?_)
      have hP : va_P D vwCl ((([(h0, .inr (6, [.ref q_1, .ref q_5, .ref q_9, .ref q_13, .ref q_17, .ref q_21, .ref q_25, .ref q_26, .ref q_27, .ref q_31])), (q_25, .inl (ak 5, 4, .inr (.inr (.inr (.inr (va_up (fun _ => none) (Int32.toNatClampNeg 0) (some q_35)))))))] ++ BF) ++ B7) ++ ([(q_40, .inr (1, [.null, .null, .null, .null, .null, .null, .null, .int (0), .int (0), .int (0), .int (0), .int (0)]))] ++ E2)) H := fb1 hP
      have hD : va_D A ((([(h0, .inr (6, [.ref q_1, .ref q_5, .ref q_9, .ref q_13, .ref q_17, .ref q_21, .ref q_25, .ref q_26, .ref q_27, .ref q_31])), (q_25, .inl (ak 5, 4, .inr (.inr (.inr (.inr (va_up (fun _ => none) (Int32.toNatClampNeg 0) (some q_35)))))))] ++ BF) ++ B7) ++ ([(q_40, .inr (1, [.null, .null, .null, .null, .null, .null, .null, .int (0), .int (0), .int (0), .int (0), .int (0)]))] ++ E2)) := fb1D hD
      refine W.widen (k := 79) (n := 9188) (Nat.le_of_ble_eq_true rfl) (Nat.le_of_ble_eq_true rfl) ?_
      refine lv_dup hx hb dX7_init_155 rfl ?_
      refine lv_aload_n hx hb dX7_init_156 rfl (lv_at hl 1 rfl) ?_
      refine vt_get (D := D) (ci := 6) (v := .ref q_5) (C := RX7) (T := TX7) (N := 10) hx hb hts (fun w h => wm_c (wc_X7 w h)) hown hE.1 hP 0 rfl rfl 1 (by decide) tX7_1 (hts (.fieldLink RX7 19 "WornLines" "empty" "LWornLines$Programme;") (wm_c hw_657)) (fun _ h9 => h9) rfl dX7_init_157 ?_
      refine lv_sipush (v := 200) hx hb dX7_init_160 (by decide) ?_
      refine lc_v hP hD hS hA (va_runI (As := [.ref q_5, .int (200)]) (rest := [.ref q_40, .int (1), .ref q_25]) ⟨hx, hb, hml, hown, hts⟩ (c_X1_init200 l D ak ad _ (q_40) (q_5) ) (cwI 2 hts gX7_init_X1_init rfl rfl rfl (hts (.initialized RX1) (wm_c hw_331)) (hts (.methodLink RX7 34 yX1_init) (wm_c hw_664)) (hts (.instanceMethod yX1_init) (wm_c hw_665)) rfl hz_X1_init ⟨Nat.le_of_ble_eq_true rfl, Nat.le_of_ble_eq_true rfl⟩) (lc_pre (As := [.ref q_40, .ref q_5, .int (200)]) hE hT hP hD hS hA) rfl rfl hl.1 rfl (lv_room (Nat.le_of_ble_eq_true rfl)) dX7_init_163 ⟨Nat.le_of_ble_eq_true rfl, Nat.le_of_ble_eq_true rfl⟩) (fun a_42 H locs _ hP hD hS => ?_)
      have hP : va_P D vwCl ((([(h0, .inr (6, [.ref q_1, .ref q_5, .ref q_9, .ref q_13, .ref q_17, .ref q_21, .ref q_25, .ref q_26, .ref q_27, .ref q_31])), (q_25, .inl (ak 5, 4, .inr (.inr (.inr (.inr (va_up (fun _ => none) (Int32.toNatClampNeg 0) (some q_35)))))))] ++ BF) ++ B7) ++ (bM ak 200 q_40 q_5 a_42 ++ E2)) H := hP
      have hD : va_D A ((([(h0, .inr (6, [.ref q_1, .ref q_5, .ref q_9, .ref q_13, .ref q_17, .ref q_21, .ref q_25, .ref q_26, .ref q_27, .ref q_31])), (q_25, .inl (ak 5, 4, .inr (.inr (.inr (.inr (va_up (fun _ => none) (Int32.toNatClampNeg 0) (some q_35)))))))] ++ BF) ++ B7) ++ (bM ak 200 q_40 q_5 a_42 ++ E2)) := hD
      refine W.widen (k := 85) (n := 9474) (Nat.le_of_ble_eq_true rfl) (Nat.le_of_ble_eq_true rfl) ?_
      refine va_astq hx hb hE.1 hP hD hS 1 5 (([(h0, .inr (6, [.ref q_1, .ref q_5, .ref q_9, .ref q_13, .ref q_17, .ref q_21, .ref q_25, .ref q_26, .ref q_27, .ref q_31])), (q_25, .inl (ak 5, 4, .inr (.inr (.inr (.inr (va_up (fun _ => none) (Int32.toNatClampNeg 0) (some q_35)))))))] ++ BF) ++ B7 : va_W).length 1 rfl rfl (by rw [List.getElem?_append_right (Nat.le_refl _), Nat.sub_self]; rfl) rfl (by unfold vp_in; decide) dX7_init_166 (fun H locs hP hD hS => ?_)
      have hP : va_P D vwCl ((([(h0, .inr (6, [.ref q_1, .ref q_5, .ref q_9, .ref q_13, .ref q_17, .ref q_21, .ref q_25, .ref q_26, .ref q_27, .ref q_31])), (q_25, .inl (ak 5, 4, .inr (.inr (.inr (.inr (va_up (va_up (fun _ => none) (Int32.toNatClampNeg 0) (some q_35)) (Int32.toNatClampNeg 1) (some q_40)))))))] ++ BF) ++ B7) ++ (bM ak 200 q_40 q_5 a_42 ++ E2)) H := hP
      have hD : va_D A ((([(h0, .inr (6, [.ref q_1, .ref q_5, .ref q_9, .ref q_13, .ref q_17, .ref q_21, .ref q_25, .ref q_26, .ref q_27, .ref q_31])), (q_25, .inl (ak 5, 4, .inr (.inr (.inr (.inr (va_up (va_up (fun _ => none) (Int32.toNatClampNeg 0) (some q_35)) (Int32.toNatClampNeg 1) (some q_40)))))))] ++ BF) ++ B7) ++ (bM ak 200 q_40 q_5 a_42 ++ E2)) := hD
      have hP : va_P D vwCl ((([(h0, .inr (6, [.ref q_1, .ref q_5, .ref q_9, .ref q_13, .ref q_17, .ref q_21, .ref q_25, .ref q_26, .ref q_27, .ref q_31])), (q_25, .inl (ak 5, 4, .inr (.inr (.inr (.inr (va_up (va_up (fun _ => none) (Int32.toNatClampNeg 0) (some q_35)) (Int32.toNatClampNeg 1) (some q_40)))))))] ++ BF) ++ (B7 ++ bM ak 200 q_40 q_5 a_42)) ++ E2) H := fb2 hP
      have hD : va_D A ((([(h0, .inr (6, [.ref q_1, .ref q_5, .ref q_9, .ref q_13, .ref q_17, .ref q_21, .ref q_25, .ref q_26, .ref q_27, .ref q_31])), (q_25, .inl (ak 5, 4, .inr (.inr (.inr (.inr (va_up (va_up (fun _ => none) (Int32.toNatClampNeg 0) (some q_35)) (Int32.toNatClampNeg 1) (some q_40)))))))] ++ BF) ++ (B7 ++ bM ak 200 q_40 q_5 a_42)) ++ E2) := fb2D hD
      obtain ⟨B8, eB8⟩ : ∃ Z : va_W, Z = B7 ++ bM ak 200 q_40 q_5 a_42 := ⟨_, rfl⟩
      rw [← eB8] at hP hD
      refine lv_iinc (v := (2)) (lv' := [(1, .int (2)), (0, .ref h0)]) hx hb dX7_init_167 hl (k := 0) rfl (rfl) (by decide) rfl (fun ls hl => ?_)
      refine lv_goto (tgt := 142) hx hb dX7_init_170 (by decide) ?_
      refine lv_iload_n hx hb dX7_init_142 rfl (lv_at hl 0 rfl) ?_
      refine lv_iconst (v := 4) hx hb dX7_init_143 (by decide) ?_
      refine lv_icmp_ge (tgt := 173) hx hb dX7_init_144 (by decide) (fun c_144_44 => ?_) (fun c_144_44 => ?_)
      · exact absurd c_144_44 (by decide)
      · refine lv_aload_n hx hb dX7_init_147 rfl (lv_at hl 1 rfl) ?_
        refine vt_get (D := D) (ci := 6) (v := .ref q_25) (C := RX7) (T := TX7) (N := 10) hx hb hts (fun w h => wm_c (wc_X7 w h)) hown hE.1 hP 0 rfl rfl 6 (by decide) tX7_6 (hts (.fieldLink RX7 47 "WornLines" "marks" "[LWornLines$Machine;") (wm_c hw_601)) (fun _ h9 => h9) rfl dX7_init_148 ?_
        refine lv_iload_n hx hb dX7_init_151 rfl (lv_at hl 0 rfl) ?_
        refine va_new (ci := 1) (fs := [.null, .null, .null, .null, .null, .null, .null, .int (0), .int (0), .int (0), .int (0), .int (0)]) (C := RX1) (T := TX1) (N := 12) hx hb hts (fun w h => wm_c (wc_X1 w h)) tyX1 tyX1_ok hown (hts (.classLink RX7 32 RX1) (wm_c hw_662)) (hts (.instantiable RX1 12) (wm_c hw_663)) (hts (.initialized RX1) (wm_c hw_331)) hE.1 hP hD hS hA rfl (by decide) (Nat.le_of_ble_eq_true rfl) (Nat.le_of_ble_eq_true rfl) dX7_init_152 (fun q_45 H hP hD hS => ?_)
        have hP : va_P D vwCl ((([(h0, .inr (6, [.ref q_1, .ref q_5, .ref q_9, .ref q_13, .ref q_17, .ref q_21, .ref q_25, .ref q_26, .ref q_27, .ref q_31])), (q_25, .inl (ak 5, 4, .inr (.inr (.inr (.inr (va_up (va_up (fun _ => none) (Int32.toNatClampNeg 0) (some q_35)) (Int32.toNatClampNeg 1) (some q_40)))))))] ++ BF) ++ B8) ++ ([(q_45, .inr (1, [.null, .null, .null, .null, .null, .null, .null, .int (0), .int (0), .int (0), .int (0), .int (0)]))] ++ E2)) H := fb1 hP
        have hD : va_D A ((([(h0, .inr (6, [.ref q_1, .ref q_5, .ref q_9, .ref q_13, .ref q_17, .ref q_21, .ref q_25, .ref q_26, .ref q_27, .ref q_31])), (q_25, .inl (ak 5, 4, .inr (.inr (.inr (.inr (va_up (va_up (fun _ => none) (Int32.toNatClampNeg 0) (some q_35)) (Int32.toNatClampNeg 1) (some q_40)))))))] ++ BF) ++ B8) ++ ([(q_45, .inr (1, [.null, .null, .null, .null, .null, .null, .null, .int (0), .int (0), .int (0), .int (0), .int (0)]))] ++ E2)) := fb1D hD
        refine W.widen (k := 86) (n := 9486) (Nat.le_of_ble_eq_true rfl) (Nat.le_of_ble_eq_true rfl) ?_
        refine lv_dup hx hb dX7_init_155 rfl ?_
        refine lv_aload_n hx hb dX7_init_156 rfl (lv_at hl 1 rfl) ?_
        refine vt_get (D := D) (ci := 6) (v := .ref q_5) (C := RX7) (T := TX7) (N := 10) hx hb hts (fun w h => wm_c (wc_X7 w h)) hown hE.1 hP 0 rfl rfl 1 (by decide) tX7_1 (hts (.fieldLink RX7 19 "WornLines" "empty" "LWornLines$Programme;") (wm_c hw_657)) (fun _ h9 => h9) rfl dX7_init_157 ?_
        refine lv_sipush (v := 200) hx hb dX7_init_160 (by decide) ?_
        refine lc_v hP hD hS hA (va_runI (As := [.ref q_5, .int (200)]) (rest := [.ref q_45, .int (2), .ref q_25]) ⟨hx, hb, hml, hown, hts⟩ (c_X1_init200 l D ak ad _ (q_45) (q_5) ) (cwI 2 hts gX7_init_X1_init rfl rfl rfl (hts (.initialized RX1) (wm_c hw_331)) (hts (.methodLink RX7 34 yX1_init) (wm_c hw_664)) (hts (.instanceMethod yX1_init) (wm_c hw_665)) rfl hz_X1_init ⟨Nat.le_of_ble_eq_true rfl, Nat.le_of_ble_eq_true rfl⟩) (lc_pre (As := [.ref q_45, .ref q_5, .int (200)]) hE hT hP hD hS hA) rfl rfl hl.1 rfl (lv_room (Nat.le_of_ble_eq_true rfl)) dX7_init_163 ⟨Nat.le_of_ble_eq_true rfl, Nat.le_of_ble_eq_true rfl⟩) (fun a_47 H locs _ hP hD hS => ?_)
        have hP : va_P D vwCl ((([(h0, .inr (6, [.ref q_1, .ref q_5, .ref q_9, .ref q_13, .ref q_17, .ref q_21, .ref q_25, .ref q_26, .ref q_27, .ref q_31])), (q_25, .inl (ak 5, 4, .inr (.inr (.inr (.inr (va_up (va_up (fun _ => none) (Int32.toNatClampNeg 0) (some q_35)) (Int32.toNatClampNeg 1) (some q_40)))))))] ++ BF) ++ B8) ++ (bM ak 200 q_45 q_5 a_47 ++ E2)) H := hP
        have hD : va_D A ((([(h0, .inr (6, [.ref q_1, .ref q_5, .ref q_9, .ref q_13, .ref q_17, .ref q_21, .ref q_25, .ref q_26, .ref q_27, .ref q_31])), (q_25, .inl (ak 5, 4, .inr (.inr (.inr (.inr (va_up (va_up (fun _ => none) (Int32.toNatClampNeg 0) (some q_35)) (Int32.toNatClampNeg 1) (some q_40)))))))] ++ BF) ++ B8) ++ (bM ak 200 q_45 q_5 a_47 ++ E2)) := hD
        refine W.widen (k := 92) (n := 9772) (Nat.le_of_ble_eq_true rfl) (Nat.le_of_ble_eq_true rfl) ?_
        refine va_astq hx hb hE.1 hP hD hS 1 5 (([(h0, .inr (6, [.ref q_1, .ref q_5, .ref q_9, .ref q_13, .ref q_17, .ref q_21, .ref q_25, .ref q_26, .ref q_27, .ref q_31])), (q_25, .inl (ak 5, 4, .inr (.inr (.inr (.inr (va_up (va_up (fun _ => none) (Int32.toNatClampNeg 0) (some q_35)) (Int32.toNatClampNeg 1) (some q_40)))))))] ++ BF) ++ B8 : va_W).length 1 rfl rfl (by rw [List.getElem?_append_right (Nat.le_refl _), Nat.sub_self]; rfl) rfl (by unfold vp_in; decide) dX7_init_166 (fun H locs hP hD hS => ?_)
        have hP : va_P D vwCl ((([(h0, .inr (6, [.ref q_1, .ref q_5, .ref q_9, .ref q_13, .ref q_17, .ref q_21, .ref q_25, .ref q_26, .ref q_27, .ref q_31])), (q_25, .inl (ak 5, 4, .inr (.inr (.inr (.inr (va_up (va_up (va_up (fun _ => none) (Int32.toNatClampNeg 0) (some q_35)) (Int32.toNatClampNeg 1) (some q_40)) (Int32.toNatClampNeg 2) (some q_45)))))))] ++ BF) ++ B8) ++ (bM ak 200 q_45 q_5 a_47 ++ E2)) H := hP
        have hD : va_D A ((([(h0, .inr (6, [.ref q_1, .ref q_5, .ref q_9, .ref q_13, .ref q_17, .ref q_21, .ref q_25, .ref q_26, .ref q_27, .ref q_31])), (q_25, .inl (ak 5, 4, .inr (.inr (.inr (.inr (va_up (va_up (va_up (fun _ => none) (Int32.toNatClampNeg 0) (some q_35)) (Int32.toNatClampNeg 1) (some q_40)) (Int32.toNatClampNeg 2) (some q_45)))))))] ++ BF) ++ B8) ++ (bM ak 200 q_45 q_5 a_47 ++ E2)) := hD
        have hP : va_P D vwCl ((([(h0, .inr (6, [.ref q_1, .ref q_5, .ref q_9, .ref q_13, .ref q_17, .ref q_21, .ref q_25, .ref q_26, .ref q_27, .ref q_31])), (q_25, .inl (ak 5, 4, .inr (.inr (.inr (.inr (va_up (va_up (va_up (fun _ => none) (Int32.toNatClampNeg 0) (some q_35)) (Int32.toNatClampNeg 1) (some q_40)) (Int32.toNatClampNeg 2) (some q_45)))))))] ++ BF) ++ (B8 ++ bM ak 200 q_45 q_5 a_47)) ++ E2) H := fb2 hP
        have hD : va_D A ((([(h0, .inr (6, [.ref q_1, .ref q_5, .ref q_9, .ref q_13, .ref q_17, .ref q_21, .ref q_25, .ref q_26, .ref q_27, .ref q_31])), (q_25, .inl (ak 5, 4, .inr (.inr (.inr (.inr (va_up (va_up (va_up (fun _ => none) (Int32.toNatClampNeg 0) (some q_35)) (Int32.toNatClampNeg 1) (some q_40)) (Int32.toNatClampNeg 2) (some q_45)))))))] ++ BF) ++ (B8 ++ bM ak 200 q_45 q_5 a_47)) ++ E2) := fb2D hD
        obtain ⟨B9, eB9⟩ : ∃ Z : va_W, Z = B8 ++ bM ak 200 q_45 q_5 a_47 := ⟨_, rfl⟩
        rw [← eB9] at hP hD
        refine lv_iinc (v := (3)) (lv' := [(1, .int (3)), (0, .ref h0)]) hx hb dX7_init_167 hl (k := 0) rfl (rfl) (by decide) rfl (fun ls hl => ?_)
        refine lv_goto (tgt := 142) hx hb dX7_init_170 (by decide) ?_
        refine lv_iload_n hx hb dX7_init_142 rfl (lv_at hl 0 rfl) ?_
        refine lv_iconst (v := 4) hx hb dX7_init_143 (by decide) ?_
        refine lv_icmp_ge (tgt := 173) hx hb dX7_init_144 (by decide) (fun c_144_49 => ?_) (fun c_144_49 => ?_)
        · exact absurd c_144_49 (by decide)
        · refine lv_aload_n hx hb dX7_init_147 rfl (lv_at hl 1 rfl) ?_
          refine vt_get (D := D) (ci := 6) (v := .ref q_25) (C := RX7) (T := TX7) (N := 10) hx hb hts (fun w h => wm_c (wc_X7 w h)) hown hE.1 hP 0 rfl rfl 6 (by decide) tX7_6 (hts (.fieldLink RX7 47 "WornLines" "marks" "[LWornLines$Machine;") (wm_c hw_601)) (fun _ h9 => h9) rfl dX7_init_148 ?_
          refine lv_iload_n hx hb dX7_init_151 rfl (lv_at hl 0 rfl) ?_
          refine va_new (ci := 1) (fs := [.null, .null, .null, .null, .null, .null, .null, .int (0), .int (0), .int (0), .int (0), .int (0)]) (C := RX1) (T := TX1) (N := 12) hx hb hts (fun w h => wm_c (wc_X1 w h)) tyX1 tyX1_ok hown (hts (.classLink RX7 32 RX1) (wm_c hw_662)) (hts (.instantiable RX1 12) (wm_c hw_663)) (hts (.initialized RX1) (wm_c hw_331)) hE.1 hP hD hS hA rfl (by decide) (Nat.le_of_ble_eq_true rfl) (Nat.le_of_ble_eq_true rfl) dX7_init_152 (fun q_50 H hP hD hS => ?_)
          have hP : va_P D vwCl ((([(h0, .inr (6, [.ref q_1, .ref q_5, .ref q_9, .ref q_13, .ref q_17, .ref q_21, .ref q_25, .ref q_26, .ref q_27, .ref q_31])), (q_25, .inl (ak 5, 4, .inr (.inr (.inr (.inr (va_up (va_up (va_up (fun _ => none) (Int32.toNatClampNeg 0) (some q_35)) (Int32.toNatClampNeg 1) (some q_40)) (Int32.toNatClampNeg 2) (some q_45)))))))] ++ BF) ++ B9) ++ ([(q_50, .inr (1, [.null, .null, .null, .null, .null, .null, .null, .int (0), .int (0), .int (0), .int (0), .int (0)]))] ++ E2)) H := fb1 hP
          have hD : va_D A ((([(h0, .inr (6, [.ref q_1, .ref q_5, .ref q_9, .ref q_13, .ref q_17, .ref q_21, .ref q_25, .ref q_26, .ref q_27, .ref q_31])), (q_25, .inl (ak 5, 4, .inr (.inr (.inr (.inr (va_up (va_up (va_up (fun _ => none) (Int32.toNatClampNeg 0) (some q_35)) (Int32.toNatClampNeg 1) (some q_40)) (Int32.toNatClampNeg 2) (some q_45)))))))] ++ BF) ++ B9) ++ ([(q_50, .inr (1, [.null, .null, .null, .null, .null, .null, .null, .int (0), .int (0), .int (0), .int (0), .int (0)]))] ++ E2)) := fb1D hD
          refine W.widen (k := 93) (n := 9784) (Nat.le_of_ble_eq_true rfl) (Nat.le_of_ble_eq_true rfl) ?_
          refine lv_dup hx hb dX7_init_155 rfl ?_
          refine lv_aload_n hx hb dX7_init_156 rfl (lv_at hl 1 rfl) ?_
          refine vt_get (D := D) (ci := 6) (v := .ref q_5) (C := RX7) (T := TX7) (N := 10) hx hb hts (fun w h => wm_c (wc_X7 w h)) hown hE.1 hP 0 rfl rfl 1 (by decide) tX7_1 (hts (.fieldLink RX7 19 "WornLines" "empty" "LWornLines$Programme;") (wm_c hw_657)) (fun _ h9 => h9) rfl dX7_init_157 ?_
          refine lv_sipush (v := 200) hx hb dX7_init_160 (by decide) ?_
          refine lc_v hP hD hS hA (va_runI (As := [.ref q_5, .int (200)]) (rest := [.ref q_50, .int (3), .ref q_25]) ⟨hx, hb, hml, hown, hts⟩ (c_X1_init200 l D ak ad _ (q_50) (q_5) ) (cwI 2 hts gX7_init_X1_init rfl rfl rfl (hts (.initialized RX1) (wm_c hw_331)) (hts (.methodLink RX7 34 yX1_init) (wm_c hw_664)) (hts (.instanceMethod yX1_init) (wm_c hw_665)) rfl hz_X1_init ⟨Nat.le_of_ble_eq_true rfl, Nat.le_of_ble_eq_true rfl⟩) (lc_pre (As := [.ref q_50, .ref q_5, .int (200)]) hE hT hP hD hS hA) rfl rfl hl.1 rfl (lv_room (Nat.le_of_ble_eq_true rfl)) dX7_init_163 ⟨Nat.le_of_ble_eq_true rfl, Nat.le_of_ble_eq_true rfl⟩) (fun a_52 H locs _ hP hD hS => ?_)
          have hP : va_P D vwCl ((([(h0, .inr (6, [.ref q_1, .ref q_5, .ref q_9, .ref q_13, .ref q_17, .ref q_21, .ref q_25, .ref q_26, .ref q_27, .ref q_31])), (q_25, .inl (ak 5, 4, .inr (.inr (.inr (.inr (va_up (va_up (va_up (fun _ => none) (Int32.toNatClampNeg 0) (some q_35)) (Int32.toNatClampNeg 1) (some q_40)) (Int32.toNatClampNeg 2) (some q_45)))))))] ++ BF) ++ B9) ++ (bM ak 200 q_50 q_5 a_52 ++ E2)) H := hP
          have hD : va_D A ((([(h0, .inr (6, [.ref q_1, .ref q_5, .ref q_9, .ref q_13, .ref q_17, .ref q_21, .ref q_25, .ref q_26, .ref q_27, .ref q_31])), (q_25, .inl (ak 5, 4, .inr (.inr (.inr (.inr (va_up (va_up (va_up (fun _ => none) (Int32.toNatClampNeg 0) (some q_35)) (Int32.toNatClampNeg 1) (some q_40)) (Int32.toNatClampNeg 2) (some q_45)))))))] ++ BF) ++ B9) ++ (bM ak 200 q_50 q_5 a_52 ++ E2)) := hD
          refine W.widen (k := 99) (n := 10070) (Nat.le_of_ble_eq_true rfl) (Nat.le_of_ble_eq_true rfl) ?_
          refine va_astq hx hb hE.1 hP hD hS 1 5 (([(h0, .inr (6, [.ref q_1, .ref q_5, .ref q_9, .ref q_13, .ref q_17, .ref q_21, .ref q_25, .ref q_26, .ref q_27, .ref q_31])), (q_25, .inl (ak 5, 4, .inr (.inr (.inr (.inr (va_up (va_up (va_up (fun _ => none) (Int32.toNatClampNeg 0) (some q_35)) (Int32.toNatClampNeg 1) (some q_40)) (Int32.toNatClampNeg 2) (some q_45)))))))] ++ BF) ++ B9 : va_W).length 1 rfl rfl (by rw [List.getElem?_append_right (Nat.le_refl _), Nat.sub_self]; rfl) rfl (by unfold vp_in; decide) dX7_init_166 (fun H locs hP hD hS => ?_)
          have hP : va_P D vwCl ((([(h0, .inr (6, [.ref q_1, .ref q_5, .ref q_9, .ref q_13, .ref q_17, .ref q_21, .ref q_25, .ref q_26, .ref q_27, .ref q_31])), (q_25, .inl (ak 5, 4, .inr (.inr (.inr (.inr (va_up (va_up (va_up (va_up (fun _ => none) (Int32.toNatClampNeg 0) (some q_35)) (Int32.toNatClampNeg 1) (some q_40)) (Int32.toNatClampNeg 2) (some q_45)) (Int32.toNatClampNeg 3) (some q_50)))))))] ++ BF) ++ B9) ++ (bM ak 200 q_50 q_5 a_52 ++ E2)) H := hP
          have hD : va_D A ((([(h0, .inr (6, [.ref q_1, .ref q_5, .ref q_9, .ref q_13, .ref q_17, .ref q_21, .ref q_25, .ref q_26, .ref q_27, .ref q_31])), (q_25, .inl (ak 5, 4, .inr (.inr (.inr (.inr (va_up (va_up (va_up (va_up (fun _ => none) (Int32.toNatClampNeg 0) (some q_35)) (Int32.toNatClampNeg 1) (some q_40)) (Int32.toNatClampNeg 2) (some q_45)) (Int32.toNatClampNeg 3) (some q_50)))))))] ++ BF) ++ B9) ++ (bM ak 200 q_50 q_5 a_52 ++ E2)) := hD
          have hP : va_P D vwCl ((([(h0, .inr (6, [.ref q_1, .ref q_5, .ref q_9, .ref q_13, .ref q_17, .ref q_21, .ref q_25, .ref q_26, .ref q_27, .ref q_31])), (q_25, .inl (ak 5, 4, .inr (.inr (.inr (.inr (va_up (va_up (va_up (va_up (fun _ => none) (Int32.toNatClampNeg 0) (some q_35)) (Int32.toNatClampNeg 1) (some q_40)) (Int32.toNatClampNeg 2) (some q_45)) (Int32.toNatClampNeg 3) (some q_50)))))))] ++ BF) ++ (B9 ++ bM ak 200 q_50 q_5 a_52)) ++ E2) H := fb2 hP
          have hD : va_D A ((([(h0, .inr (6, [.ref q_1, .ref q_5, .ref q_9, .ref q_13, .ref q_17, .ref q_21, .ref q_25, .ref q_26, .ref q_27, .ref q_31])), (q_25, .inl (ak 5, 4, .inr (.inr (.inr (.inr (va_up (va_up (va_up (va_up (fun _ => none) (Int32.toNatClampNeg 0) (some q_35)) (Int32.toNatClampNeg 1) (some q_40)) (Int32.toNatClampNeg 2) (some q_45)) (Int32.toNatClampNeg 3) (some q_50)))))))] ++ BF) ++ (B9 ++ bM ak 200 q_50 q_5 a_52)) ++ E2) := fb2D hD
          obtain ⟨B10, eB10⟩ : ∃ Z : va_W, Z = B9 ++ bM ak 200 q_50 q_5 a_52 := ⟨_, rfl⟩
          rw [← eB10] at hP hD
          refine lv_iinc (v := (4)) (lv' := [(1, .int (4)), (0, .ref h0)]) hx hb dX7_init_167 hl (k := 0) rfl (rfl) (by decide) rfl (fun ls hl => ?_)
          refine lv_goto (tgt := 142) hx hb dX7_init_170 (by decide) ?_
          refine lv_iload_n hx hb dX7_init_142 rfl (lv_at hl 0 rfl) ?_
          refine lv_iconst (v := 4) hx hb dX7_init_143 (by decide) ?_
          refine lv_icmp_ge (tgt := 173) hx hb dX7_init_144 (by decide) (fun c_144_54 => ?_) (fun c_144_54 => ?_)
          obtain ⟨xa, x0, x1, x2, x3, x4, x5, x6, x7, x8, x9⟩ : ∃ f : Nat → Nat, f 0 = q_1 ∧ f 1 = q_5 ∧ f 2 = q_9 ∧ f 3 = q_13 ∧ f 4 = q_17 ∧ f 5 = q_21 ∧ f 6 = q_25 ∧ f 7 = q_26 ∧ f 8 = q_27 ∧ f 9 = q_31 := ⟨(fun k => match k with | 0 => q_1 | 1 => q_5 | 2 => q_9 | 3 => q_13 | 4 => q_17 | 5 => q_21 | 6 => q_25 | 7 => q_26 | 8 => q_27 | _ => q_31), rfl, rfl, rfl, rfl, rfl, rfl, rfl, rfl, rfl, rfl⟩
          obtain ⟨mk, m0, m1, m2, m3⟩ : ∃ f : Nat → Nat, f 0 = q_35 ∧ f 1 = q_40 ∧ f 2 = q_45 ∧ f 3 = q_50 := ⟨(fun k => match k with | 0 => q_35 | 1 => q_40 | 2 => q_45 | _ => q_50), rfl, rfl, rfl, rfl⟩
          obtain ⟨ka, k0, k1, k2, k3⟩ : ∃ f : Nat → Nat → Nat, f 0 = a_37 ∧ f 1 = a_42 ∧ f 2 = a_47 ∧ f 3 = a_52 := ⟨(fun k => match k with | 0 => a_37 | 1 => a_42 | 2 => a_47 | _ => a_52), rfl, rfl, rfl, rfl⟩
          rw [mk_four q_35 q_40 q_45 q_50 mk m0 m1 m2 m3] at hP hD
          have hP := fb6 hP
          have hD := fb6D hD
          have eL := xl_cells ak ad h0 xa a_3 a_11 a_15 a_19 a_23 a_29 a_33 mk ka (bE ak (xa 1) a_7)
          have hI := ix_zero ak ad h0 xa a_3 a_11 a_15 a_19 a_23 a_29 a_33 (fun i => a_33 1 + 1 + i) mk ka a_7
          rw [← eL] at hI
          have eW : ((h0, .inr (6, [.ref q_1, .ref q_5, .ref q_9, .ref q_13, .ref q_17, .ref q_21, .ref q_25, .ref q_26, .ref q_27, .ref q_31])) : Nat × va_E) = (h0, .inr (6, wob xa)) := by simp only [wob, x0, x1, x2, x3, x4, x5, x6, x7, x8, x9]
          rw [eE2, eSV, eE0, List.append_nil, eW, eBF, eB10, eB9, eB8, eB7, eB6, eB5, eB4, eB3, eB2, eB1] at hP hD
          rw [x0, x1, x2, x3, x4, x5, x6, x7, x8, x9, m0, m1, m2, m3, k0, k1, k2, k3] at hI
          refine W.widen (k := 99) (n := 10070) (Nat.le_of_ble_eq_true rfl) (Nat.le_of_ble_eq_true rfl) ?_
          exact W.vret hx hb hr (fun t ht hW => ⟨⟨_, rfl, hI, by rw [ht]; exact hP, by rw [hAe]; exact hD⟩, by rw [hAe]; exact hS.F ht⟩) hS.2.2 dX7_init_173
          · exact absurd c_144_54 (by decide)
