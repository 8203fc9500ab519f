section
theorem dX4_open_0 : decode cX4_open 0 = .ok (.aload_n 0, 1) := by decide +kernel
theorem dX4_open_1 : decode cX4_open 1 = .ok (.aload_n 1, 1) := by decide +kernel
theorem dX4_open_2 : decode cX4_open 2 = .ok (.putfield 24, 3) := by decide +kernel
theorem dX4_open_5 : decode cX4_open 5 = .ok (.aload_n 0, 1) := by decide +kernel
theorem dX4_open_6 : decode cX4_open 6 = .ok (.iconst 0, 1) := by decide +kernel
theorem dX4_open_7 : decode cX4_open 7 = .ok (.putfield 28, 3) := by decide +kernel
theorem dX4_open_10 : decode cX4_open 10 = .ok (.aload_n 0, 1) := by decide +kernel
theorem dX4_open_11 : decode cX4_open 11 = .ok (.getfield 9, 3) := by decide +kernel
theorem dX4_open_14 : decode cX4_open 14 = .ok (.iconst 0, 1) := by decide +kernel
set_option maxRecDepth 20000 in
theorem ggX4_open_J7_fill_53178 : GoodIn wsX4_open wsJ7_fill_53178 := gup gc_J7_fill_53178
set_option maxRecDepth 20000 in
theorem gX4_open_J7_fill_53178 : GoodIn wsX4_open (va_wsS RX4 32 yJ7_fill_53178 wsJ7_fill_53178) := gup (glS hw_384 hw_371 hw_372 gc_J7_fill_53178)
theorem dX4_open_15 : decode cX4_open 15 = .ok (.invokestatic 32, 3) := by decide +kernel
theorem dX4_open_18 : decode cX4_open 18 = .ok (.aload_n 0, 1) := by decide +kernel
theorem dX4_open_19 : decode cX4_open 19 = .ok (.getfield 15, 3) := by decide +kernel
theorem dX4_open_22 : decode cX4_open 22 = .ok (.iconst 0, 1) := by decide +kernel
theorem dX4_open_23 : decode cX4_open 23 = .ok (.invokestatic 32, 3) := by decide +kernel
theorem dX4_open_26 : decode cX4_open 26 = .ok (.aload_n 0, 1) := by decide +kernel
theorem dX4_open_27 : decode cX4_open 27 = .ok (.getfield 18, 3) := by decide +kernel
theorem dX4_open_30 : decode cX4_open 30 = .ok (.iconst 0, 1) := by decide +kernel
theorem dX4_open_31 : decode cX4_open 31 = .ok (.invokestatic 32, 3) := by decide +kernel
theorem dX4_open_34 : decode cX4_open 34 = .ok (.return_, 1) := by decide +kernel
theorem dX4_add_116 : decode cX4_add 116 = .ok (.iload_n 3, 1) := by decide +kernel
theorem dX4_add_117 : decode cX4_add 117 = .ok (.aload_n 1, 1) := by decide +kernel
theorem dX4_add_118 : decode cX4_add 118 = .ok (.getfield 54, 3) := by decide +kernel
theorem dX4_add_121 : decode cX4_add 121 = .ok (.getfield 57, 3) := by decide +kernel
theorem dX4_add_124 : decode cX4_add 124 = .ok (.if_icmp .ge 43, 3) := by decide +kernel
theorem dX4_add_127 : decode cX4_add 127 = .ok (.aload_n 0, 1) := by decide +kernel
theorem dX4_add_128 : decode cX4_add 128 = .ok (.getfield 21, 3) := by decide +kernel
theorem dX4_add_131 : decode cX4_add 131 = .ok (.iload_n 3, 1) := by decide +kernel
theorem dX4_add_132 : decode cX4_add 132 = .ok (.iaload, 1) := by decide +kernel
theorem dX4_add_133 : decode cX4_add 133 = .ok (.aload_n 0, 1) := by decide +kernel
theorem dX4_add_134 : decode cX4_add 134 = .ok (.getfield 9, 3) := by decide +kernel
theorem dX4_add_137 : decode cX4_add 137 = .ok (.iload_n 3, 1) := by decide +kernel
theorem dX4_add_138 : decode cX4_add 138 = .ok (.iaload, 1) := by decide +kernel
theorem dX4_add_139 : decode cX4_add 139 = .ok (.if_icmp .le 22, 3) := by decide +kernel
theorem dX4_add_161 : decode cX4_add 161 = .ok (.iinc 3 1, 3) := by decide +kernel
theorem dX4_add_164 : decode cX4_add 164 = .ok (.goto (-48), 3) := by decide +kernel
theorem dX4_add_142 : decode cX4_add 142 = .ok (.aload_n 0, 1) := by decide +kernel
theorem dX4_add_143 : decode cX4_add 143 = .ok (.getfield 9, 3) := by decide +kernel
theorem dX4_add_146 : decode cX4_add 146 = .ok (.iload_n 3, 1) := by decide +kernel
theorem dX4_add_147 : decode cX4_add 147 = .ok (.aload_n 0, 1) := by decide +kernel
theorem dX4_add_148 : decode cX4_add 148 = .ok (.getfield 21, 3) := by decide +kernel
theorem dX4_add_151 : decode cX4_add 151 = .ok (.iload_n 3, 1) := by decide +kernel
theorem dX4_add_152 : decode cX4_add 152 = .ok (.iaload, 1) := by decide +kernel
theorem dX4_add_153 : decode cX4_add 153 = .ok (.iastore, 1) := by decide +kernel
theorem dX4_add_154 : decode cX4_add 154 = .ok (.aload_n 0, 1) := by decide +kernel
theorem dX4_add_155 : decode cX4_add 155 = .ok (.getfield 15, 3) := by decide +kernel
theorem dX4_add_158 : decode cX4_add 158 = .ok (.iload_n 3, 1) := by decide +kernel
theorem dX4_add_159 : decode cX4_add 159 = .ok (.iload_n 2, 1) := by decide +kernel
theorem dX4_add_160 : decode cX4_add 160 = .ok (.iastore, 1) := by decide +kernel
theorem dX4_add_28 : decode cX4_add 28 = .ok (.iload_n 3, 1) := by decide +kernel
theorem dX4_add_29 : decode cX4_add 29 = .ok (.sipush 1000, 3) := by decide +kernel
theorem dX4_add_32 : decode cX4_add 32 = .ok (.if_icmp .ge 74, 3) := by decide +kernel
theorem dX4_add_106 : decode cX4_add 106 = .ok (.aload_n 0, 1) := by decide +kernel
theorem dX4_add_107 : decode cX4_add 107 = .ok (.aload_n 1, 1) := by decide +kernel
set_option maxRecDepth 20000 in
theorem ggX4_add_X1_isEndless : GoodIn wsX4_add wsX1_isEndless := gup gc_X1_isEndless
set_option maxRecDepth 20000 in
theorem gX4_add_X1_isEndless : GoodIn wsX4_add (wsV RX4 76 RX1 yX1_isEndless wsX1_isEndless) := gup (glV hw_385 hw_386 hw_387 hw_331 gc_X1_isEndless)
theorem dX4_add_108 : decode cX4_add 108 = .ok (.invokevirtual 76, 3) := by decide +kernel
theorem dX4_add_111 : decode cX4_add 111 = .ok (.putfield 28, 3) := by decide +kernel
theorem dX4_add_114 : decode cX4_add 114 = .ok (.iconst 0, 1) := by decide +kernel
theorem dX4_add_115 : decode cX4_add 115 = .ok (.istore_n 3, 1) := by decide +kernel
theorem dX4_add_35 : decode cX4_add 35 = .ok (.aload_n 1, 1) := by decide +kernel
theorem dX4_add_36 : decode cX4_add 36 = .ok (.getfield 51, 3) := by decide +kernel
theorem dX4_add_39 : decode cX4_add 39 = .ok (.aload_n 1, 1) := by decide +kernel
theorem dX4_add_40 : decode cX4_add 40 = .ok (.getfield 54, 3) := by decide +kernel
theorem dX4_add_43 : decode cX4_add 43 = .ok (.getfield 57, 3) := by decide +kernel
set_option maxRecDepth 20000 in
theorem ggX4_add_X7_within : GoodIn wsX4_add wsX7_within := gup gc_X7_within
set_option maxRecDepth 20000 in
theorem gX4_add_X7_within_n62 : GoodIn wsX4_add (wsX7_within) := ggX4_add_X7_within
theorem dX4_add_46 : decode cX4_add 46 = .ok (.invokestatic 62, 3) := by decide +kernel
theorem dX4_add_49 : decode cX4_add 49 = .ok (.ifCond .eq 57, 3) := by decide +kernel
theorem dX4_add_52 : decode cX4_add 52 = .ok (.aload_n 1, 1) := by decide +kernel
theorem dX4_add_53 : decode cX4_add 53 = .ok (.getfield 51, 3) := by decide +kernel
theorem dX4_add_56 : decode cX4_add 56 = .ok (.istore 4, 2) := by decide +kernel
theorem dX4_add_58 : decode cX4_add 58 = .ok (.aload_n 0, 1) := by decide +kernel
theorem dX4_add_59 : decode cX4_add 59 = .ok (.getfield 21, 3) := by decide +kernel
theorem dX4_add_62 : decode cX4_add 62 = .ok (.iload 4, 2) := by decide +kernel
theorem dX4_add_64 : decode cX4_add 64 = .ok (.dup2, 1) := by decide +kernel
theorem dX4_add_65 : decode cX4_add 65 = .ok (.iaload, 1) := by decide +kernel
theorem dX4_add_66 : decode cX4_add 66 = .ok (.iconst 1, 1) := by decide +kernel
theorem dX4_add_67 : decode cX4_add 67 = .ok (.iadd, 1) := by decide +kernel
theorem dX4_add_68 : decode cX4_add 68 = .ok (.iastore, 1) := by decide +kernel
theorem dX4_add_69 : decode cX4_add 69 = .ok (.aload_n 0, 1) := by decide +kernel
theorem dX4_add_70 : decode cX4_add 70 = .ok (.getfield 18, 3) := by decide +kernel
theorem dX4_add_73 : decode cX4_add 73 = .ok (.iload 4, 2) := by decide +kernel
theorem dX4_add_75 : decode cX4_add 75 = .ok (.aload_n 0, 1) := by decide +kernel
theorem dX4_add_76 : decode cX4_add 76 = .ok (.getfield 18, 3) := by decide +kernel
theorem dX4_add_79 : decode cX4_add 79 = .ok (.iload 4, 2) := by decide +kernel
theorem dX4_add_81 : decode cX4_add 81 = .ok (.iaload, 1) := by decide +kernel
theorem dX4_add_82 : decode cX4_add 82 = .ok (.aload_n 1, 1) := by decide +kernel
theorem dX4_add_83 : decode cX4_add 83 = .ok (.getfield 38, 3) := by decide +kernel
theorem dX4_add_86 : decode cX4_add 86 = .ok (.iload 4, 2) := by decide +kernel
theorem dX4_add_88 : decode cX4_add 88 = .ok (.iaload, 1) := by decide +kernel
theorem dX4_add_89 : decode cX4_add 89 = .ok (.iconst 1, 1) := by decide +kernel
theorem dX4_add_90 : decode cX4_add 90 = .ok (.iadd, 1) := by decide +kernel
theorem dX4_add_91 : decode cX4_add 91 = .ok (.invokestatic 66, 3) := by decide +kernel
theorem dX4_add_94 : decode cX4_add 94 = .ok (.iastore, 1) := by decide +kernel
theorem dX4_add_95 : decode cX4_add 95 = .ok (.aload_n 1, 1) := by decide +kernel
set_option maxRecDepth 20000 in
theorem ggX4_add_X1_step : GoodIn wsX4_add wsX1_step := gup gc_X1_step
set_option maxRecDepth 20000 in
theorem gX4_add_X1_step : GoodIn wsX4_add (wsV RX4 72 RX1 yX1_step wsX1_step) := gup (glV hw_388 hw_363 hw_364 hw_331 gc_X1_step)
theorem dX4_add_96 : decode cX4_add 96 = .ok (.invokevirtual 72, 3) := by decide +kernel
theorem dX4_add_99 : decode cX4_add 99 = .ok (.pop, 1) := by decide +kernel
theorem dX4_add_100 : decode cX4_add 100 = .ok (.iinc 3 1, 3) := by decide +kernel
theorem dX4_add_103 : decode cX4_add 103 = .ok (.goto (-75), 3) := by decide +kernel
theorem dX4_add_0 : decode cX4_add 0 = .ok (.aload_n 0, 1) := by decide +kernel
theorem dX4_add_1 : decode cX4_add 1 = .ok (.getfield 21, 3) := by decide +kernel
theorem dX4_add_4 : decode cX4_add 4 = .ok (.iconst 0, 1) := by decide +kernel
set_option maxRecDepth 20000 in
theorem ggX4_add_J7_fill_53178 : GoodIn wsX4_add wsJ7_fill_53178 := gup gc_J7_fill_53178
set_option maxRecDepth 20000 in
theorem gX4_add_J7_fill_53178 : GoodIn wsX4_add (va_wsS RX4 32 yJ7_fill_53178 wsJ7_fill_53178) := gup (glS hw_384 hw_371 hw_372 gc_J7_fill_53178)
theorem dX4_add_5 : decode cX4_add 5 = .ok (.invokestatic 32, 3) := by decide +kernel
theorem dX4_add_8 : decode cX4_add 8 = .ok (.aload_n 1, 1) := by decide +kernel
theorem dX4_add_9 : decode cX4_add 9 = .ok (.getfield 38, 3) := by decide +kernel
theorem dX4_add_12 : decode cX4_add 12 = .ok (.iconst 0, 1) := by decide +kernel
theorem dX4_add_13 : decode cX4_add 13 = .ok (.invokestatic 32, 3) := by decide +kernel
theorem dX4_add_16 : decode cX4_add 16 = .ok (.aload_n 1, 1) := by decide +kernel
theorem dX4_add_17 : decode cX4_add 17 = .ok (.iconst 1, 1) := by decide +kernel
theorem dX4_add_18 : decode cX4_add 18 = .ok (.putfield 43, 3) := by decide +kernel
theorem dX4_add_21 : decode cX4_add 21 = .ok (.aload_n 1, 1) := by decide +kernel
theorem dX4_add_22 : decode cX4_add 22 = .ok (.iload_n 2, 1) := by decide +kernel
set_option maxRecDepth 20000 in
theorem ggX4_add_X1_start : GoodIn wsX4_add wsX1_start := gup gc_X1_start
set_option maxRecDepth 20000 in
theorem gX4_add_X1_start : GoodIn wsX4_add (wsV RX4 47 RX1 yX1_start wsX1_start) := gup (glV hw_389 hw_390 hw_391 hw_331 gc_X1_start)
theorem dX4_add_23 : decode cX4_add 23 = .ok (.invokevirtual 47, 3) := by decide +kernel
theorem dX4_add_26 : decode cX4_add 26 = .ok (.iconst 0, 1) := by decide +kernel
theorem dX4_add_27 : decode cX4_add 27 = .ok (.istore_n 3, 1) := by decide +kernel
theorem dX4_add_167 : decode cX4_add 167 = .ok (.return_, 1) := by decide +kernel
def wW_X4_open (ak : Nat → ClassId) (ad : Nat → Nat) (hs : Nat) (sa : Nat → Nat) (Sof : Option Nat) (Sendless : Int32) (Soften : Nat → Int32) (Sby : Nat → Int32) (Speak : Nat → Int32) : va_W := [(hs, .inr (4, sob sa (Sof) (Sendless))), ((sa 0), .inl (ak 0, 16, .inl (Soften))), ((sa 1), .inl (ak 0, 16, .inl (Sby))), ((sa 2), .inl (ak 0, 16, .inl (Speak)))]
def wp_X4_open (pg : Nat) (Sof : Option Nat) (Sendless : Int32) (Soften : Nat → Int32) (Sby : Nat → Int32) (Speak : Nat → Int32) (Φ : Option Nat → Int32 → (Nat → Int32) → (Nat → Int32) → (Nat → Int32) → Prop) : Prop := wp_J7_fill_53178 16 0 Soften (fun Ar_2 => wp_J7_fill_53178 16 0 Sby (fun Ar_5 => wp_J7_fill_53178 16 0 Speak (fun Ar_8 => Φ (some pg) 0 Ar_2 Ar_5 Ar_8)))
set_option maxHeartbeats 4000000 in
set_option maxRecDepth 100000 in
theorem kj_X4_open_e {p : Program} {l : Launch} {e : Env} {R : Room} {s : State} {m : MethodId} {args : Array Value} {below : List Frame} {meth : Method} {c : Code} {cells slots : Nat} {Q : State → Prop} {A : Nat → Prop} {D : va_G} {ak : Nat → ClassId} {ad : Nat → Nat} (hx : p.tables.exec = Jvm.exec) (hb : c.code = cX4_open) (hown : s.vm.findClass RX4 = some m.cls) (hts : ∀ w ∈ wsX4_open, w.before args s = true) (hml : c.maxLocals = 2) (hE : EV D ak s) (hT : ST D ak ad A s s.heap) (hA : ∀ q, s.heap.size ≤ q → A q) (hRf : 1 ≤ R.frames) (hRl : 23 ≤ R.locals) (hRc : cells ≤ R.cells ∧ slots ≤ R.slots) (hs : Nat) (sa : Nat → Nat) (pg : Nat)  (Φ : Option Nat → Int32 → (Nat → Int32) → (Nat → Int32) → (Nat → Int32) → Prop)
    (kR34 : ∀ (Sof : Option Nat) (Sendless : Int32) (Soften : Nat → Int32) (Sby : Nat → Int32) (Speak : Nat → Int32) (H : Heap) (locs : List Loc) (ls : Array Slot), Φ Sof Sendless Soften Sby Speak → va_P D vwCl (wW_X4_open ak ad hs sa Sof Sendless Soften Sby Speak) H → va_D A (wW_X4_open ak ad hs sa Sof Sendless Soften Sby Speak) → va_S A s.heap H locs → W p l e R s m args below meth c H locs cells slots Q (F0 m 34 ls []))
    : ∀ (Sof : Option Nat) (Sendless : Int32) (Soften : Nat → Int32) (Sby : Nat → Int32) (Speak : Nat → Int32) (H : Heap) (locs : List Loc) (ls : Array Slot), wp_X4_open pg Sof Sendless Soften Sby Speak Φ → va_P D vwCl (wW_X4_open ak ad hs sa Sof Sendless Soften Sby Speak) H → va_D A (wW_X4_open ak ad hs sa Sof Sendless Soften Sby Speak) → va_S A s.heap H locs → lv_has ls 2 [(0, .ref hs), (1, .ref pg)] → W p l e R s m args below meth c H locs cells slots Q (F0 m 0 ls ([])) := by
  intro Sof Sendless Soften Sby Speak H locs ls hw hP hD hS hl
  delta wp_X4_open at hw
  refine lv_aload_n hx hb dX4_open_0 rfl (lv_at hl 0 rfl) ?_
  refine lv_aload_n hx hb dX4_open_1 rfl (lv_at hl 1 rfl) ?_
  refine vt_put (D := D) (ci := 4) (v := .ref pg) (ty := .object "WornLines$Programme") (C := RX4) (T := TX4) (N := 6) hx hb hts (fun w h => wm_c (wc_X4 w h)) tyX4 tyX4_ok nmX4 hown hE.1 hP hD hS 0 rfl rfl 0 (by decide) tX4_0 (hts (.fieldLink RX4 24 "WornLines$Survey" "of" "LWornLines$Programme;") (wm_c hw_376)) (fun _ h9 => h9) rfl pf_9 (rfl) rfl (Nat.le_of_ble_eq_true rfl) dX4_open_2 (fun H locs hP hD hS => ?_)
  have hP : va_P D vwCl (wW_X4_open ak ad hs sa (some pg) Sendless Soften Sby Speak) H := hP
  have hD : va_D A (wW_X4_open ak ad hs sa (some pg) Sendless Soften Sby Speak) := hD
  refine lv_aload_n hx hb dX4_open_5 rfl (lv_at hl 0 rfl) ?_
  refine lv_iconst (v := 0) hx hb dX4_open_6 (by decide) ?_
  refine vt_put (D := D) (ci := 4) (v := .int (0)) (ty := .boolean) (C := RX4) (T := TX4) (N := 6) hx hb hts (fun w h => wm_c (wc_X4 w h)) tyX4 tyX4_ok nmX4 hown hE.1 hP hD hS 0 rfl rfl 1 (by decide) tX4_1 (hts (.fieldLink RX4 28 "WornLines$Survey" "endless" "Z") (wm_c hw_377)) (fun _ h9 => h9) rfl pf_2 (rfl) rfl (Nat.le_of_ble_eq_true rfl) dX4_open_7 (fun H locs hP hD hS => ?_)
  have hP : va_P D vwCl (wW_X4_open ak ad hs sa (some pg) 0 Soften Sby Speak) H := hP
  have hD : va_D A (wW_X4_open ak ad hs sa (some pg) 0 Soften Sby Speak) := hD
  refine lv_aload_n hx hb dX4_open_10 rfl (lv_at hl 0 rfl) ?_
  refine vt_get (D := D) (ci := 4) (v := .ref (sa 0)) (C := RX4) (T := TX4) (N := 6) hx hb hts (fun w h => wm_c (wc_X4 w h)) hown hE.1 hP 0 rfl rfl 2 (by decide) tX4_2 (hts (.fieldLink RX4 9 "WornLines$Survey" "often" "[I") (wm_c hw_304)) (fun _ h9 => h9) rfl dX4_open_11 ?_
  refine lv_iconst (v := 0) hx hb dX4_open_14 (by decide) ?_
  refine kc_v (wc := (wW_J7_fill_53178 ak ad (sa 0) 16 Soften)) (wr := [(hs, .inr (4, sob sa (some pg) (0))), ((sa 1), .inl (ak 0, 16, .inl (Sby))), ((sa 2), .inl (ak 0, 16, .inl (Speak)))]) hP hD hS hA [1] [0, 2, 3] rfl rfl (by decide) (by decide) (va_runS (As := [.ref (sa 0), .int (0)]) (rest := []) ⟨hx, hb, hml, hown, hts⟩ (c_J7_fill_53178 l D ak ad _ (sa 0) 16 Soften 0 _ hw) (va_cwS 2 hts gX4_open_J7_fill_53178 rfl rfl rfl hz_J7_fill_53178 ⟨(Nat.le_trans (Nat.le_of_ble_eq_true rfl) hRf), (Nat.le_trans (Nat.le_of_ble_eq_true rfl) hRl)⟩) (kc_pre (As := [.ref (sa 0), .int (0)]) (wc := (wW_J7_fill_53178 ak ad (sa 0) 16 Soften)) hE hT hP hD hS hA [1] (by decide) rfl rfl) rfl rfl hl.1 rfl (lv_room (Nat.le_of_ble_eq_true rfl)) dX4_open_15 ⟨hRc.1, hRc.2⟩) (fun Ar_2 H locs hw hP hD hS => ?_)
  try dsimp -zeta only at hw
  have hP : va_P D vwCl (wW_X4_open ak ad hs sa (some pg) 0 Ar_2 Sby Speak) H := hP.sub [0, 3, 1, 2] rfl
  have hD : va_D A (wW_X4_open ak ad hs sa (some pg) 0 Ar_2 Sby Speak) := hD.sub [0, 3, 1, 2] (by decide) rfl
  refine lv_aload_n hx hb dX4_open_18 rfl (lv_at hl 0 rfl) ?_
  refine vt_get (D := D) (ci := 4) (v := .ref (sa 1)) (C := RX4) (T := TX4) (N := 6) hx hb hts (fun w h => wm_c (wc_X4 w h)) hown hE.1 hP 0 rfl rfl 3 (by decide) tX4_3 (hts (.fieldLink RX4 15 "WornLines$Survey" "by" "[I") (wm_c hw_305)) (fun _ h9 => h9) rfl dX4_open_19 ?_
  refine lv_iconst (v := 0) hx hb dX4_open_22 (by decide) ?_
  refine kc_v (wc := (wW_J7_fill_53178 ak ad (sa 1) 16 Sby)) (wr := [(hs, .inr (4, sob sa (some pg) (0))), ((sa 0), .inl (ak 0, 16, .inl (Ar_2))), ((sa 2), .inl (ak 0, 16, .inl (Speak)))]) hP hD hS hA [2] [0, 1, 3] rfl rfl (by decide) (by decide) (va_runS (As := [.ref (sa 1), .int (0)]) (rest := []) ⟨hx, hb, hml, hown, hts⟩ (c_J7_fill_53178 l D ak ad _ (sa 1) 16 Sby 0 _ hw) (va_cwS 2 hts gX4_open_J7_fill_53178 rfl rfl rfl hz_J7_fill_53178 ⟨(Nat.le_trans (Nat.le_of_ble_eq_true rfl) hRf), (Nat.le_trans (Nat.le_of_ble_eq_true rfl) hRl)⟩) (kc_pre (As := [.ref (sa 1), .int (0)]) (wc := (wW_J7_fill_53178 ak ad (sa 1) 16 Sby)) hE hT hP hD hS hA [2] (by decide) rfl rfl) rfl rfl hl.1 rfl (lv_room (Nat.le_of_ble_eq_true rfl)) dX4_open_23 ⟨hRc.1, hRc.2⟩) (fun Ar_5 H locs hw hP hD hS => ?_)
  try dsimp -zeta only at hw
  have hP : va_P D vwCl (wW_X4_open ak ad hs sa (some pg) 0 Ar_2 Ar_5 Speak) H := hP.sub [0, 1, 3, 2] rfl
  have hD : va_D A (wW_X4_open ak ad hs sa (some pg) 0 Ar_2 Ar_5 Speak) := hD.sub [0, 1, 3, 2] (by decide) rfl
  refine lv_aload_n hx hb dX4_open_26 rfl (lv_at hl 0 rfl) ?_
  refine vt_get (D := D) (ci := 4) (v := .ref (sa 2)) (C := RX4) (T := TX4) (N := 6) hx hb hts (fun w h => wm_c (wc_X4 w h)) hown hE.1 hP 0 rfl rfl 4 (by decide) tX4_4 (hts (.fieldLink RX4 18 "WornLines$Survey" "peak" "[I") (wm_c hw_306)) (fun _ h9 => h9) rfl dX4_open_27 ?_
  refine lv_iconst (v := 0) hx hb dX4_open_30 (by decide) ?_
  refine kc_v (wc := (wW_J7_fill_53178 ak ad (sa 2) 16 Speak)) (wr := [(hs, .inr (4, sob sa (some pg) (0))), ((sa 0), .inl (ak 0, 16, .inl (Ar_2))), ((sa 1), .inl (ak 0, 16, .inl (Ar_5)))]) hP hD hS hA [3] [0, 1, 2] rfl rfl (by decide) (by decide) (va_runS (As := [.ref (sa 2), .int (0)]) (rest := []) ⟨hx, hb, hml, hown, hts⟩ (c_J7_fill_53178 l D ak ad _ (sa 2) 16 Speak 0 _ hw) (va_cwS 2 hts gX4_open_J7_fill_53178 rfl rfl rfl hz_J7_fill_53178 ⟨(Nat.le_trans (Nat.le_of_ble_eq_true rfl) hRf), (Nat.le_trans (Nat.le_of_ble_eq_true rfl) hRl)⟩) (kc_pre (As := [.ref (sa 2), .int (0)]) (wc := (wW_J7_fill_53178 ak ad (sa 2) 16 Speak)) hE hT hP hD hS hA [3] (by decide) rfl rfl) rfl rfl hl.1 rfl (lv_room (Nat.le_of_ble_eq_true rfl)) dX4_open_31 ⟨hRc.1, hRc.2⟩) (fun Ar_8 H locs hw hP hD hS => ?_)
  try dsimp -zeta only at hw
  have hP : va_P D vwCl (wW_X4_open ak ad hs sa (some pg) 0 Ar_2 Ar_5 Ar_8) H := hP.sub [0, 1, 2, 3] rfl
  have hD : va_D A (wW_X4_open ak ad hs sa (some pg) 0 Ar_2 Ar_5 Ar_8) := hD.sub [0, 1, 2, 3] (by decide) rfl
  exact kR34 (some pg) 0 Ar_2 Ar_5 Ar_8 _ _ _ hw hP hD hS
set_option maxHeartbeats 4000000 in
set_option maxRecDepth 100000 in
theorem c_X4_open (l : Launch) (D : va_G) (ak : Nat → ClassId) (ad : Nat → Nat) (sz : Nat) (hs : Nat) (sa : Nat → Nat) (pg : Nat) (Sof : Option Nat) (Sendless : Int32) (Soften : Nat → Int32) (Sby : Nat → Int32) (Speak : Nat → Int32) (Φ : Option Nat → Int32 → (Nat → Int32) → (Nat → Int32) → (Nat → Int32) → Prop) (hf : wp_X4_open pg Sof Sendless Soften Sby Speak Φ) : Met l yX4_open wsX4_open ({ frames := 1, cells := 0, slots := 0, locals := 23 }) (cPre D ak ad [.ref hs, .ref pg] ((wW_X4_open ak ad hs sa Sof Sendless Soften Sby Speak)) sz) (cV D (S := (Option Nat) × (Int32) × (Nat → Int32) × (Nat → Int32) × (Nat → Int32)) (fun (u : (Option Nat) × (Int32) × (Nat → Int32) × (Nat → Int32) × (Nat → Int32)) => Φ u.1 u.2.1 u.2.2.1 u.2.2.2.1 u.2.2.2.2) (fun u => (wW_X4_open ak ad hs sa u.1 u.2.1 u.2.2.1 u.2.2.2.1 u.2.2.2.2)) ((wW_X4_open ak ad hs sa Sof Sendless Soften Sby Speak)) sz) 0 0 (va_A ((wW_X4_open ak ad hs sa Sof Sendless Soften Sby Speak)) sz) := by
  refine Met.ofW (cc := cX4_open) (maxL := 2) (ret := none) (by decide) rfl ?_
  intro p e s m args below meth c s₁ B hml hv
  obtain ⟨rfl, hsz, hP, hE, hD0, hT⟩ := hv
  have hx := B.exec
  have hb := B.bytes
  have hr := B.returns
  have hts := atoms_spec (ws := wsX4_open) B.pre
  have hown : s.vm.findClass RX4 = some m.cls := findClass_of_methodNamed B.named
  have hlocks := B.notSynchronized
  subst hsz
  have hD := hD0.self (sz := s.heap.size)
  generalize hAe : va_A ((wW_X4_open ak ad hs sa Sof Sendless Soften Sby Speak)) s.heap.size = A at hD hT ⊢
  have hA : ∀ q : Nat, s.heap.size ≤ q → A q := fun q h => by rw [← hAe]; exact Or.inr h
  have hS : va_S A s.heap s.heap [] := va_S.rf
  have hl := lv_entry ([.ref hs, .ref pg]) (n := 2) (Nat.le_of_ble_eq_true rfl)
  rw [lg_entry_eq]
  generalize (lg_sl ([.ref hs, .ref pg]) ++ List.replicate (2 - (lg_sl ([.ref hs, .ref pg])).length) Slot.unset).toArray = ls at hl ⊢
  have hl : lv_has ls 2 [(0, .ref hs), (1, .ref pg)] := hl
  exact kj_X4_open_e hx hb hown hts hml hE hT hA (Nat.le_of_ble_eq_true rfl) (Nat.le_of_ble_eq_true rfl) ⟨Nat.le_of_ble_eq_true rfl, Nat.le_of_ble_eq_true rfl⟩ hs sa pg Φ (fun Sof Sendless Soften Sby Speak H locs ls hw hP hD hS => W.vret hx hb hr (fun t ht hW => ⟨⟨(Sof, Sendless, Soften, Sby, Speak), rfl, hw, by rw [ht]; exact hP, by rw [hAe]; exact hD⟩, by rw [hAe]; exact hS.F ht⟩) hS.2.2 dX4_open_34) Sof Sendless Soften Sby Speak _ _ _ hf hP hD hS hl

def wW_X4_add (ak : Nat → ClassId) (ad : Nat → Nat) (hs : Nat) (sa : Nat → Nat) (h : Nat) (mm : Nat → Nat) (pg : Nat) (kn : Nat) (Sof : Option Nat) (Sendless : Int32) (Soften : Nat → Int32) (Sby : Nat → Int32) (Speak : Nat → Int32) (Sover : Nat → Int32) (Mway : Int32) (Mstate : Int32) (Mnext : Int32) (Msteps : Int32) (Mwritten : Int32) (Mstuffs : Nat → Int32) (Mtwins : Nat → Int32) (Mworn : Nat → Int32) (Mcells : Nat → Int32) (Mkept : Nat → Int32) (Mstack : Nat → Int32) : va_W := [(hs, .inr (4, sob sa (Sof) (Sendless))), ((sa 0), .inl (ak 0, 16, .inl (Soften))), ((sa 1), .inl (ak 0, 16, .inl (Sby))), ((sa 2), .inl (ak 0, 16, .inl (Speak))), ((sa 3), .inl (ak 0, 16, .inl (Sover))), (h, .inr (1, xob mm (pg) (Mway) (Mstate) (Mnext) (Msteps) (Mwritten))), ((mm 0), .inl (ak 0, 16, .inl (Mstuffs))), ((mm 1), .inl (ak 0, 16, .inl (Mtwins))), ((mm 2), .inl (ak 0, 16, .inl (Mworn))), ((mm 3), .inl (ak 0, 6, .inl (Mcells))), ((mm 4), .inl (ak 0, kn, .inl (Mkept))), ((mm 5), .inl (ak 0, 32, .inl (Mstack)))]
def wK_X4_add (ak : Nat → ClassId) (ad : Nat → Nat) (pg : Nat) (pa : Nat → Nat) (cl : Nat) (Pst : Int32) (Pce : Int32) (Pgi : Int32) (Pln : Int32) (Pbears : Nat → Int32) (Ptold : Nat → Int32) (PgivenC : Nat → Int32) (Pleast : Nat → Int32) (Pgreat : Nat → Int32) (Pact : Nat → Int32) (Ptarget : Nat → Int32) (Pfrom : Nat → Int32) (Pmiddle : Nat → Int32) (Pend : Nat → Int32) (Pcode : Nat → Int32) : va_W := [(pg, .inr (2, pob pa (Pst) (Pce) (Pgi) (Pln))), ((pa 0), .inl (ak 0, 4, .inl (Pbears))), ((pa 2), .inl (ak 0, 6, .inl (Ptold))), ((pa 3), .inl (ak 0, 2, .inl (PgivenC))), ((pa 4), .inl (ak 0, 2, .inl (Pleast))), ((pa 5), .inl (ak 0, 2, .inl (Pgreat))), ((pa 6), .inl (ak 0, 16, .inl (Pact))), ((pa 8), .inl (ak 0, 16, .inl (Ptarget))), ((pa 9), .inl (ak 0, 16, .inl (Pfrom))), ((pa 10), .inl (ak 0, 16, .inl (Pmiddle))), ((pa 11), .inl (ak 0, 16, .inl (Pend))), ((pa 12), .inl (ak 0, cl, .inl (Pcode)))]
def lb_X4_add_116 (Mstuffs : Nat → Int32) (Mtwins : Nat → Int32) (Pce : Int32) (Pgi : Int32) (Pln : Int32) (Pbears : Nat → Int32) (Ptold : Nat → Int32) (PgivenC : Nat → Int32) (Pleast : Nat → Int32) (Pgreat : Nat → Int32) (Pact : Nat → Int32) (Ptarget : Nat → Int32) (Pfrom : Nat → Int32) (Pmiddle : Nat → Int32) (Pend : Nat → Int32) (Pcode : Nat → Int32) (kn : Nat) (cl : Nat) (xi : Int32)  (Φ : Int32 → (Nat → Int32) → (Nat → Int32) → (Nat → Int32) → (Nat → Int32) → Int32 → Int32 → Int32 → Int32 → Int32 → (Nat → Int32) → (Nat → Int32) → (Nat → Int32) → (Nat → Int32) → Prop) (back : Int32 → (Nat → Int32) → (Nat → Int32) → (Nat → Int32) → (Nat → Int32) → Int32 → Int32 → Int32 → Int32 → Int32 → (Nat → Int32) → (Nat → Int32) → (Nat → Int32) → (Nat → Int32) → Int32 → Prop) (Sendless : Int32) (Soften : Nat → Int32) (Sby : Nat → Int32) (Speak : Nat → Int32) (Sover : Nat → Int32) (Mway : Int32) (Mstate : Int32) (Mnext : Int32) (Msteps : Int32) (Mwritten : Int32) (Mworn : Nat → Int32) (Mcells : Nat → Int32) (Mkept : Nat → Int32) (Mstack : Nat → Int32) (l3 : Int32) : Prop := (Pln ≤ l3 → Φ Sendless Soften Sby Speak Sover Mway Mstate Mnext Msteps Mwritten Mworn Mcells Mkept Mstack) ∧ (¬ Pln ≤ l3 → vp_in l3 16 ∧ vp_in l3 16 ∧ ((Sover (l3).toNatClampNeg) ≤ (Soften (l3).toNatClampNeg) → back Sendless Soften Sby Speak Sover Mway Mstate Mnext Msteps Mwritten Mworn Mcells Mkept Mstack (l3 + 1)) ∧ (¬ (Sover (l3).toNatClampNeg) ≤ (Soften (l3).toNatClampNeg) → vp_in l3 16 ∧ vp_in l3 16 ∧ vp_in l3 16 ∧ back Sendless (upd Soften (l3).toNatClampNeg ((Sover (l3).toNatClampNeg))) (upd Sby (l3).toNatClampNeg xi) Speak Sover Mway Mstate Mnext Msteps Mwritten Mworn Mcells Mkept Mstack (l3 + 1)))
def lf_X4_add_116 (Mstuffs : Nat → Int32) (Mtwins : Nat → Int32) (Pce : Int32) (Pgi : Int32) (Pln : Int32) (Pbears : Nat → Int32) (Ptold : Nat → Int32) (PgivenC : Nat → Int32) (Pleast : Nat → Int32) (Pgreat : Nat → Int32) (Pact : Nat → Int32) (Ptarget : Nat → Int32) (Pfrom : Nat → Int32) (Pmiddle : Nat → Int32) (Pend : Nat → Int32) (Pcode : Nat → Int32) (kn : Nat) (cl : Nat) (xi : Int32)  (Φ : Int32 → (Nat → Int32) → (Nat → Int32) → (Nat → Int32) → (Nat → Int32) → Int32 → Int32 → Int32 → Int32 → Int32 → (Nat → Int32) → (Nat → Int32) → (Nat → Int32) → (Nat → Int32) → Prop) : Nat → Int32 → (Nat → Int32) → (Nat → Int32) → (Nat → Int32) → (Nat → Int32) → Int32 → Int32 → Int32 → Int32 → Int32 → (Nat → Int32) → (Nat → Int32) → (Nat → Int32) → (Nat → Int32) → Int32 → Prop
  | 0, _, _, _, _, _, _, _, _, _, _, _, _, _, _, _ => False
  | n_ + 1, Sendless, Soften, Sby, Speak, Sover, Mway, Mstate, Mnext, Msteps, Mwritten, Mworn, Mcells, Mkept, Mstack, l3 => lb_X4_add_116 Mstuffs Mtwins Pce Pgi Pln Pbears Ptold PgivenC Pleast Pgreat Pact Ptarget Pfrom Pmiddle Pend Pcode kn cl xi  Φ (lf_X4_add_116 Mstuffs Mtwins Pce Pgi Pln Pbears Ptold PgivenC Pleast Pgreat Pact Ptarget Pfrom Pmiddle Pend Pcode kn cl xi  Φ n_) Sendless Soften Sby Speak Sover Mway Mstate Mnext Msteps Mwritten Mworn Mcells Mkept Mstack l3
theorem li_X4_add_116 (Mstuffs : Nat → Int32) (Mtwins : Nat → Int32) (Pce : Int32) (Pgi : Int32) (Pln : Int32) (Pbears : Nat → Int32) (Ptold : Nat → Int32) (PgivenC : Nat → Int32) (Pleast : Nat → Int32) (Pgreat : Nat → Int32) (Pact : Nat → Int32) (Ptarget : Nat → Int32) (Pfrom : Nat → Int32) (Pmiddle : Nat → Int32) (Pend : Nat → Int32) (Pcode : Nat → Int32) (kn : Nat) (cl : Nat) (xi : Int32)  (Φ : Int32 → (Nat → Int32) → (Nat → Int32) → (Nat → Int32) → (Nat → Int32) → Int32 → Int32 → Int32 → Int32 → Int32 → (Nat → Int32) → (Nat → Int32) → (Nat → Int32) → (Nat → Int32) → Prop) (Inv : Int32 → (Nat → Int32) → (Nat → Int32) → (Nat → Int32) → (Nat → Int32) → Int32 → Int32 → Int32 → Int32 → Int32 → (Nat → Int32) → (Nat → Int32) → (Nat → Int32) → (Nat → Int32) → Int32 → Prop) (mu : Int32 → (Nat → Int32) → (Nat → Int32) → (Nat → Int32) → (Nat → Int32) → Int32 → Int32 → Int32 → Int32 → Int32 → (Nat → Int32) → (Nat → Int32) → (Nat → Int32) → (Nat → Int32) → Int32 → Nat) (hs : ∀ (back : Int32 → (Nat → Int32) → (Nat → Int32) → (Nat → Int32) → (Nat → Int32) → Int32 → Int32 → Int32 → Int32 → Int32 → (Nat → Int32) → (Nat → Int32) → (Nat → Int32) → (Nat → Int32) → Int32 → Prop) (Sendless : Int32) (Soften : Nat → Int32) (Sby : Nat → Int32) (Speak : Nat → Int32) (Sover : Nat → Int32) (Mway : Int32) (Mstate : Int32) (Mnext : Int32) (Msteps : Int32) (Mwritten : Int32) (Mworn : Nat → Int32) (Mcells : Nat → Int32) (Mkept : Nat → Int32) (Mstack : Nat → Int32) (l3 : Int32), Inv Sendless Soften Sby Speak Sover Mway Mstate Mnext Msteps Mwritten Mworn Mcells Mkept Mstack l3 → (∀ (Sendless' : Int32) (Soften' : Nat → Int32) (Sby' : Nat → Int32) (Speak' : Nat → Int32) (Sover' : Nat → Int32) (Mway' : Int32) (Mstate' : Int32) (Mnext' : Int32) (Msteps' : Int32) (Mwritten' : Int32) (Mworn' : Nat → Int32) (Mcells' : Nat → Int32) (Mkept' : Nat → Int32) (Mstack' : Nat → Int32) (l3' : Int32), Inv Sendless' Soften' Sby' Speak' Sover' Mway' Mstate' Mnext' Msteps' Mwritten' Mworn' Mcells' Mkept' Mstack' l3' → mu Sendless' Soften' Sby' Speak' Sover' Mway' Mstate' Mnext' Msteps' Mwritten' Mworn' Mcells' Mkept' Mstack' l3' < mu Sendless Soften Sby Speak Sover Mway Mstate Mnext Msteps Mwritten Mworn Mcells Mkept Mstack l3 → back Sendless' Soften' Sby' Speak' Sover' Mway' Mstate' Mnext' Msteps' Mwritten' Mworn' Mcells' Mkept' Mstack' l3') → lb_X4_add_116 Mstuffs Mtwins Pce Pgi Pln Pbears Ptold PgivenC Pleast Pgreat Pact Ptarget Pfrom Pmiddle Pend Pcode kn cl xi  Φ back Sendless Soften Sby Speak Sover Mway Mstate Mnext Msteps Mwritten Mworn Mcells Mkept Mstack l3) : ∀ (n_ : Nat) (Sendless : Int32) (Soften : Nat → Int32) (Sby : Nat → Int32) (Speak : Nat → Int32) (Sover : Nat → Int32) (Mway : Int32) (Mstate : Int32) (Mnext : Int32) (Msteps : Int32) (Mwritten : Int32) (Mworn : Nat → Int32) (Mcells : Nat → Int32) (Mkept : Nat → Int32) (Mstack : Nat → Int32) (l3 : Int32), Inv Sendless Soften Sby Speak Sover Mway Mstate Mnext Msteps Mwritten Mworn Mcells Mkept Mstack l3 → mu Sendless Soften Sby Speak Sover Mway Mstate Mnext Msteps Mwritten Mworn Mcells Mkept Mstack l3 < n_ → lf_X4_add_116 Mstuffs Mtwins Pce Pgi Pln Pbears Ptold PgivenC Pleast Pgreat Pact Ptarget Pfrom Pmiddle Pend Pcode kn cl xi  Φ n_ Sendless Soften Sby Speak Sover Mway Mstate Mnext Msteps Mwritten Mworn Mcells Mkept Mstack l3 := by
  intro n_
  induction n_ with
  | zero => intro Sendless Soften Sby Speak Sover Mway Mstate Mnext Msteps Mwritten Mworn Mcells Mkept Mstack l3 _ h; exact absurd h (Nat.not_lt_zero _)
  | succ n_ ih => intro Sendless Soften Sby Speak Sover Mway Mstate Mnext Msteps Mwritten Mworn Mcells Mkept Mstack l3 hI hm; exact hs _ Sendless Soften Sby Speak Sover Mway Mstate Mnext Msteps Mwritten Mworn Mcells Mkept Mstack l3 hI (fun Sendless' Soften' Sby' Speak' Sover' Mway' Mstate' Mnext' Msteps' Mwritten' Mworn' Mcells' Mkept' Mstack' l3' h1 h2 => ih Sendless' Soften' Sby' Speak' Sover' Mway' Mstate' Mnext' Msteps' Mwritten' Mworn' Mcells' Mkept' Mstack' l3' h1 (by omega))
set_option maxHeartbeats 4000000 in
set_option maxRecDepth 100000 in
theorem lp_X4_add_116 {p : Program} {l : Launch} {e : Env} {R : Room} {s : State} {m : MethodId} {args : Array Value} {below : List Frame} {meth : Method} {c : Code} {cells slots : Nat} {Q : State → Prop} {A : Nat → Prop} {D : va_G} {ak : Nat → ClassId} {ad : Nat → Nat} (hx : p.tables.exec = Jvm.exec) (hb : c.code = cX4_add) (hown : s.vm.findClass RX4 = some m.cls) (hts : ∀ w ∈ wsX4_add, w.before args s = true) (hml : c.maxLocals = 5) (hE : EV D ak s) (hT : ST D ak ad A s s.heap) (hA : ∀ q, s.heap.size ≤ q → A q) (hRf : 4 ≤ R.frames) (hRl : 92 ≤ R.locals) (hRc : cells ≤ R.cells ∧ slots ≤ R.slots) (hs : Nat) (sa : Nat → Nat) (h : Nat) (mm : Nat → Nat) (pg : Nat) (pa : Nat → Nat) (kn : Nat) (cl : Nat) (Sof : Option Nat) (Mstuffs : Nat → Int32) (Mtwins : Nat → Int32) (Pst : Int32) (Pce : Int32) (Pgi : Int32) (Pln : Int32) (Pbears : Nat → Int32) (Ptold : Nat → Int32) (PgivenC : Nat → Int32) (Pleast : Nat → Int32) (Pgreat : Nat → Int32) (Pact : Nat → Int32) (Ptarget : Nat → Int32) (Pfrom : Nat → Int32) (Pmiddle : Nat → Int32) (Pend : Nat → Int32) (Pcode : Nat → Int32) (xi : Int32) (hKT : KT D A (wK_X4_add ak ad pg pa cl Pst Pce Pgi Pln Pbears Ptold PgivenC Pleast Pgreat Pact Ptarget Pfrom Pmiddle Pend Pcode) s.heap)  (Φ : Int32 → (Nat → Int32) → (Nat → Int32) → (Nat → Int32) → (Nat → Int32) → Int32 → Int32 → Int32 → Int32 → Int32 → (Nat → Int32) → (Nat → Int32) → (Nat → Int32) → (Nat → Int32) → Prop)
    (kR167 : ∀ (Sendless : Int32) (Soften : Nat → Int32) (Sby : Nat → Int32) (Speak : Nat → Int32) (Sover : Nat → Int32) (Mway : Int32) (Mstate : Int32) (Mnext : Int32) (Msteps : Int32) (Mwritten : Int32) (Mworn : Nat → Int32) (Mcells : Nat → Int32) (Mkept : Nat → Int32) (Mstack : Nat → Int32) (H : Heap) (locs : List Loc) (ls : Array Slot), Φ Sendless Soften Sby Speak Sover Mway Mstate Mnext Msteps Mwritten Mworn Mcells Mkept Mstack → va_P D vwCl (wW_X4_add ak ad hs sa h mm pg kn Sof Sendless Soften Sby Speak Sover Mway Mstate Mnext Msteps Mwritten Mstuffs Mtwins Mworn Mcells Mkept Mstack) H → va_D A (wW_X4_add ak ad hs sa h mm pg kn Sof Sendless Soften Sby Speak Sover Mway Mstate Mnext Msteps Mwritten Mstuffs Mtwins Mworn Mcells Mkept Mstack) → va_S A s.heap H locs → W p l e R s m args below meth c H locs cells slots Q (F0 m 167 ls []))
    : ∀ (n_ : Nat) (Sendless : Int32) (Soften : Nat → Int32) (Sby : Nat → Int32) (Speak : Nat → Int32) (Sover : Nat → Int32) (Mway : Int32) (Mstate : Int32) (Mnext : Int32) (Msteps : Int32) (Mwritten : Int32) (Mworn : Nat → Int32) (Mcells : Nat → Int32) (Mkept : Nat → Int32) (Mstack : Nat → Int32) (l3 : Int32) (H : Heap) (locs : List Loc) (ls : Array Slot), lf_X4_add_116 Mstuffs Mtwins Pce Pgi Pln Pbears Ptold PgivenC Pleast Pgreat Pact Ptarget Pfrom Pmiddle Pend Pcode kn cl xi  Φ n_ Sendless Soften Sby Speak Sover Mway Mstate Mnext Msteps Mwritten Mworn Mcells Mkept Mstack l3 → va_P D vwCl (wW_X4_add ak ad hs sa h mm pg kn Sof Sendless Soften Sby Speak Sover Mway Mstate Mnext Msteps Mwritten Mstuffs Mtwins Mworn Mcells Mkept Mstack) H → va_D A (wW_X4_add ak ad hs sa h mm pg kn Sof Sendless Soften Sby Speak Sover Mway Mstate Mnext Msteps Mwritten Mstuffs Mtwins Mworn Mcells Mkept Mstack) → va_S A s.heap H locs → lv_has ls 5 [(0, .ref hs), (1, .ref h), (2, .int (xi)), (3, .int (l3))] → W p l e R s m args below meth c H locs cells slots Q (F0 m 116 ls ([])) := by
  have hCW : ∀ {H : Heap} {locs : List Loc}, va_S A s.heap H locs → va_P D vwCl (wK_X4_add ak ad pg pa cl Pst Pce Pgi Pln Pbears Ptold PgivenC Pleast Pgreat Pact Ptarget Pfrom Pmiddle Pend Pcode) H := fun hS => (hKT.kept hS.2.1).1
  intro n_
  induction n_ with
  | zero =>
    intro Sendless Soften Sby Speak Sover Mway Mstate Mnext Msteps Mwritten Mworn Mcells Mkept Mstack l3 H locs ls hw
    exact hw.elim
  | succ n_ ih =>
    intro Sendless Soften Sby Speak Sover Mway Mstate Mnext Msteps Mwritten Mworn Mcells Mkept Mstack l3 H locs ls hw hP hD hS hl
    have hw : lb_X4_add_116 Mstuffs Mtwins Pce Pgi Pln Pbears Ptold PgivenC Pleast Pgreat Pact Ptarget Pfrom Pmiddle Pend Pcode kn cl xi  Φ (lf_X4_add_116 Mstuffs Mtwins Pce Pgi Pln Pbears Ptold PgivenC Pleast Pgreat Pact Ptarget Pfrom Pmiddle Pend Pcode kn cl xi  Φ n_) Sendless Soften Sby Speak Sover Mway Mstate Mnext Msteps Mwritten Mworn Mcells Mkept Mstack l3 := hw
    delta lb_X4_add_116 at hw
    refine lv_iload_n hx hb dX4_add_116 rfl (lv_at hl 3 rfl) ?_
    refine lv_aload_n hx hb dX4_add_117 rfl (lv_at hl 1 rfl) ?_
    refine vt_get (D := D) (ci := 1) (v := .ref pg) (C := RX1) (T := TX1) (N := 12) hx hb hts (fun w h => wm_c (wc_X1 w h)) hown hE.1 hP 5 rfl rfl 0 (by decide) tX1_0 (hts (.fieldLink RX4 54 "WornLines$Machine" "programme" "LWornLines$Programme;") (wm_c hw_378)) (fun _ h9 => h9) rfl dX4_add_118 ?_
    refine vt_get (D := D) (ci := 2) (v := .int (Pln)) (C := RX2) (T := TX2) (N := 17) hx hb hts (fun w h => wm_c (wc_X2 w h)) hown hE.1 (hCW hS) 0 rfl rfl 9 (by decide) tX2_9 (hts (.fieldLink RX4 57 "WornLines$Programme" "lines" "I") (wm_c hw_379)) (fun _ h9 => h9) rfl dX4_add_121 ?_
    refine lv_icmp_ge (tgt := 167) hx hb dX4_add_124 (by decide) (fun c_18 => ?_) (fun c_18 => ?_)
    · replace hw := hw.1 c_18
      exact kR167 Sendless Soften Sby Speak Sover Mway Mstate Mnext Msteps Mwritten Mworn Mcells Mkept Mstack _ _ _ hw hP hD hS
    · replace hw := hw.2 c_18
      refine lv_aload_n hx hb dX4_add_127 rfl (lv_at hl 0 rfl) ?_
      refine va_get (D := D) (ci := 4) (v := .ref (sa 3)) (C := RX4) (T := TX4) (N := 6) hx hb hts (fun w h => wm_c (wc_X4 w h)) hown hE.1 hP 0 rfl rfl 5 (by decide) (hts (.fieldLink RX4 21 "WornLines$Survey" "over" "[I") (wm_c hw_307)) (fun _ h9 => h9) rfl dX4_add_128 ?_
      refine lv_iload_n hx hb dX4_add_131 rfl (lv_at hl 3 rfl) ?_
      obtain ⟨h_19, hw⟩ := hw
      refine va_iald hx hb hE.1 hP 4 0 rfl rfl (h_19) dX4_add_132 ?_
      refine lv_aload_n hx hb dX4_add_133 rfl (lv_at hl 0 rfl) ?_
      refine vt_get (D := D) (ci := 4) (v := .ref (sa 0)) (C := RX4) (T := TX4) (N := 6) hx hb hts (fun w h => wm_c (wc_X4 w h)) hown hE.1 hP 0 rfl rfl 2 (by decide) tX4_2 (hts (.fieldLink RX4 9 "WornLines$Survey" "often" "[I") (wm_c hw_304)) (fun _ h9 => h9) rfl dX4_add_134 ?_
      refine lv_iload_n hx hb dX4_add_137 rfl (lv_at hl 3 rfl) ?_
      obtain ⟨h_20, hw⟩ := hw
      refine va_iald hx hb hE.1 hP 1 0 rfl rfl (h_20) dX4_add_138 ?_
      refine lv_icmp_le (tgt := 161) hx hb dX4_add_139 (by decide) (fun c_21 => ?_) (fun c_21 => ?_)
      · replace hw := hw.1 c_21
        refine lv_iinc (v := (l3 + 1)) (lv' := [(3, .int (l3 + 1)), (0, .ref hs), (1, .ref h), (2, .int (xi))]) hx hb dX4_add_161 hl (k := 3) rfl (rfl) (by decide) rfl (fun ls hl => ?_)
        refine lv_goto (tgt := 116) hx hb dX4_add_164 (by decide) ?_
        exact ih Sendless Soften Sby Speak Sover Mway Mstate Mnext Msteps Mwritten Mworn Mcells Mkept Mstack (l3 + 1) _ _ _ hw hP hD hS (lv_sub hl [1, 2, 3, 0] rfl)
      · replace hw := hw.2 c_21
        refine lv_aload_n hx hb dX4_add_142 rfl (lv_at hl 0 rfl) ?_
        refine vt_get (D := D) (ci := 4) (v := .ref (sa 0)) (C := RX4) (T := TX4) (N := 6) hx hb hts (fun w h => wm_c (wc_X4 w h)) hown hE.1 hP 0 rfl rfl 2 (by decide) tX4_2 (hts (.fieldLink RX4 9 "WornLines$Survey" "often" "[I") (wm_c hw_304)) (fun _ h9 => h9) rfl dX4_add_143 ?_
        refine lv_iload_n hx hb dX4_add_146 rfl (lv_at hl 3 rfl) ?_
        refine lv_aload_n hx hb dX4_add_147 rfl (lv_at hl 0 rfl) ?_
        refine va_get (D := D) (ci := 4) (v := .ref (sa 3)) (C := RX4) (T := TX4) (N := 6) hx hb hts (fun w h => wm_c (wc_X4 w h)) hown hE.1 hP 0 rfl rfl 5 (by decide) (hts (.fieldLink RX4 21 "WornLines$Survey" "over" "[I") (wm_c hw_307)) (fun _ h9 => h9) rfl dX4_add_148 ?_
        refine lv_iload_n hx hb dX4_add_151 rfl (lv_at hl 3 rfl) ?_
        obtain ⟨h_22, hw⟩ := hw
        refine va_iald hx hb hE.1 hP 4 0 rfl rfl (h_22) dX4_add_152 ?_
        obtain ⟨h_23, hw⟩ := hw
        refine va_iast hx hb hE.1 hP hD hS 1 0 rfl rfl (h_23) dX4_add_153 (fun H locs hP hD hS => ?_)
        have hP : va_P D vwCl (wW_X4_add ak ad hs sa h mm pg kn Sof Sendless (upd Soften (l3).toNatClampNeg ((Sover (l3).toNatClampNeg))) Sby Speak Sover Mway Mstate Mnext Msteps Mwritten Mstuffs Mtwins Mworn Mcells Mkept Mstack) H := hP
        have hD : va_D A (wW_X4_add ak ad hs sa h mm pg kn Sof Sendless (upd Soften (l3).toNatClampNeg ((Sover (l3).toNatClampNeg))) Sby Speak Sover Mway Mstate Mnext Msteps Mwritten Mstuffs Mtwins Mworn Mcells Mkept Mstack) := hD
        refine lv_aload_n hx hb dX4_add_154 rfl (lv_at hl 0 rfl) ?_
        refine vt_get (D := D) (ci := 4) (v := .ref (sa 1)) (C := RX4) (T := TX4) (N := 6) hx hb hts (fun w h => wm_c (wc_X4 w h)) hown hE.1 hP 0 rfl rfl 3 (by decide) tX4_3 (hts (.fieldLink RX4 15 "WornLines$Survey" "by" "[I") (wm_c hw_305)) (fun _ h9 => h9) rfl dX4_add_155 ?_
        refine lv_iload_n hx hb dX4_add_158 rfl (lv_at hl 3 rfl) ?_
        refine lv_iload_n hx hb dX4_add_159 rfl (lv_at hl 2 rfl) ?_
        obtain ⟨h_24, hw⟩ := hw
        refine va_iast hx hb hE.1 hP hD hS 2 0 rfl rfl (h_24) dX4_add_160 (fun H locs hP hD hS => ?_)
        have hP : va_P D vwCl (wW_X4_add ak ad hs sa h mm pg kn Sof Sendless (upd Soften (l3).toNatClampNeg ((Sover (l3).toNatClampNeg))) (upd Sby (l3).toNatClampNeg xi) Speak Sover Mway Mstate Mnext Msteps Mwritten Mstuffs Mtwins Mworn Mcells Mkept Mstack) H := hP
        have hD : va_D A (wW_X4_add ak ad hs sa h mm pg kn Sof Sendless (upd Soften (l3).toNatClampNeg ((Sover (l3).toNatClampNeg))) (upd Sby (l3).toNatClampNeg xi) Speak Sover Mway Mstate Mnext Msteps Mwritten Mstuffs Mtwins Mworn Mcells Mkept Mstack) := hD
        refine lv_iinc (v := (l3 + 1)) (lv' := [(3, .int (l3 + 1)), (0, .ref hs), (1, .ref h), (2, .int (xi))]) hx hb dX4_add_161 hl (k := 3) rfl (rfl) (by decide) rfl (fun ls hl => ?_)
        refine lv_goto (tgt := 116) hx hb dX4_add_164 (by decide) ?_
        exact ih Sendless (upd Soften (l3).toNatClampNeg ((Sover (l3).toNatClampNeg))) (upd Sby (l3).toNatClampNeg xi) Speak Sover Mway Mstate Mnext Msteps Mwritten Mworn Mcells Mkept Mstack (l3 + 1) _ _ _ hw hP hD hS (lv_sub hl [1, 2, 3, 0] rfl)

def lb_X4_add_28 (Mstuffs : Nat → Int32) (Mtwins : Nat → Int32) (Pce : Int32) (Pgi : Int32) (Pln : Int32) (Pbears : Nat → Int32) (Ptold : Nat → Int32) (PgivenC : Nat → Int32) (Pleast : Nat → Int32) (Pgreat : Nat → Int32) (Pact : Nat → Int32) (Ptarget : Nat → Int32) (Pfrom : Nat → Int32) (Pmiddle : Nat → Int32) (Pend : Nat → Int32) (Pcode : Nat → Int32) (kn : Nat) (cl : Nat) (xi : Int32)  (Φ : Int32 → (Nat → Int32) → (Nat → Int32) → (Nat → Int32) → (Nat → Int32) → Int32 → Int32 → Int32 → Int32 → Int32 → (Nat → Int32) → (Nat → Int32) → (Nat → Int32) → (Nat → Int32) → Prop) (back : Int32 → (Nat → Int32) → (Nat → Int32) → (Nat → Int32) → (Nat → Int32) → Int32 → Int32 → Int32 → Int32 → Int32 → (Nat → Int32) → (Nat → Int32) → (Nat → Int32) → (Nat → Int32) → Int32 → Prop) (Sendless : Int32) (Soften : Nat → Int32) (Sby : Nat → Int32) (Speak : Nat → Int32) (Sover : Nat → Int32) (Mway : Int32) (Mstate : Int32) (Mnext : Int32) (Msteps : Int32) (Mwritten : Int32) (Mworn : Nat → Int32) (Mcells : Nat → Int32) (Mkept : Nat → Int32) (Mstack : Nat → Int32) (l3 : Int32) : Prop := (1000 ≤ l3 → wp_X1_isEndless Mstate (fun r_16 => (r_16 = 0 ∨ r_16 = 1) ∧ (∃ n_, lf_X4_add_116 Mstuffs Mtwins Pce Pgi Pln Pbears Ptold PgivenC Pleast Pgreat Pact Ptarget Pfrom Pmiddle Pend Pcode kn cl xi  Φ n_ r_16 Soften Sby Speak Sover Mway Mstate Mnext Msteps Mwritten Mworn Mcells Mkept Mstack 0))) ∧ (¬ 1000 ≤ l3 → wp_X7_within Mnext Pln (fun r_26 => (r_26 = 0 → wp_X1_isEndless Mstate (fun r_29 => (r_29 = 0 ∨ r_29 = 1) ∧ (∃ n_, lf_X4_add_116 Mstuffs Mtwins Pce Pgi Pln Pbears Ptold PgivenC Pleast Pgreat Pact Ptarget Pfrom Pmiddle Pend Pcode kn cl xi  Φ n_ r_29 Soften Sby Speak Sover Mway Mstate Mnext Msteps Mwritten Mworn Mcells Mkept Mstack 0))) ∧ (¬ r_26 = 0 → vp_in Mnext 16 ∧ vp_in Mnext 16 ∧ vp_in Mnext 16 ∧ vp_in Mnext 16 ∧ vp_in Mnext 16 ∧ wp_X1_step Mway Mstuffs Mtwins Pln Pbears Pact Ptarget Pfrom Pmiddle Pend Pcode kn cl Mstate Mnext Msteps Mwritten Mworn Mcells Mkept Mstack (fun r_45 Mstate_37 Mnext_38 Msteps_39 Mwritten_40 Mworn_41 Mcells_42 Mkept_43 Mstack_44 => back Sendless Soften Sby (upd Speak (Mnext).toNatClampNeg ((if (Speak (Mnext).toNatClampNeg) < ((Mworn (Mnext).toNatClampNeg) + 1) then ((Mworn (Mnext).toNatClampNeg) + 1) else (Speak (Mnext).toNatClampNeg)))) (upd Sover (Mnext).toNatClampNeg (((Sover (Mnext).toNatClampNeg) + 1))) Mway Mstate_37 Mnext_38 Msteps_39 Mwritten_40 Mworn_41 Mcells_42 Mkept_43 Mstack_44 (l3 + 1)))))
def lf_X4_add_28 (Mstuffs : Nat → Int32) (Mtwins : Nat → Int32) (Pce : Int32) (Pgi : Int32) (Pln : Int32) (Pbears : Nat → Int32) (Ptold : Nat → Int32) (PgivenC : Nat → Int32) (Pleast : Nat → Int32) (Pgreat : Nat → Int32) (Pact : Nat → Int32) (Ptarget : Nat → Int32) (Pfrom : Nat → Int32) (Pmiddle : Nat → Int32) (Pend : Nat → Int32) (Pcode : Nat → Int32) (kn : Nat) (cl : Nat) (xi : Int32)  (Φ : Int32 → (Nat → Int32) → (Nat → Int32) → (Nat → Int32) → (Nat → Int32) → Int32 → Int32 → Int32 → Int32 → Int32 → (Nat → Int32) → (Nat → Int32) → (Nat → Int32) → (Nat → Int32) → Prop) : Nat → Int32 → (Nat → Int32) → (Nat → Int32) → (Nat → Int32) → (Nat → Int32) → Int32 → Int32 → Int32 → Int32 → Int32 → (Nat → Int32) → (Nat → Int32) → (Nat → Int32) → (Nat → Int32) → Int32 → Prop
  | 0, _, _, _, _, _, _, _, _, _, _, _, _, _, _, _ => False
  | n_ + 1, Sendless, Soften, Sby, Speak, Sover, Mway, Mstate, Mnext, Msteps, Mwritten, Mworn, Mcells, Mkept, Mstack, l3 => lb_X4_add_28 Mstuffs Mtwins Pce Pgi Pln Pbears Ptold PgivenC Pleast Pgreat Pact Ptarget Pfrom Pmiddle Pend Pcode kn cl xi  Φ (lf_X4_add_28 Mstuffs Mtwins Pce Pgi Pln Pbears Ptold PgivenC Pleast Pgreat Pact Ptarget Pfrom Pmiddle Pend Pcode kn cl xi  Φ n_) Sendless Soften Sby Speak Sover Mway Mstate Mnext Msteps Mwritten Mworn Mcells Mkept Mstack l3
theorem li_X4_add_28 (Mstuffs : Nat → Int32) (Mtwins : Nat → Int32) (Pce : Int32) (Pgi : Int32) (Pln : Int32) (Pbears : Nat → Int32) (Ptold : Nat → Int32) (PgivenC : Nat → Int32) (Pleast : Nat → Int32) (Pgreat : Nat → Int32) (Pact : Nat → Int32) (Ptarget : Nat → Int32) (Pfrom : Nat → Int32) (Pmiddle : Nat → Int32) (Pend : Nat → Int32) (Pcode : Nat → Int32) (kn : Nat) (cl : Nat) (xi : Int32)  (Φ : Int32 → (Nat → Int32) → (Nat → Int32) → (Nat → Int32) → (Nat → Int32) → Int32 → Int32 → Int32 → Int32 → Int32 → (Nat → Int32) → (Nat → Int32) → (Nat → Int32) → (Nat → Int32) → Prop) (Inv : Int32 → (Nat → Int32) → (Nat → Int32) → (Nat → Int32) → (Nat → Int32) → Int32 → Int32 → Int32 → Int32 → Int32 → (Nat → Int32) → (Nat → Int32) → (Nat → Int32) → (Nat → Int32) → Int32 → Prop) (mu : Int32 → (Nat → Int32) → (Nat → Int32) → (Nat → Int32) → (Nat → Int32) → Int32 → Int32 → Int32 → Int32 → Int32 → (Nat → Int32) → (Nat → Int32) → (Nat → Int32) → (Nat → Int32) → Int32 → Nat) (hs : ∀ (back : Int32 → (Nat → Int32) → (Nat → Int32) → (Nat → Int32) → (Nat → Int32) → Int32 → Int32 → Int32 → Int32 → Int32 → (Nat → Int32) → (Nat → Int32) → (Nat → Int32) → (Nat → Int32) → Int32 → Prop) (Sendless : Int32) (Soften : Nat → Int32) (Sby : Nat → Int32) (Speak : Nat → Int32) (Sover : Nat → Int32) (Mway : Int32) (Mstate : Int32) (Mnext : Int32) (Msteps : Int32) (Mwritten : Int32) (Mworn : Nat → Int32) (Mcells : Nat → Int32) (Mkept : Nat → Int32) (Mstack : Nat → Int32) (l3 : Int32), Inv Sendless Soften Sby Speak Sover Mway Mstate Mnext Msteps Mwritten Mworn Mcells Mkept Mstack l3 → (∀ (Sendless' : Int32) (Soften' : Nat → Int32) (Sby' : Nat → Int32) (Speak' : Nat → Int32) (Sover' : Nat → Int32) (Mway' : Int32) (Mstate' : Int32) (Mnext' : Int32) (Msteps' : Int32) (Mwritten' : Int32) (Mworn' : Nat → Int32) (Mcells' : Nat → Int32) (Mkept' : Nat → Int32) (Mstack' : Nat → Int32) (l3' : Int32), Inv Sendless' Soften' Sby' Speak' Sover' Mway' Mstate' Mnext' Msteps' Mwritten' Mworn' Mcells' Mkept' Mstack' l3' → mu Sendless' Soften' Sby' Speak' Sover' Mway' Mstate' Mnext' Msteps' Mwritten' Mworn' Mcells' Mkept' Mstack' l3' < mu Sendless Soften Sby Speak Sover Mway Mstate Mnext Msteps Mwritten Mworn Mcells Mkept Mstack l3 → back Sendless' Soften' Sby' Speak' Sover' Mway' Mstate' Mnext' Msteps' Mwritten' Mworn' Mcells' Mkept' Mstack' l3') → lb_X4_add_28 Mstuffs Mtwins Pce Pgi Pln Pbears Ptold PgivenC Pleast Pgreat Pact Ptarget Pfrom Pmiddle Pend Pcode kn cl xi  Φ back Sendless Soften Sby Speak Sover Mway Mstate Mnext Msteps Mwritten Mworn Mcells Mkept Mstack l3) : ∀ (n_ : Nat) (Sendless : Int32) (Soften : Nat → Int32) (Sby : Nat → Int32) (Speak : Nat → Int32) (Sover : Nat → Int32) (Mway : Int32) (Mstate : Int32) (Mnext : Int32) (Msteps : Int32) (Mwritten : Int32) (Mworn : Nat → Int32) (Mcells : Nat → Int32) (Mkept : Nat → Int32) (Mstack : Nat → Int32) (l3 : Int32), Inv Sendless Soften Sby Speak Sover Mway Mstate Mnext Msteps Mwritten Mworn Mcells Mkept Mstack l3 → mu Sendless Soften Sby Speak Sover Mway Mstate Mnext Msteps Mwritten Mworn Mcells Mkept Mstack l3 < n_ → lf_X4_add_28 Mstuffs Mtwins Pce Pgi Pln Pbears Ptold PgivenC Pleast Pgreat Pact Ptarget Pfrom Pmiddle Pend Pcode kn cl xi  Φ n_ Sendless Soften Sby Speak Sover Mway Mstate Mnext Msteps Mwritten Mworn Mcells Mkept Mstack l3 := by
  intro n_
  induction n_ with
  | zero => intro Sendless Soften Sby Speak Sover Mway Mstate Mnext Msteps Mwritten Mworn Mcells Mkept Mstack l3 _ h; exact absurd h (Nat.not_lt_zero _)
  | succ n_ ih => intro Sendless Soften Sby Speak Sover Mway Mstate Mnext Msteps Mwritten Mworn Mcells Mkept Mstack l3 hI hm; exact hs _ Sendless Soften Sby Speak Sover Mway Mstate Mnext Msteps Mwritten Mworn Mcells Mkept Mstack l3 hI (fun Sendless' Soften' Sby' Speak' Sover' Mway' Mstate' Mnext' Msteps' Mwritten' Mworn' Mcells' Mkept' Mstack' l3' h1 h2 => ih Sendless' Soften' Sby' Speak' Sover' Mway' Mstate' Mnext' Msteps' Mwritten' Mworn' Mcells' Mkept' Mstack' l3' h1 (by omega))
set_option maxHeartbeats 4000000 in
set_option maxRecDepth 100000 in
theorem lp_X4_add_28 {p : Program} {l : Launch} {e : Env} {R : Room} {s : State} {m : MethodId} {args : Array Value} {below : List Frame} {meth : Method} {c : Code} {cells slots : Nat} {Q : State → Prop} {A : Nat → Prop} {D : va_G} {ak : Nat → ClassId} {ad : Nat → Nat} (hx : p.tables.exec = Jvm.exec) (hb : c.code = cX4_add) (hown : s.vm.findClass RX4 = some m.cls) (hts : ∀ w ∈ wsX4_add, w.before args s = true) (hml : c.maxLocals = 5) (hE : EV D ak s) (hT : ST D ak ad A s s.heap) (hA : ∀ q, s.heap.size ≤ q → A q) (hRf : 4 ≤ R.frames) (hRl : 92 ≤ R.locals) (hRc : cells ≤ R.cells ∧ slots ≤ R.slots) (hs : Nat) (sa : Nat → Nat) (h : Nat) (mm : Nat → Nat) (pg : Nat) (pa : Nat → Nat) (kn : Nat) (cl : Nat) (Sof : Option Nat) (Mstuffs : Nat → Int32) (Mtwins : Nat → Int32) (Pst : Int32) (Pce : Int32) (Pgi : Int32) (Pln : Int32) (Pbears : Nat → Int32) (Ptold : Nat → Int32) (PgivenC : Nat → Int32) (Pleast : Nat → Int32) (Pgreat : Nat → Int32) (Pact : Nat → Int32) (Ptarget : Nat → Int32) (Pfrom : Nat → Int32) (Pmiddle : Nat → Int32) (Pend : Nat → Int32) (Pcode : Nat → Int32) (xi : Int32) (hKT : KT D A (wK_X4_add ak ad pg pa cl Pst Pce Pgi Pln Pbears Ptold PgivenC Pleast Pgreat Pact Ptarget Pfrom Pmiddle Pend Pcode) s.heap)  (Φ : Int32 → (Nat → Int32) → (Nat → Int32) → (Nat → Int32) → (Nat → Int32) → Int32 → Int32 → Int32 → Int32 → Int32 → (Nat → Int32) → (Nat → Int32) → (Nat → Int32) → (Nat → Int32) → Prop)
    (kR167 : ∀ (Sendless : Int32) (Soften : Nat → Int32) (Sby : Nat → Int32) (Speak : Nat → Int32) (Sover : Nat → Int32) (Mway : Int32) (Mstate : Int32) (Mnext : Int32) (Msteps : Int32) (Mwritten : Int32) (Mworn : Nat → Int32) (Mcells : Nat → Int32) (Mkept : Nat → Int32) (Mstack : Nat → Int32) (H : Heap) (locs : List Loc) (ls : Array Slot), Φ Sendless Soften Sby Speak Sover Mway Mstate Mnext Msteps Mwritten Mworn Mcells Mkept Mstack → va_P D vwCl (wW_X4_add ak ad hs sa h mm pg kn Sof Sendless Soften Sby Speak Sover Mway Mstate Mnext Msteps Mwritten Mstuffs Mtwins Mworn Mcells Mkept Mstack) H → va_D A (wW_X4_add ak ad hs sa h mm pg kn Sof Sendless Soften Sby Speak Sover Mway Mstate Mnext Msteps Mwritten Mstuffs Mtwins Mworn Mcells Mkept Mstack) → va_S A s.heap H locs → W p l e R s m args below meth c H locs cells slots Q (F0 m 167 ls []))
    : ∀ (n_ : Nat) (Sendless : Int32) (Soften : Nat → Int32) (Sby : Nat → Int32) (Speak : Nat → Int32) (Sover : Nat → Int32) (Mway : Int32) (Mstate : Int32) (Mnext : Int32) (Msteps : Int32) (Mwritten : Int32) (Mworn : Nat → Int32) (Mcells : Nat → Int32) (Mkept : Nat → Int32) (Mstack : Nat → Int32) (l3 : Int32) (H : Heap) (locs : List Loc) (ls : Array Slot), lf_X4_add_28 Mstuffs Mtwins Pce Pgi Pln Pbears Ptold PgivenC Pleast Pgreat Pact Ptarget Pfrom Pmiddle Pend Pcode kn cl xi  Φ n_ Sendless Soften Sby Speak Sover Mway Mstate Mnext Msteps Mwritten Mworn Mcells Mkept Mstack l3 → va_P D vwCl (wW_X4_add ak ad hs sa h mm pg kn Sof Sendless Soften Sby Speak Sover Mway Mstate Mnext Msteps Mwritten Mstuffs Mtwins Mworn Mcells Mkept Mstack) H → va_D A (wW_X4_add ak ad hs sa h mm pg kn Sof Sendless Soften Sby Speak Sover Mway Mstate Mnext Msteps Mwritten Mstuffs Mtwins Mworn Mcells Mkept Mstack) → va_S A s.heap H locs → lv_has ls 5 [(0, .ref hs), (1, .ref h), (2, .int (xi)), (3, .int (l3))] → W p l e R s m args below meth c H locs cells slots Q (F0 m 28 ls ([])) := by
  have hCW : ∀ {H : Heap} {locs : List Loc}, va_S A s.heap H locs → va_P D vwCl (wK_X4_add ak ad pg pa cl Pst Pce Pgi Pln Pbears Ptold PgivenC Pleast Pgreat Pact Ptarget Pfrom Pmiddle Pend Pcode) H := fun hS => (hKT.kept hS.2.1).1
  intro n_
  induction n_ with
  | zero =>
    intro Sendless Soften Sby Speak Sover Mway Mstate Mnext Msteps Mwritten Mworn Mcells Mkept Mstack l3 H locs ls hw
    exact hw.elim
  | succ n_ ih =>
    intro Sendless Soften Sby Speak Sover Mway Mstate Mnext Msteps Mwritten Mworn Mcells Mkept Mstack l3 H locs ls hw hP hD hS hl
    have hw : lb_X4_add_28 Mstuffs Mtwins Pce Pgi Pln Pbears Ptold PgivenC Pleast Pgreat Pact Ptarget Pfrom Pmiddle Pend Pcode kn cl xi  Φ (lf_X4_add_28 Mstuffs Mtwins Pce Pgi Pln Pbears Ptold PgivenC Pleast Pgreat Pact Ptarget Pfrom Pmiddle Pend Pcode kn cl xi  Φ n_) Sendless Soften Sby Speak Sover Mway Mstate Mnext Msteps Mwritten Mworn Mcells Mkept Mstack l3 := hw
    delta lb_X4_add_28 at hw
    refine lv_iload_n hx hb dX4_add_28 rfl (lv_at hl 3 rfl) ?_
    refine lv_sipush (v := 1000) hx hb dX4_add_29 (by decide) ?_
    refine lv_icmp_ge (tgt := 106) hx hb dX4_add_32 (by decide) (fun c_14 => ?_) (fun c_14 => ?_)
    · replace hw := hw.1 c_14
      refine lv_aload_n hx hb dX4_add_106 rfl (lv_at hl 0 rfl) ?_
      refine lv_aload_n hx hb dX4_add_107 rfl (lv_at hl 1 rfl) ?_
      refine kc_i (wc := (wW_X1_isEndless ak ad h mm pg Mway Mstate Mnext Msteps Mwritten)) (wr := [(hs, .inr (4, sob sa (Sof) (Sendless))), ((sa 0), .inl (ak 0, 16, .inl (Soften))), ((sa 1), .inl (ak 0, 16, .inl (Sby))), ((sa 2), .inl (ak 0, 16, .inl (Speak))), ((sa 3), .inl (ak 0, 16, .inl (Sover))), ((mm 0), .inl (ak 0, 16, .inl (Mstuffs))), ((mm 1), .inl (ak 0, 16, .inl (Mtwins))), ((mm 2), .inl (ak 0, 16, .inl (Mworn))), ((mm 3), .inl (ak 0, 6, .inl (Mcells))), ((mm 4), .inl (ak 0, kn, .inl (Mkept))), ((mm 5), .inl (ak 0, 32, .inl (Mstack)))]) hP hD hS hA [5] [0, 1, 2, 3, 4, 6, 7, 8, 9, 10, 11] rfl rfl (by decide) (by decide) (va_runV (As := []) (rest := [.ref hs]) ⟨hx, hb, hml, hown, hts⟩ (c_X1_isEndless l D ak ad _ h mm pg Mway Mstate Mnext Msteps Mwritten _ hw) (cwV 0 hts gX4_add_X1_isEndless rfl rfl rfl hv_X1_isEndless ⟨(Nat.le_trans (Nat.le_of_ble_eq_true rfl) hRf), (Nat.le_trans (Nat.le_of_ble_eq_true rfl) hRl)⟩) (kc_preV (As := []) (wc := (wW_X1_isEndless ak ad h mm pg Mway Mstate Mnext Msteps Mwritten)) hE hT hP hD hS hA [5] (by decide) rfl rfl 5 1 rfl rfl rfl) rfl rfl hl.1 rfl (lv_room (Nat.le_of_ble_eq_true rfl)) dX4_add_108 ⟨hRc.1, hRc.2⟩) (fun r_16 u_15 H locs hw hP hD hS => ?_)
      try dsimp -zeta only at hw
      have hP : va_P D vwCl (wW_X4_add ak ad hs sa h mm pg kn Sof Sendless Soften Sby Speak Sover Mway Mstate Mnext Msteps Mwritten Mstuffs Mtwins Mworn Mcells Mkept Mstack) H := hP.sub [0, 1, 2, 3, 4, 11, 5, 6, 7, 8, 9, 10] rfl
      have hD : va_D A (wW_X4_add ak ad hs sa h mm pg kn Sof Sendless Soften Sby Speak Sover Mway Mstate Mnext Msteps Mwritten Mstuffs Mtwins Mworn Mcells Mkept Mstack) := hD.sub [0, 1, 2, 3, 4, 11, 5, 6, 7, 8, 9, 10] (by decide) rfl
      obtain ⟨h_17, hw⟩ := hw
      refine vt_put (D := D) (ci := 4) (v := .int (r_16)) (ty := .boolean) (C := RX4) (T := TX4) (N := 6) hx hb hts (fun w h => wm_c (wc_X4 w h)) tyX4 tyX4_ok nmX4 hown hE.1 hP hD hS 0 rfl rfl 1 (by decide) tX4_1 (hts (.fieldLink RX4 28 "WornLines$Survey" "endless" "Z") (wm_c hw_377)) (fun _ h9 => h9) rfl pf_2 (bl_nar h_17) (bl_fit h_17) (Nat.le_of_ble_eq_true rfl) dX4_add_111 (fun H locs hP hD hS => ?_)
      have hP : va_P D vwCl (wW_X4_add ak ad hs sa h mm pg kn Sof r_16 Soften Sby Speak Sover Mway Mstate Mnext Msteps Mwritten Mstuffs Mtwins Mworn Mcells Mkept Mstack) H := hP
      have hD : va_D A (wW_X4_add ak ad hs sa h mm pg kn Sof r_16 Soften Sby Speak Sover Mway Mstate Mnext Msteps Mwritten Mstuffs Mtwins Mworn Mcells Mkept Mstack) := hD
      refine lv_iconst (v := 0) hx hb dX4_add_114 (by decide) ?_
      refine lv_istore_n (lv' := [(3, .int (0)), (0, .ref hs), (1, .ref h), (2, .int (xi))]) hx hb dX4_add_115 rfl hl (by decide) rfl (fun ls hl => ?_)
      obtain ⟨n1_, hw⟩ := hw
      exact lp_X4_add_116 hx hb hown hts hml hE hT hA hRf hRl hRc hs sa h mm pg pa kn cl Sof Mstuffs Mtwins Pst Pce Pgi Pln Pbears Ptold PgivenC Pleast Pgreat Pact Ptarget Pfrom Pmiddle Pend Pcode xi hKT  Φ  kR167 n1_ r_16 Soften Sby Speak Sover Mway Mstate Mnext Msteps Mwritten Mworn Mcells Mkept Mstack 0 _ _ _ hw hP hD hS (lv_sub hl [1, 2, 3, 0] rfl)
    · replace hw := hw.2 c_14
      refine lv_aload_n hx hb dX4_add_35 rfl (lv_at hl 1 rfl) ?_
      refine vt_get (D := D) (ci := 1) (v := .int (Mnext)) (C := RX1) (T := TX1) (N := 12) hx hb hts (fun w h => wm_c (wc_X1 w h)) hown hE.1 hP 5 rfl rfl 9 (by decide) tX1_9 (hts (.fieldLink RX4 51 "WornLines$Machine" "next" "I") (wm_c hw_380)) (fun _ h9 => h9) rfl dX4_add_36 ?_
      refine lv_aload_n hx hb dX4_add_39 rfl (lv_at hl 1 rfl) ?_
      refine vt_get (D := D) (ci := 1) (v := .ref pg) (C := RX1) (T := TX1) (N := 12) hx hb hts (fun w h => wm_c (wc_X1 w h)) hown hE.1 hP 5 rfl rfl 0 (by decide) tX1_0 (hts (.fieldLink RX4 54 "WornLines$Machine" "programme" "LWornLines$Programme;") (wm_c hw_378)) (fun _ h9 => h9) rfl dX4_add_40 ?_
      refine vt_get (D := D) (ci := 2) (v := .int (Pln)) (C := RX2) (T := TX2) (N := 17) hx hb hts (fun w h => wm_c (wc_X2 w h)) hown hE.1 (hCW hS) 0 rfl rfl 9 (by decide) tX2_9 (hts (.fieldLink RX4 57 "WornLines$Programme" "lines" "I") (wm_c hw_379)) (fun _ h9 => h9) rfl dX4_add_43 ?_
      refine kc_i (wc := []) (wr := [(hs, .inr (4, sob sa (Sof) (Sendless))), ((sa 0), .inl (ak 0, 16, .inl (Soften))), ((sa 1), .inl (ak 0, 16, .inl (Sby))), ((sa 2), .inl (ak 0, 16, .inl (Speak))), ((sa 3), .inl (ak 0, 16, .inl (Sover))), (h, .inr (1, xob mm (pg) (Mway) (Mstate) (Mnext) (Msteps) (Mwritten))), ((mm 0), .inl (ak 0, 16, .inl (Mstuffs))), ((mm 1), .inl (ak 0, 16, .inl (Mtwins))), ((mm 2), .inl (ak 0, 16, .inl (Mworn))), ((mm 3), .inl (ak 0, 6, .inl (Mcells))), ((mm 4), .inl (ak 0, kn, .inl (Mkept))), ((mm 5), .inl (ak 0, 32, .inl (Mstack)))]) hP hD hS hA [] [0, 1, 2, 3, 4, 5, 6, 7, 8, 9, 10, 11] rfl rfl (by decide) (by decide) (va_runSN (As := [.int (Mnext), .int (Pln)]) (rest := []) ⟨hx, hb, hml, hown, hts⟩ (c_X7_within l D ak ad _ Mnext Pln _ hw) ⟨va_cnB 2 hts gX4_add_X7_within_n62 rfl rfl rfl (hE.2.2.2.1 _ (List.mem_of_getElem? (i := 5) rfl)) (hts (.initialized RX7) (wm_c hw_324)) (by decide +kernel) ⟨(Nat.le_trans (Nat.le_of_ble_eq_true rfl) hRf), (Nat.le_trans (Nat.le_of_ble_eq_true rfl) hRl)⟩, (hts (.static yX7_within) (wm_c hw_325)), trivial⟩ (kc_pre (As := [.int (Mnext), .int (Pln)]) (wc := []) hE hT hP hD hS hA [] (by decide) rfl rfl) rfl rfl hl.1 rfl (lv_room (Nat.le_of_ble_eq_true rfl)) dX4_add_46 ⟨hRc.1, hRc.2⟩) (fun r_26 u_25 H locs hw hP hD hS => ?_)
      try dsimp -zeta only at hw
      have hP : va_P D vwCl (wW_X4_add ak ad hs sa h mm pg kn Sof Sendless Soften Sby Speak Sover Mway Mstate Mnext Msteps Mwritten Mstuffs Mtwins Mworn Mcells Mkept Mstack) H := hP.sub [0, 1, 2, 3, 4, 5, 6, 7, 8, 9, 10, 11] rfl
      have hD : va_D A (wW_X4_add ak ad hs sa h mm pg kn Sof Sendless Soften Sby Speak Sover Mway Mstate Mnext Msteps Mwritten Mstuffs Mtwins Mworn Mcells Mkept Mstack) := hD.sub [0, 1, 2, 3, 4, 5, 6, 7, 8, 9, 10, 11] (by decide) rfl
      refine lv_if_eq (tgt := 106) hx hb dX4_add_49 (by decide) (fun c_27 => ?_) (fun c_27 => ?_)
      · replace hw := hw.1 c_27
        refine lv_aload_n hx hb dX4_add_106 rfl (lv_at hl 0 rfl) ?_
        refine lv_aload_n hx hb dX4_add_107 rfl (lv_at hl 1 rfl) ?_
        refine kc_i (wc := (wW_X1_isEndless ak ad h mm pg Mway Mstate Mnext Msteps Mwritten)) (wr := [(hs, .inr (4, sob sa (Sof) (Sendless))), ((sa 0), .inl (ak 0, 16, .inl (Soften))), ((sa 1), .inl (ak 0, 16, .inl (Sby))), ((sa 2), .inl (ak 0, 16, .inl (Speak))), ((sa 3), .inl (ak 0, 16, .inl (Sover))), ((mm 0), .inl (ak 0, 16, .inl (Mstuffs))), ((mm 1), .inl (ak 0, 16, .inl (Mtwins))), ((mm 2), .inl (ak 0, 16, .inl (Mworn))), ((mm 3), .inl (ak 0, 6, .inl (Mcells))), ((mm 4), .inl (ak 0, kn, .inl (Mkept))), ((mm 5), .inl (ak 0, 32, .inl (Mstack)))]) hP hD hS hA [5] [0, 1, 2, 3, 4, 6, 7, 8, 9, 10, 11] rfl rfl (by decide) (by decide) (va_runV (As := []) (rest := [.ref hs]) ⟨hx, hb, hml, hown, hts⟩ (c_X1_isEndless l D ak ad _ h mm pg Mway Mstate Mnext Msteps Mwritten _ hw) (cwV 0 hts gX4_add_X1_isEndless rfl rfl rfl hv_X1_isEndless ⟨(Nat.le_trans (Nat.le_of_ble_eq_true rfl) hRf), (Nat.le_trans (Nat.le_of_ble_eq_true rfl) hRl)⟩) (kc_preV (As := []) (wc := (wW_X1_isEndless ak ad h mm pg Mway Mstate Mnext Msteps Mwritten)) hE hT hP hD hS hA [5] (by decide) rfl rfl 5 1 rfl rfl rfl) rfl rfl hl.1 rfl (lv_room (Nat.le_of_ble_eq_true rfl)) dX4_add_108 ⟨hRc.1, hRc.2⟩) (fun r_29 u_28 H locs hw hP hD hS => ?_)
        try dsimp -zeta only at hw
        have hP : va_P D vwCl (wW_X4_add ak ad hs sa h mm pg kn Sof Sendless Soften Sby Speak Sover Mway Mstate Mnext Msteps Mwritten Mstuffs Mtwins Mworn Mcells Mkept Mstack) H := hP.sub [0, 1, 2, 3, 4, 11, 5, 6, 7, 8, 9, 10] rfl
        have hD : va_D A (wW_X4_add ak ad hs sa h mm pg kn Sof Sendless Soften Sby Speak Sover Mway Mstate Mnext Msteps Mwritten Mstuffs Mtwins Mworn Mcells Mkept Mstack) := hD.sub [0, 1, 2, 3, 4, 11, 5, 6, 7, 8, 9, 10] (by decide) rfl
        obtain ⟨h_30, hw⟩ := hw
        refine vt_put (D := D) (ci := 4) (v := .int (r_29)) (ty := .boolean) (C := RX4) (T := TX4) (N := 6) hx hb hts (fun w h => wm_c (wc_X4 w h)) tyX4 tyX4_ok nmX4 hown hE.1 hP hD hS 0 rfl rfl 1 (by decide) tX4_1 (hts (.fieldLink RX4 28 "WornLines$Survey" "endless" "Z") (wm_c hw_377)) (fun _ h9 => h9) rfl pf_2 (bl_nar h_30) (bl_fit h_30) (Nat.le_of_ble_eq_true rfl) dX4_add_111 (fun H locs hP hD hS => ?_)
        have hP : va_P D vwCl (wW_X4_add ak ad hs sa h mm pg kn Sof r_29 Soften Sby Speak Sover Mway Mstate Mnext Msteps Mwritten Mstuffs Mtwins Mworn Mcells Mkept Mstack) H := hP
        have hD : va_D A (wW_X4_add ak ad hs sa h mm pg kn Sof r_29 Soften Sby Speak Sover Mway Mstate Mnext Msteps Mwritten Mstuffs Mtwins Mworn Mcells Mkept Mstack) := hD
        refine lv_iconst (v := 0) hx hb dX4_add_114 (by decide) ?_
        refine lv_istore_n (lv' := [(3, .int (0)), (0, .ref hs), (1, .ref h), (2, .int (xi))]) hx hb dX4_add_115 rfl hl (by decide) rfl (fun ls hl => ?_)
        obtain ⟨n1_, hw⟩ := hw
        exact lp_X4_add_116 hx hb hown hts hml hE hT hA hRf hRl hRc hs sa h mm pg pa kn cl Sof Mstuffs Mtwins Pst Pce Pgi Pln Pbears Ptold PgivenC Pleast Pgreat Pact Ptarget Pfrom Pmiddle Pend Pcode xi hKT  Φ  kR167 n1_ r_29 Soften Sby Speak Sover Mway Mstate Mnext Msteps Mwritten Mworn Mcells Mkept Mstack 0 _ _ _ hw hP hD hS (lv_sub hl [1, 2, 3, 0] rfl)
      · replace hw := hw.2 c_27
        refine lv_aload_n hx hb dX4_add_52 rfl (lv_at hl 1 rfl) ?_
        refine vt_get (D := D) (ci := 1) (v := .int (Mnext)) (C := RX1) (T := TX1) (N := 12) hx hb hts (fun w h => wm_c (wc_X1 w h)) hown hE.1 hP 5 rfl rfl 9 (by decide) tX1_9 (hts (.fieldLink RX4 51 "WornLines$Machine" "next" "I") (wm_c hw_380)) (fun _ h9 => h9) rfl dX4_add_53 ?_
        refine lv_istore (lv' := [(4, .int (Mnext)), (0, .ref hs), (1, .ref h), (2, .int (xi)), (3, .int (l3))]) hx hb dX4_add_56 hl (by decide) rfl (fun ls hl => ?_)
        refine lv_aload_n hx hb dX4_add_58 rfl (lv_at hl 1 rfl) ?_
        refine va_get (D := D) (ci := 4) (v := .ref (sa 3)) (C := RX4) (T := TX4) (N := 6) hx hb hts (fun w h => wm_c (wc_X4 w h)) hown hE.1 hP 0 rfl rfl 5 (by decide) (hts (.fieldLink RX4 21 "WornLines$Survey" "over" "[I") (wm_c hw_307)) (fun _ h9 => h9) rfl dX4_add_59 ?_
        refine lv_iload hx hb dX4_add_62 (lv_at hl 0 rfl) ?_
        refine lv_dup2_11 hx hb dX4_add_64 rfl rfl ?_
        obtain ⟨h_31, hw⟩ := hw
        refine va_iald hx hb hE.1 hP 4 0 rfl rfl (h_31) dX4_add_65 ?_
        refine lv_iconst (v := 1) hx hb dX4_add_66 (by decide) ?_
        refine lv_iadd hx hb dX4_add_67 ?_
        obtain ⟨h_32, hw⟩ := hw
        refine va_iast hx hb hE.1 hP hD hS 4 0 rfl rfl (h_32) dX4_add_68 (fun H locs hP hD hS => ?_)
        have hP : va_P D vwCl (wW_X4_add ak ad hs sa h mm pg kn Sof Sendless Soften Sby Speak (upd Sover (Mnext).toNatClampNeg (((Sover (Mnext).toNatClampNeg) + 1))) Mway Mstate Mnext Msteps Mwritten Mstuffs Mtwins Mworn Mcells Mkept Mstack) H := hP
        have hD : va_D A (wW_X4_add ak ad hs sa h mm pg kn Sof Sendless Soften Sby Speak (upd Sover (Mnext).toNatClampNeg (((Sover (Mnext).toNatClampNeg) + 1))) Mway Mstate Mnext Msteps Mwritten Mstuffs Mtwins Mworn Mcells Mkept Mstack) := hD
        refine lv_aload_n hx hb dX4_add_69 rfl (lv_at hl 1 rfl) ?_
        refine vt_get (D := D) (ci := 4) (v := .ref (sa 2)) (C := RX4) (T := TX4) (N := 6) hx hb hts (fun w h => wm_c (wc_X4 w h)) hown hE.1 hP 0 rfl rfl 4 (by decide) tX4_4 (hts (.fieldLink RX4 18 "WornLines$Survey" "peak" "[I") (wm_c hw_306)) (fun _ h9 => h9) rfl dX4_add_70 ?_
        refine lv_iload hx hb dX4_add_73 (lv_at hl 0 rfl) ?_
        refine lv_aload_n hx hb dX4_add_75 rfl (lv_at hl 1 rfl) ?_
        refine vt_get (D := D) (ci := 4) (v := .ref (sa 2)) (C := RX4) (T := TX4) (N := 6) hx hb hts (fun w h => wm_c (wc_X4 w h)) hown hE.1 hP 0 rfl rfl 4 (by decide) tX4_4 (hts (.fieldLink RX4 18 "WornLines$Survey" "peak" "[I") (wm_c hw_306)) (fun _ h9 => h9) rfl dX4_add_76 ?_
        refine lv_iload hx hb dX4_add_79 (lv_at hl 0 rfl) ?_
        obtain ⟨h_33, hw⟩ := hw
        refine va_iald hx hb hE.1 hP 3 0 rfl rfl (h_33) dX4_add_81 ?_
        refine lv_aload_n hx hb dX4_add_82 rfl (lv_at hl 2 rfl) ?_
        refine vt_get (D := D) (ci := 1) (v := .ref (mm 2)) (C := RX1) (T := TX1) (N := 12) hx hb hts (fun w h => wm_c (wc_X1 w h)) hown hE.1 hP 5 rfl rfl 3 (by decide) tX1_3 (hts (.fieldLink RX4 38 "WornLines$Machine" "worn" "[I") (wm_c hw_381)) (fun _ h9 => h9) rfl dX4_add_83 ?_
        refine lv_iload hx hb dX4_add_86 (lv_at hl 0 rfl) ?_
        obtain ⟨h_34, hw⟩ := hw
        refine va_iald hx hb hE.1 hP 8 0 rfl rfl (h_34) dX4_add_88 ?_
        refine lv_iconst (v := 1) hx hb dX4_add_89 (by decide) ?_
        refine lv_iadd hx hb dX4_add_90 ?_
        refine va_mmax hx hb (by rw [hml]; exact hl.1.symm) hown (hts (.methodLink RX4 66 Lib.Math.max.name) (wm_c hw_382)) (hts (.static Lib.Math.max.name) (wm_c hw_183)) (hts (.initialized "java/lang/Math") (wm_c hw_184)) (hts (.code Lib.Math.max.name Lib.Math.max.code 2 (some .int)) (wm_c hw_185)) (Nat.le_trans (Nat.le_of_ble_eq_true rfl) hRf) (Nat.le_trans (Nat.le_of_ble_eq_true rfl) hRl) hRc.1 hRc.2 dX4_add_91 ?_
        obtain ⟨h_35, hw⟩ := hw
        refine va_iast hx hb hE.1 hP hD hS 3 0 rfl rfl (h_35) dX4_add_94 (fun H locs hP hD hS => ?_)
        have hP : va_P D vwCl (wW_X4_add ak ad hs sa h mm pg kn Sof Sendless Soften Sby (upd Speak (Mnext).toNatClampNeg ((if (Speak (Mnext).toNatClampNeg) < ((Mworn (Mnext).toNatClampNeg) + 1) then ((Mworn (Mnext).toNatClampNeg) + 1) else (Speak (Mnext).toNatClampNeg)))) (upd Sover (Mnext).toNatClampNeg (((Sover (Mnext).toNatClampNeg) + 1))) Mway Mstate Mnext Msteps Mwritten Mstuffs Mtwins Mworn Mcells Mkept Mstack) H := hP
        have hD : va_D A (wW_X4_add ak ad hs sa h mm pg kn Sof Sendless Soften Sby (upd Speak (Mnext).toNatClampNeg ((if (Speak (Mnext).toNatClampNeg) < ((Mworn (Mnext).toNatClampNeg) + 1) then ((Mworn (Mnext).toNatClampNeg) + 1) else (Speak (Mnext).toNatClampNeg)))) (upd Sover (Mnext).toNatClampNeg (((Sover (Mnext).toNatClampNeg) + 1))) Mway Mstate Mnext Msteps Mwritten Mstuffs Mtwins Mworn Mcells Mkept Mstack) := hD
        refine lv_aload_n hx hb dX4_add_95 rfl (lv_at hl 2 rfl) ?_
        refine kc_i (wc := (wW_X1_step ak ad h mm pg kn Mway Mstate Mnext Msteps Mwritten Mstuffs Mtwins Mworn Mcells Mkept Mstack)) (wr := [(hs, .inr (4, sob sa (Sof) (Sendless))), ((sa 0), .inl (ak 0, 16, .inl (Soften))), ((sa 1), .inl (ak 0, 16, .inl (Sby))), ((sa 2), .inl (ak 0, 16, .inl (upd Speak (Mnext).toNatClampNeg ((if (Speak (Mnext).toNatClampNeg) < ((Mworn (Mnext).toNatClampNeg) + 1) then ((Mworn (Mnext).toNatClampNeg) + 1) else (Speak (Mnext).toNatClampNeg)))))), ((sa 3), .inl (ak 0, 16, .inl (upd Sover (Mnext).toNatClampNeg (((Sover (Mnext).toNatClampNeg) + 1)))))]) hP hD hS hA [5, 6, 7, 8, 9, 10, 11] [0, 1, 2, 3, 4] rfl rfl (by decide) (by decide) (va_runV (As := []) (rest := []) ⟨hx, hb, hml, hown, hts⟩ (c_X1_step l D ak ad _ h mm pg pa kn cl Mway Mstate Mnext Msteps Mwritten Mstuffs Mtwins Mworn Mcells Mkept Mstack Pst Pce Pgi Pln Pbears Pact Ptarget Pfrom Pmiddle Pend Pcode _ hw) (cwV 0 hts gX4_add_X1_step rfl rfl rfl hv_X1_step ⟨(Nat.le_trans (Nat.le_of_ble_eq_true rfl) hRf), (Nat.le_trans (Nat.le_of_ble_eq_true rfl) hRl)⟩) (kc_preVK (As := []) (wc := (wW_X1_step ak ad h mm pg kn Mway Mstate Mnext Msteps Mwritten Mstuffs Mtwins Mworn Mcells Mkept Mstack)) (ck := (wK_X1_step ak ad pg pa cl Pst Pce Pgi Pln Pbears Pact Ptarget Pfrom Pmiddle Pend Pcode)) hKT hE hT hP hD hS hA [5, 6, 7, 8, 9, 10, 11] [0, 1, 6, 7, 8, 9, 10, 11] (by decide) rfl rfl rfl hP 5 1 rfl rfl rfl) rfl rfl hl.1 rfl (lv_room (Nat.le_of_ble_eq_true rfl)) dX4_add_96 ⟨hRc.1, hRc.2⟩) (fun r_45 u_36 H locs hw hP hD hS => ?_)
        obtain ⟨Mstate_37, Mnext_38, Msteps_39, Mwritten_40, Mworn_41, Mcells_42, Mkept_43, Mstack_44⟩ := u_36
        try dsimp -zeta only at hw
        have hP : va_P D vwCl (wW_X4_add ak ad hs sa h mm pg kn Sof Sendless Soften Sby (upd Speak (Mnext).toNatClampNeg ((if (Speak (Mnext).toNatClampNeg) < ((Mworn (Mnext).toNatClampNeg) + 1) then ((Mworn (Mnext).toNatClampNeg) + 1) else (Speak (Mnext).toNatClampNeg)))) (upd Sover (Mnext).toNatClampNeg (((Sover (Mnext).toNatClampNeg) + 1))) Mway Mstate_37 Mnext_38 Msteps_39 Mwritten_40 Mstuffs Mtwins Mworn_41 Mcells_42 Mkept_43 Mstack_44) H := hP.sub [0, 1, 2, 3, 4, 5, 6, 7, 8, 9, 10, 11] rfl
        have hD : va_D A (wW_X4_add ak ad hs sa h mm pg kn Sof Sendless Soften Sby (upd Speak (Mnext).toNatClampNeg ((if (Speak (Mnext).toNatClampNeg) < ((Mworn (Mnext).toNatClampNeg) + 1) then ((Mworn (Mnext).toNatClampNeg) + 1) else (Speak (Mnext).toNatClampNeg)))) (upd Sover (Mnext).toNatClampNeg (((Sover (Mnext).toNatClampNeg) + 1))) Mway Mstate_37 Mnext_38 Msteps_39 Mwritten_40 Mstuffs Mtwins Mworn_41 Mcells_42 Mkept_43 Mstack_44) := hD.sub [0, 1, 2, 3, 4, 5, 6, 7, 8, 9, 10, 11] (by decide) rfl
        refine lv_pop hx hb dX4_add_99 rfl ?_
        refine lv_iinc (v := (l3 + 1)) (lv' := [(3, .int (l3 + 1)), (4, .int (Mnext)), (0, .ref hs), (1, .ref h), (2, .int (xi))]) hx hb dX4_add_100 hl (k := 4) rfl (rfl) (by decide) rfl (fun ls hl => ?_)
        refine lv_goto (tgt := 28) hx hb dX4_add_103 (by decide) ?_
        exact ih Sendless Soften Sby (upd Speak (Mnext).toNatClampNeg ((if (Speak (Mnext).toNatClampNeg) < ((Mworn (Mnext).toNatClampNeg) + 1) then ((Mworn (Mnext).toNatClampNeg) + 1) else (Speak (Mnext).toNatClampNeg)))) (upd Sover (Mnext).toNatClampNeg (((Sover (Mnext).toNatClampNeg) + 1))) Mway Mstate_37 Mnext_38 Msteps_39 Mwritten_40 Mworn_41 Mcells_42 Mkept_43 Mstack_44 (l3 + 1) _ _ _ hw hP hD hS (lv_sub hl [2, 3, 4, 0] rfl)

def wp_X4_add (Mstuffs : Nat → Int32) (Mtwins : Nat → Int32) (Pce : Int32) (Pgi : Int32) (Pln : Int32) (Pbears : Nat → Int32) (Ptold : Nat → Int32) (PgivenC : Nat → Int32) (Pleast : Nat → Int32) (Pgreat : Nat → Int32) (Pact : Nat → Int32) (Ptarget : Nat → Int32) (Pfrom : Nat → Int32) (Pmiddle : Nat → Int32) (Pend : Nat → Int32) (Pcode : Nat → Int32) (kn : Nat) (cl : Nat) (xi : Int32) (Sendless : Int32) (Soften : Nat → Int32) (Sby : Nat → Int32) (Speak : Nat → Int32) (Sover : Nat → Int32) (Mway : Int32) (Mstate : Int32) (Mnext : Int32) (Msteps : Int32) (Mwritten : Int32) (Mworn : Nat → Int32) (Mcells : Nat → Int32) (Mkept : Nat → Int32) (Mstack : Nat → Int32) (Φ : Int32 → (Nat → Int32) → (Nat → Int32) → (Nat → Int32) → (Nat → Int32) → Int32 → Int32 → Int32 → Int32 → Int32 → (Nat → Int32) → (Nat → Int32) → (Nat → Int32) → (Nat → Int32) → Prop) : Prop := wp_J7_fill_53178 16 0 Sover (fun Ar_2 => wp_J7_fill_53178 16 0 Mworn (fun Ar_5 => wp_X1_start Pce Pgi Ptold PgivenC Pleast Pgreat xi Mstate Mnext Msteps Mwritten Mcells (fun Mstate_8 Mnext_9 Msteps_10 Mwritten_11 Mcells_12 => (∃ n_, lf_X4_add_28 Mstuffs Mtwins Pce Pgi Pln Pbears Ptold PgivenC Pleast Pgreat Pact Ptarget Pfrom Pmiddle Pend Pcode kn cl xi  Φ n_ Sendless Soften Sby Speak Ar_2 1 Mstate_8 Mnext_9 Msteps_10 Mwritten_11 Ar_5 Mcells_12 Mkept Mstack 0))))
set_option maxHeartbeats 4000000 in
set_option maxRecDepth 100000 in
theorem kj_X4_add_e {p : Program} {l : Launch} {e : Env} {R : Room} {s : State} {m : MethodId} {args : Array Value} {below : List Frame} {meth : Method} {c : Code} {cells slots : Nat} {Q : State → Prop} {A : Nat → Prop} {D : va_G} {ak : Nat → ClassId} {ad : Nat → Nat} (hx : p.tables.exec = Jvm.exec) (hb : c.code = cX4_add) (hown : s.vm.findClass RX4 = some m.cls) (hts : ∀ w ∈ wsX4_add, w.before args s = true) (hml : c.maxLocals = 5) (hE : EV D ak s) (hT : ST D ak ad A s s.heap) (hA : ∀ q, s.heap.size ≤ q → A q) (hRf : 4 ≤ R.frames) (hRl : 92 ≤ R.locals) (hRc : cells ≤ R.cells ∧ slots ≤ R.slots) (hs : Nat) (sa : Nat → Nat) (h : Nat) (mm : Nat → Nat) (pg : Nat) (pa : Nat → Nat) (kn : Nat) (cl : Nat) (Sof : Option Nat) (Mstuffs : Nat → Int32) (Mtwins : Nat → Int32) (Pst : Int32) (Pce : Int32) (Pgi : Int32) (Pln : Int32) (Pbears : Nat → Int32) (Ptold : Nat → Int32) (PgivenC : Nat → Int32) (Pleast : Nat → Int32) (Pgreat : Nat → Int32) (Pact : Nat → Int32) (Ptarget : Nat → Int32) (Pfrom : Nat → Int32) (Pmiddle : Nat → Int32) (Pend : Nat → Int32) (Pcode : Nat → Int32) (xi : Int32) (hKT : KT D A (wK_X4_add ak ad pg pa cl Pst Pce Pgi Pln Pbears Ptold PgivenC Pleast Pgreat Pact Ptarget Pfrom Pmiddle Pend Pcode) s.heap)  (Φ : Int32 → (Nat → Int32) → (Nat → Int32) → (Nat → Int32) → (Nat → Int32) → Int32 → Int32 → Int32 → Int32 → Int32 → (Nat → Int32) → (Nat → Int32) → (Nat → Int32) → (Nat → Int32) → Prop)
    (kR167 : ∀ (Sendless : Int32) (Soften : Nat → Int32) (Sby : Nat → Int32) (Speak : Nat → Int32) (Sover : Nat → Int32) (Mway : Int32) (Mstate : Int32) (Mnext : Int32) (Msteps : Int32) (Mwritten : Int32) (Mworn : Nat → Int32) (Mcells : Nat → Int32) (Mkept : Nat → Int32) (Mstack : Nat → Int32) (H : Heap) (locs : List Loc) (ls : Array Slot), Φ Sendless Soften Sby Speak Sover Mway Mstate Mnext Msteps Mwritten Mworn Mcells Mkept Mstack → va_P D vwCl (wW_X4_add ak ad hs sa h mm pg kn Sof Sendless Soften Sby Speak Sover Mway Mstate Mnext Msteps Mwritten Mstuffs Mtwins Mworn Mcells Mkept Mstack) H → va_D A (wW_X4_add ak ad hs sa h mm pg kn Sof Sendless Soften Sby Speak Sover Mway Mstate Mnext Msteps Mwritten Mstuffs Mtwins Mworn Mcells Mkept Mstack) → va_S A s.heap H locs → W p l e R s m args below meth c H locs cells slots Q (F0 m 167 ls []))
    : ∀ (Sendless : Int32) (Soften : Nat → Int32) (Sby : Nat → Int32) (Speak : Nat → Int32) (Sover : Nat → Int32) (Mway : Int32) (Mstate : Int32) (Mnext : Int32) (Msteps : Int32) (Mwritten : Int32) (Mworn : Nat → Int32) (Mcells : Nat → Int32) (Mkept : Nat → Int32) (Mstack : Nat → Int32) (H : Heap) (locs : List Loc) (ls : Array Slot), wp_X4_add Mstuffs Mtwins Pce Pgi Pln Pbears Ptold PgivenC Pleast Pgreat Pact Ptarget Pfrom Pmiddle Pend Pcode kn cl xi Sendless Soften Sby Speak Sover Mway Mstate Mnext Msteps Mwritten Mworn Mcells Mkept Mstack Φ → va_P D vwCl (wW_X4_add ak ad hs sa h mm pg kn Sof Sendless Soften Sby Speak Sover Mway Mstate Mnext Msteps Mwritten Mstuffs Mtwins Mworn Mcells Mkept Mstack) H → va_D A (wW_X4_add ak ad hs sa h mm pg kn Sof Sendless Soften Sby Speak Sover Mway Mstate Mnext Msteps Mwritten Mstuffs Mtwins Mworn Mcells Mkept Mstack) → va_S A s.heap H locs → lv_has ls 5 [(0, .ref hs), (1, .ref h), (2, .int (xi))] → W p l e R s m args below meth c H locs cells slots Q (F0 m 0 ls ([])) := by
  have hCW : ∀ {H : Heap} {locs : List Loc}, va_S A s.heap H locs → va_P D vwCl (wK_X4_add ak ad pg pa cl Pst Pce Pgi Pln Pbears Ptold PgivenC Pleast Pgreat Pact Ptarget Pfrom Pmiddle Pend Pcode) H := fun hS => (hKT.kept hS.2.1).1
  intro Sendless Soften Sby Speak Sover Mway Mstate Mnext Msteps Mwritten Mworn Mcells Mkept Mstack H locs ls hw hP hD hS hl
  delta wp_X4_add at hw
  refine lv_aload_n hx hb dX4_add_0 rfl (lv_at hl 0 rfl) ?_
  refine va_get (D := D) (ci := 4) (v := .ref (sa 3)) (C := RX4) (T := TX4) (N := 6) hx hb hts (fun w h => wm_c (wc_X4 w h)) hown hE.1 hP 0 rfl rfl 5 (by decide) (hts (.fieldLink RX4 21 "WornLines$Survey" "over" "[I") (wm_c hw_307)) (fun _ h9 => h9) rfl dX4_add_1 ?_
  refine lv_iconst (v := 0) hx hb dX4_add_4 (by decide) ?_
  refine kc_v (wc := (wW_J7_fill_53178 ak ad (sa 3) 16 Sover)) (wr := [(hs, .inr (4, sob sa (Sof) (Sendless))), ((sa 0), .inl (ak 0, 16, .inl (Soften))), ((sa 1), .inl (ak 0, 16, .inl (Sby))), ((sa 2), .inl (ak 0, 16, .inl (Speak))), (h, .inr (1, xob mm (pg) (Mway) (Mstate) (Mnext) (Msteps) (Mwritten))), ((mm 0), .inl (ak 0, 16, .inl (Mstuffs))), ((mm 1), .inl (ak 0, 16, .inl (Mtwins))), ((mm 2), .inl (ak 0, 16, .inl (Mworn))), ((mm 3), .inl (ak 0, 6, .inl (Mcells))), ((mm 4), .inl (ak 0, kn, .inl (Mkept))), ((mm 5), .inl (ak 0, 32, .inl (Mstack)))]) hP hD hS hA [4] [0, 1, 2, 3, 5, 6, 7, 8, 9, 10, 11] rfl rfl (by decide) (by decide) (va_runS (As := [.ref (sa 3), .int (0)]) (rest := []) ⟨hx, hb, hml, hown, hts⟩ (c_J7_fill_53178 l D ak ad _ (sa 3) 16 Sover 0 _ hw) (va_cwS 2 hts gX4_add_J7_fill_53178 rfl rfl rfl hz_J7_fill_53178 ⟨(Nat.le_trans (Nat.le_of_ble_eq_true rfl) hRf), (Nat.le_trans (Nat.le_of_ble_eq_true rfl) hRl)⟩) (kc_pre (As := [.ref (sa 3), .int (0)]) (wc := (wW_J7_fill_53178 ak ad (sa 3) 16 Sover)) hE hT hP hD hS hA [4] (by decide) rfl rfl) rfl rfl hl.1 rfl (lv_room (Nat.le_of_ble_eq_true rfl)) dX4_add_5 ⟨hRc.1, hRc.2⟩) (fun Ar_2 H locs hw hP hD hS => ?_)
  try dsimp -zeta only at hw
  have hP : va_P D vwCl (wW_X4_add ak ad hs sa h mm pg kn Sof Sendless Soften Sby Speak Ar_2 Mway Mstate Mnext Msteps Mwritten Mstuffs Mtwins Mworn Mcells Mkept Mstack) H := hP.sub [0, 1, 2, 3, 11, 4, 5, 6, 7, 8, 9, 10] rfl
  have hD : va_D A (wW_X4_add ak ad hs sa h mm pg kn Sof Sendless Soften Sby Speak Ar_2 Mway Mstate Mnext Msteps Mwritten Mstuffs Mtwins Mworn Mcells Mkept Mstack) := hD.sub [0, 1, 2, 3, 11, 4, 5, 6, 7, 8, 9, 10] (by decide) rfl
  refine lv_aload_n hx hb dX4_add_8 rfl (lv_at hl 1 rfl) ?_
  refine vt_get (D := D) (ci := 1) (v := .ref (mm 2)) (C := RX1) (T := TX1) (N := 12) hx hb hts (fun w h => wm_c (wc_X1 w h)) hown hE.1 hP 5 rfl rfl 3 (by decide) tX1_3 (hts (.fieldLink RX4 38 "WornLines$Machine" "worn" "[I") (wm_c hw_381)) (fun _ h9 => h9) rfl dX4_add_9 ?_
  refine lv_iconst (v := 0) hx hb dX4_add_12 (by decide) ?_
  refine kc_v (wc := (wW_J7_fill_53178 ak ad (mm 2) 16 Mworn)) (wr := [(hs, .inr (4, sob sa (Sof) (Sendless))), ((sa 0), .inl (ak 0, 16, .inl (Soften))), ((sa 1), .inl (ak 0, 16, .inl (Sby))), ((sa 2), .inl (ak 0, 16, .inl (Speak))), ((sa 3), .inl (ak 0, 16, .inl (Ar_2))), (h, .inr (1, xob mm (pg) (Mway) (Mstate) (Mnext) (Msteps) (Mwritten))), ((mm 0), .inl (ak 0, 16, .inl (Mstuffs))), ((mm 1), .inl (ak 0, 16, .inl (Mtwins))), ((mm 3), .inl (ak 0, 6, .inl (Mcells))), ((mm 4), .inl (ak 0, kn, .inl (Mkept))), ((mm 5), .inl (ak 0, 32, .inl (Mstack)))]) hP hD hS hA [8] [0, 1, 2, 3, 4, 5, 6, 7, 9, 10, 11] rfl rfl (by decide) (by decide) (va_runS (As := [.ref (mm 2), .int (0)]) (rest := []) ⟨hx, hb, hml, hown, hts⟩ (c_J7_fill_53178 l D ak ad _ (mm 2) 16 Mworn 0 _ hw) (va_cwS 2 hts gX4_add_J7_fill_53178 rfl rfl rfl hz_J7_fill_53178 ⟨(Nat.le_trans (Nat.le_of_ble_eq_true rfl) hRf), (Nat.le_trans (Nat.le_of_ble_eq_true rfl) hRl)⟩) (kc_pre (As := [.ref (mm 2), .int (0)]) (wc := (wW_J7_fill_53178 ak ad (mm 2) 16 Mworn)) hE hT hP hD hS hA [8] (by decide) rfl rfl) rfl rfl hl.1 rfl (lv_room (Nat.le_of_ble_eq_true rfl)) dX4_add_13 ⟨hRc.1, hRc.2⟩) (fun Ar_5 H locs hw hP hD hS => ?_)
  try dsimp -zeta only at hw
  have hP : va_P D vwCl (wW_X4_add ak ad hs sa h mm pg kn Sof Sendless Soften Sby Speak Ar_2 Mway Mstate Mnext Msteps Mwritten Mstuffs Mtwins Ar_5 Mcells Mkept Mstack) H := hP.sub [0, 1, 2, 3, 4, 5, 6, 7, 11, 8, 9, 10] rfl
  have hD : va_D A (wW_X4_add ak ad hs sa h mm pg kn Sof Sendless Soften Sby Speak Ar_2 Mway Mstate Mnext Msteps Mwritten Mstuffs Mtwins Ar_5 Mcells Mkept Mstack) := hD.sub [0, 1, 2, 3, 4, 5, 6, 7, 11, 8, 9, 10] (by decide) rfl
  refine lv_aload_n hx hb dX4_add_16 rfl (lv_at hl 1 rfl) ?_
  refine lv_iconst (v := 1) hx hb dX4_add_17 (by decide) ?_
  refine vt_put (D := D) (ci := 1) (v := .int (1)) (ty := .int) (C := RX1) (T := TX1) (N := 12) hx hb hts (fun w h => wm_c (wc_X1 w h)) tyX1 tyX1_ok nmX1 hown hE.1 hP hD hS 5 rfl rfl 7 (by decide) tX1_7 (hts (.fieldLink RX4 43 "WornLines$Machine" "way" "I") (wm_c hw_383)) (fun _ h9 => h9) rfl pf_0 (rfl) rfl (Nat.le_of_ble_eq_true rfl) dX4_add_18 (fun H locs hP hD hS => ?_)
  have hP : va_P D vwCl (wW_X4_add ak ad hs sa h mm pg kn Sof Sendless Soften Sby Speak Ar_2 1 Mstate Mnext Msteps Mwritten Mstuffs Mtwins Ar_5 Mcells Mkept Mstack) H := hP
  have hD : va_D A (wW_X4_add ak ad hs sa h mm pg kn Sof Sendless Soften Sby Speak Ar_2 1 Mstate Mnext Msteps Mwritten Mstuffs Mtwins Ar_5 Mcells Mkept Mstack) := hD
  refine lv_aload_n hx hb dX4_add_21 rfl (lv_at hl 1 rfl) ?_
  refine lv_iload_n hx hb dX4_add_22 rfl (lv_at hl 2 rfl) ?_
  refine kc_v (wc := (wW_X1_start ak ad h mm pg 1 Mstate Mnext Msteps Mwritten Mcells)) (wr := [(hs, .inr (4, sob sa (Sof) (Sendless))), ((sa 0), .inl (ak 0, 16, .inl (Soften))), ((sa 1), .inl (ak 0, 16, .inl (Sby))), ((sa 2), .inl (ak 0, 16, .inl (Speak))), ((sa 3), .inl (ak 0, 16, .inl (Ar_2))), ((mm 0), .inl (ak 0, 16, .inl (Mstuffs))), ((mm 1), .inl (ak 0, 16, .inl (Mtwins))), ((mm 2), .inl (ak 0, 16, .inl (Ar_5))), ((mm 4), .inl (ak 0, kn, .inl (Mkept))), ((mm 5), .inl (ak 0, 32, .inl (Mstack)))]) hP hD hS hA [5, 9] [0, 1, 2, 3, 4, 6, 7, 8, 10, 11] rfl rfl (by decide) (by decide) (va_runV (As := [.int (xi)]) (rest := []) ⟨hx, hb, hml, hown, hts⟩ (c_X1_start l D ak ad _ h mm pg pa 1 Mstate Mnext Msteps Mwritten Mcells Pst Pce Pgi Pln Ptold PgivenC Pleast Pgreat xi _ hw) (cwV 1 hts gX4_add_X1_start rfl rfl rfl hv_X1_start ⟨(Nat.le_trans (Nat.le_of_ble_eq_true rfl) hRf), (Nat.le_trans (Nat.le_of_ble_eq_true rfl) hRl)⟩) (kc_preVK (As := [.int (xi)]) (wc := (wW_X1_start ak ad h mm pg 1 Mstate Mnext Msteps Mwritten Mcells)) (ck := (wK_X1_start ak ad pg pa Pst Pce Pgi Pln Ptold PgivenC Pleast Pgreat)) hKT hE hT hP hD hS hA [5, 9] [0, 2, 3, 4, 5] (by decide) rfl rfl rfl hP 5 1 rfl rfl rfl) rfl rfl hl.1 rfl (lv_room (Nat.le_of_ble_eq_true rfl)) dX4_add_23 ⟨hRc.1, hRc.2⟩) (fun u_7 H locs hw hP hD hS => ?_)
  obtain ⟨Mstate_8, Mnext_9, Msteps_10, Mwritten_11, Mcells_12⟩ := u_7
  try dsimp -zeta only at hw
  have hP : va_P D vwCl (wW_X4_add ak ad hs sa h mm pg kn Sof Sendless Soften Sby Speak Ar_2 1 Mstate_8 Mnext_9 Msteps_10 Mwritten_11 Mstuffs Mtwins Ar_5 Mcells_12 Mkept Mstack) H := hP.sub [0, 1, 2, 3, 4, 10, 5, 6, 7, 11, 8, 9] rfl
  have hD : va_D A (wW_X4_add ak ad hs sa h mm pg kn Sof Sendless Soften Sby Speak Ar_2 1 Mstate_8 Mnext_9 Msteps_10 Mwritten_11 Mstuffs Mtwins Ar_5 Mcells_12 Mkept Mstack) := hD.sub [0, 1, 2, 3, 4, 10, 5, 6, 7, 11, 8, 9] (by decide) rfl
  refine lv_iconst (v := 0) hx hb dX4_add_26 (by decide) ?_
  refine lv_istore_n (lv' := [(3, .int (0)), (0, .ref hs), (1, .ref h), (2, .int (xi))]) hx hb dX4_add_27 rfl hl (by decide) rfl (fun ls hl => ?_)
  obtain ⟨n1_, hw⟩ := hw
  exact lp_X4_add_28 hx hb hown hts hml hE hT hA hRf hRl hRc hs sa h mm pg pa kn cl Sof Mstuffs Mtwins Pst Pce Pgi Pln Pbears Ptold PgivenC Pleast Pgreat Pact Ptarget Pfrom Pmiddle Pend Pcode xi hKT  Φ  kR167 n1_ Sendless Soften Sby Speak Ar_2 1 Mstate_8 Mnext_9 Msteps_10 Mwritten_11 Ar_5 Mcells_12 Mkept Mstack 0 _ _ _ hw hP hD hS (lv_sub hl [1, 2, 3, 0] rfl)
set_option maxHeartbeats 4000000 in
set_option maxRecDepth 100000 in
theorem c_X4_add (l : Launch) (D : va_G) (ak : Nat → ClassId) (ad : Nat → Nat) (sz : Nat) (hs : Nat) (sa : Nat → Nat) (h : Nat) (mm : Nat → Nat) (pg : Nat) (pa : Nat → Nat) (kn : Nat) (cl : Nat) (Sof : Option Nat) (Sendless : Int32) (Soften : Nat → Int32) (Sby : Nat → Int32) (Speak : Nat → Int32) (Sover : Nat → Int32) (Mway : Int32) (Mstate : Int32) (Mnext : Int32) (Msteps : Int32) (Mwritten : Int32) (Mstuffs : Nat → Int32) (Mtwins : Nat → Int32) (Mworn : Nat → Int32) (Mcells : Nat → Int32) (Mkept : Nat → Int32) (Mstack : Nat → Int32) (Pst : Int32) (Pce : Int32) (Pgi : Int32) (Pln : Int32) (Pbears : Nat → Int32) (Ptold : Nat → Int32) (PgivenC : Nat → Int32) (Pleast : Nat → Int32) (Pgreat : Nat → Int32) (Pact : Nat → Int32) (Ptarget : Nat → Int32) (Pfrom : Nat → Int32) (Pmiddle : Nat → Int32) (Pend : Nat → Int32) (Pcode : Nat → Int32) (xi : Int32) (Φ : Int32 → (Nat → Int32) → (Nat → Int32) → (Nat → Int32) → (Nat → Int32) → Int32 → Int32 → Int32 → Int32 → Int32 → (Nat → Int32) → (Nat → Int32) → (Nat → Int32) → (Nat → Int32) → Prop) (hf : wp_X4_add Mstuffs Mtwins Pce Pgi Pln Pbears Ptold PgivenC Pleast Pgreat Pact Ptarget Pfrom Pmiddle Pend Pcode kn cl xi Sendless Soften Sby Speak Sover Mway Mstate Mnext Msteps Mwritten Mworn Mcells Mkept Mstack Φ) : Met l yX4_add wsX4_add ({ frames := 4, cells := 0, slots := 0, locals := 92 }) (cPreK D ak ad [.ref hs, .ref h, .int (xi)] ((wW_X4_add ak ad hs sa h mm pg kn Sof Sendless Soften Sby Speak Sover Mway Mstate Mnext Msteps Mwritten Mstuffs Mtwins Mworn Mcells Mkept Mstack)) sz ((wK_X4_add ak ad pg pa cl Pst Pce Pgi Pln Pbears Ptold PgivenC Pleast Pgreat Pact Ptarget Pfrom Pmiddle Pend Pcode))) (cV D (S := (Int32) × (Nat → Int32) × (Nat → Int32) × (Nat → Int32) × (Nat → Int32) × (Int32) × (Int32) × (Int32) × (Int32) × (Int32) × (Nat → Int32) × (Nat → Int32) × (Nat → Int32) × (Nat → Int32)) (fun (u : (Int32) × (Nat → Int32) × (Nat → Int32) × (Nat → Int32) × (Nat → Int32) × (Int32) × (Int32) × (Int32) × (Int32) × (Int32) × (Nat → Int32) × (Nat → Int32) × (Nat → Int32) × (Nat → Int32)) => Φ u.1 u.2.1 u.2.2.1 u.2.2.2.1 u.2.2.2.2.1 u.2.2.2.2.2.1 u.2.2.2.2.2.2.1 u.2.2.2.2.2.2.2.1 u.2.2.2.2.2.2.2.2.1 u.2.2.2.2.2.2.2.2.2.1 u.2.2.2.2.2.2.2.2.2.2.1 u.2.2.2.2.2.2.2.2.2.2.2.1 u.2.2.2.2.2.2.2.2.2.2.2.2.1 u.2.2.2.2.2.2.2.2.2.2.2.2.2) (fun u => (wW_X4_add ak ad hs sa h mm pg kn Sof u.1 u.2.1 u.2.2.1 u.2.2.2.1 u.2.2.2.2.1 u.2.2.2.2.2.1 u.2.2.2.2.2.2.1 u.2.2.2.2.2.2.2.1 u.2.2.2.2.2.2.2.2.1 u.2.2.2.2.2.2.2.2.2.1 Mstuffs Mtwins u.2.2.2.2.2.2.2.2.2.2.1 u.2.2.2.2.2.2.2.2.2.2.2.1 u.2.2.2.2.2.2.2.2.2.2.2.2.1 u.2.2.2.2.2.2.2.2.2.2.2.2.2)) ((wW_X4_add ak ad hs sa h mm pg kn Sof Sendless Soften Sby Speak Sover Mway Mstate Mnext Msteps Mwritten Mstuffs Mtwins Mworn Mcells Mkept Mstack)) sz) 0 0 (va_A ((wW_X4_add ak ad hs sa h mm pg kn Sof Sendless Soften Sby Speak Sover Mway Mstate Mnext Msteps Mwritten Mstuffs Mtwins Mworn Mcells Mkept Mstack)) sz) := by
  refine Met.ofW (cc := cX4_add) (maxL := 5) (ret := none) (by decide) rfl ?_
  intro p e s m args below meth c s₁ B hml hv
  obtain ⟨⟨rfl, hsz, hP, hE, hD0, hT⟩, hKT⟩ := hv
  have hx := B.exec
  have hb := B.bytes
  have hr := B.returns
  have hts := atoms_spec (ws := wsX4_add) B.pre
  have hown : s.vm.findClass RX4 = some m.cls := findClass_of_methodNamed B.named
  have hlocks := B.notSynchronized
  subst hsz
  have hD := hD0.self (sz := s.heap.size)
  generalize hAe : va_A ((wW_X4_add ak ad hs sa h mm pg kn Sof Sendless Soften Sby Speak Sover Mway Mstate Mnext Msteps Mwritten Mstuffs Mtwins Mworn Mcells Mkept Mstack)) s.heap.size = A at hD hT hKT ⊢
  have hA : ∀ q : Nat, s.heap.size ≤ q → A q := fun q h => by rw [← hAe]; exact Or.inr h
  have hS : va_S A s.heap s.heap [] := va_S.rf
  have hl := lv_entry ([.ref hs, .ref h, .int (xi)]) (n := 5) (Nat.le_of_ble_eq_true rfl)
  rw [lg_entry_eq]
  generalize (lg_sl ([.ref hs, .ref h, .int (xi)]) ++ List.replicate (5 - (lg_sl ([.ref hs, .ref h, .int (xi)])).length) Slot.unset).toArray = ls at hl ⊢
  have hl : lv_has ls 5 [(0, .ref hs), (1, .ref h), (2, .int (xi))] := hl
  exact kj_X4_add_e hx hb hown hts hml hE hT hA (Nat.le_of_ble_eq_true rfl) (Nat.le_of_ble_eq_true rfl) ⟨Nat.le_of_ble_eq_true rfl, Nat.le_of_ble_eq_true rfl⟩ hs sa h mm pg pa kn cl Sof Mstuffs Mtwins Pst Pce Pgi Pln Pbears Ptold PgivenC Pleast Pgreat Pact Ptarget Pfrom Pmiddle Pend Pcode xi hKT Φ (fun Sendless Soften Sby Speak Sover Mway Mstate Mnext Msteps Mwritten Mworn Mcells Mkept Mstack H locs ls hw hP hD hS => W.vret hx hb hr (fun t ht hW => ⟨⟨(Sendless, Soften, Sby, Speak, Sover, Mway, Mstate, Mnext, Msteps, Mwritten, Mworn, Mcells, Mkept, Mstack), rfl, hw, by rw [ht]; exact hP, by rw [hAe]; exact hD⟩, by rw [hAe]; exact hS.F ht⟩) hS.2.2 dX4_add_167) Sendless Soften Sby Speak Sover Mway Mstate Mnext Msteps Mwritten Mworn Mcells Mkept Mstack _ _ _ hf hP hD hS hl
end
section
theorem dX5_isBlank_0 : decode cX5_isBlank 0 = .ok (.iload_n 0, 1) := by decide +kernel
theorem dX5_isBlank_1 : decode cX5_isBlank 1 = .ok (.bipush 10, 2) := by decide +kernel
theorem dX5_isBlank_3 : decode cX5_isBlank 3 = .ok (.if_icmp .eq 9, 3) := by decide +kernel
theorem dX5_isBlank_12 : decode cX5_isBlank 12 = .ok (.iconst 1, 1) := by decide +kernel
theorem dX5_isBlank_13 : decode cX5_isBlank 13 = .ok (.goto 4, 3) := by decide +kernel
theorem dX5_isBlank_6 : decode cX5_isBlank 6 = .ok (.iload_n 0, 1) := by decide +kernel
theorem dX5_isBlank_7 : decode cX5_isBlank 7 = .ok (.bipush 32, 2) := by decide +kernel
theorem dX5_isBlank_9 : decode cX5_isBlank 9 = .ok (.if_icmp .ne 7, 3) := by decide +kernel
theorem dX5_isBlank_16 : decode cX5_isBlank 16 = .ok (.iconst 0, 1) := by decide +kernel
theorem dX5_isBlank_17 : decode cX5_isBlank 17 = .ok (.ireturn, 1) := by decide +kernel
theorem dX5_kindOf_15 : decode cX5_kindOf 15 = .ok (.iload_n 0, 1) := by decide +kernel
theorem dX5_kindOf_16 : decode cX5_kindOf 16 = .ok (.bipush 48, 2) := by decide +kernel
theorem dX5_kindOf_18 : decode cX5_kindOf 18 = .ok (.if_icmp .lt 14, 3) := by decide +kernel
theorem dX5_kindOf_32 : decode cX5_kindOf 32 = .ok (.iconst 0, 1) := by decide +kernel
theorem dX5_kindOf_21 : decode cX5_kindOf 21 = .ok (.iload_n 0, 1) := by decide +kernel
theorem dX5_kindOf_22 : decode cX5_kindOf 22 = .ok (.bipush 57, 2) := by decide +kernel
theorem dX5_kindOf_24 : decode cX5_kindOf 24 = .ok (.if_icmp .gt 8, 3) := by decide +kernel
theorem dX5_kindOf_27 : decode cX5_kindOf 27 = .ok (.bipush 48, 2) := by decide +kernel
theorem dX5_kindOf_29 : decode cX5_kindOf 29 = .ok (.goto 4, 3) := by decide +kernel
theorem dX5_kindOf_0 : decode cX5_kindOf 0 = .ok (.iload_n 0, 1) := by decide +kernel
theorem dX5_kindOf_1 : decode cX5_kindOf 1 = .ok (.bipush 97, 2) := by decide +kernel
theorem dX5_kindOf_3 : decode cX5_kindOf 3 = .ok (.if_icmp .lt 12, 3) := by decide +kernel
theorem dX5_kindOf_6 : decode cX5_kindOf 6 = .ok (.iload_n 0, 1) := by decide +kernel
theorem dX5_kindOf_7 : decode cX5_kindOf 7 = .ok (.bipush 122, 2) := by decide +kernel
theorem dX5_kindOf_9 : decode cX5_kindOf 9 = .ok (.if_icmp .gt 6, 3) := by decide +kernel
theorem dX5_kindOf_12 : decode cX5_kindOf 12 = .ok (.bipush 97, 2) := by decide +kernel
theorem dX5_kindOf_14 : decode cX5_kindOf 14 = .ok (.ireturn, 1) := by decide +kernel
theorem dX5_kindOf_33 : decode cX5_kindOf 33 = .ok (.ireturn, 1) := by decide +kernel
theorem dX5_addBytes_48 : decode cX5_addBytes 48 = .ok (.aload_n 0, 1) := by decide +kernel
theorem dX5_addBytes_49 : decode cX5_addBytes 49 = .ok (.getfield 9, 3) := by decide +kernel
theorem dX5_addBytes_52 : decode cX5_addBytes 52 = .ok (.aload_n 0, 1) := by decide +kernel
theorem dX5_addBytes_53 : decode cX5_addBytes 53 = .ok (.getfield 29, 3) := by decide +kernel
theorem dX5_addBytes_56 : decode cX5_addBytes 56 = .ok (.iload 4, 2) := by decide +kernel
theorem dX5_addBytes_58 : decode cX5_addBytes 58 = .ok (.i2c, 1) := by decide +kernel
theorem dX5_addBytes_59 : decode cX5_addBytes 59 = .ok (.castore, 1) := by decide +kernel
theorem dX5_addBytes_60 : decode cX5_addBytes 60 = .ok (.aload_n 0, 1) := by decide +kernel
theorem dX5_addBytes_61 : decode cX5_addBytes 61 = .ok (.dup, 1) := by decide +kernel
theorem dX5_addBytes_62 : decode cX5_addBytes 62 = .ok (.getfield 29, 3) := by decide +kernel
theorem dX5_addBytes_65 : decode cX5_addBytes 65 = .ok (.iconst 1, 1) := by decide +kernel
theorem dX5_addBytes_66 : decode cX5_addBytes 66 = .ok (.iadd, 1) := by decide +kernel
theorem dX5_addBytes_67 : decode cX5_addBytes 67 = .ok (.putfield 29, 3) := by decide +kernel
theorem dX5_addBytes_70 : decode cX5_addBytes 70 = .ok (.iinc 3 (-8), 3) := by decide +kernel
theorem dX5_addBytes_73 : decode cX5_addBytes 73 = .ok (.goto (-70), 3) := by decide +kernel
theorem dX5_addBytes_3 : decode cX5_addBytes 3 = .ok (.iload_n 3, 1) := by decide +kernel
theorem dX5_addBytes_4 : decode cX5_addBytes 4 = .ok (.ifCond .lt 72, 3) := by decide +kernel
theorem dX5_addBytes_7 : decode cX5_addBytes 7 = .ok (.lload_n 1, 1) := by decide +kernel
theorem dX5_addBytes_8 : decode cX5_addBytes 8 = .ok (.iload_n 3, 1) := by decide +kernel
theorem dX5_addBytes_9 : decode cX5_addBytes 9 = .ok (.lushr, 1) := by decide +kernel
theorem dX5_addBytes_10 : decode cX5_addBytes 10 = .ok (.l2i, 1) := by decide +kernel
theorem dX5_addBytes_11 : decode cX5_addBytes 11 = .ok (.sipush 255, 3) := by decide +kernel
theorem dX5_addBytes_14 : decode cX5_addBytes 14 = .ok (.iand, 1) := by decide +kernel
theorem dX5_addBytes_15 : decode cX5_addBytes 15 = .ok (.istore 4, 2) := by decide +kernel
theorem dX5_addBytes_17 : decode cX5_addBytes 17 = .ok (.aload_n 0, 1) := by decide +kernel
theorem dX5_addBytes_18 : decode cX5_addBytes 18 = .ok (.getfield 29, 3) := by decide +kernel
theorem dX5_addBytes_21 : decode cX5_addBytes 21 = .ok (.sipush 1000, 3) := by decide +kernel
theorem dX5_addBytes_24 : decode cX5_addBytes 24 = .ok (.if_icmp .ge 46, 3) := by decide +kernel
theorem dX5_addBytes_27 : decode cX5_addBytes 27 = .ok (.iload 4, 2) := by decide +kernel
theorem dX5_addBytes_29 : decode cX5_addBytes 29 = .ok (.bipush 10, 2) := by decide +kernel
theorem dX5_addBytes_31 : decode cX5_addBytes 31 = .ok (.if_icmp .eq 17, 3) := by decide +kernel
theorem dX5_addBytes_34 : decode cX5_addBytes 34 = .ok (.iload 4, 2) := by decide +kernel
theorem dX5_addBytes_36 : decode cX5_addBytes 36 = .ok (.bipush 32, 2) := by decide +kernel
theorem dX5_addBytes_38 : decode cX5_addBytes 38 = .ok (.if_icmp .lt 32, 3) := by decide +kernel
theorem dX5_addBytes_41 : decode cX5_addBytes 41 = .ok (.iload 4, 2) := by decide +kernel
theorem dX5_addBytes_43 : decode cX5_addBytes 43 = .ok (.bipush 126, 2) := by decide +kernel
theorem dX5_addBytes_45 : decode cX5_addBytes 45 = .ok (.if_icmp .gt 25, 3) := by decide +kernel
theorem dX5_addBytes_0 : decode cX5_addBytes 0 = .ok (.bipush 56, 2) := by decide +kernel
theorem dX5_addBytes_2 : decode cX5_addBytes 2 = .ok (.istore_n 3, 1) := by decide +kernel
theorem dX5_addBytes_76 : decode cX5_addBytes 76 = .ok (.return_, 1) := by decide +kernel
theorem dX5_add_0 : decode cX5_add 0 = .ok (.aload_n 0, 1) := by decide +kernel
theorem dX5_add_1 : decode cX5_add 1 = .ok (.getfield 33, 3) := by decide +kernel
theorem dX5_add_4 : decode cX5_add 4 = .ok (.aload_n 0, 1) := by decide +kernel
theorem dX5_add_5 : decode cX5_add 5 = .ok (.getfield 17, 3) := by decide +kernel
theorem dX5_add_8 : decode cX5_add 8 = .ok (.arraylength, 1) := by decide +kernel
theorem dX5_add_9 : decode cX5_add 9 = .ok (.if_icmp .ge 43, 3) := by decide +kernel
theorem dX5_add_12 : decode cX5_add 12 = .ok (.aload_n 0, 1) := by decide +kernel
theorem dX5_add_13 : decode cX5_add 13 = .ok (.getfield 17, 3) := by decide +kernel
theorem dX5_add_16 : decode cX5_add 16 = .ok (.aload_n 0, 1) := by decide +kernel
theorem dX5_add_17 : decode cX5_add 17 = .ok (.getfield 33, 3) := by decide +kernel
theorem dX5_add_20 : decode cX5_add 20 = .ok (.aload_n 1, 1) := by decide +kernel
theorem dX5_add_21 : decode cX5_add 21 = .ok (.aastore, 1) := by decide +kernel
theorem dX5_add_22 : decode cX5_add 22 = .ok (.aload_n 0, 1) := by decide +kernel
theorem dX5_add_23 : decode cX5_add 23 = .ok (.getfield 21, 3) := by decide +kernel
theorem dX5_add_26 : decode cX5_add 26 = .ok (.aload_n 0, 1) := by decide +kernel
theorem dX5_add_27 : decode cX5_add 27 = .ok (.getfield 33, 3) := by decide +kernel
theorem dX5_add_30 : decode cX5_add 30 = .ok (.iload_n 2, 1) := by decide +kernel
theorem dX5_add_31 : decode cX5_add 31 = .ok (.iastore, 1) := by decide +kernel
theorem dX5_add_32 : decode cX5_add 32 = .ok (.aload_n 0, 1) := by decide +kernel
theorem dX5_add_33 : decode cX5_add 33 = .ok (.getfield 25, 3) := by decide +kernel
theorem dX5_add_36 : decode cX5_add 36 = .ok (.aload_n 0, 1) := by decide +kernel
theorem dX5_add_37 : decode cX5_add 37 = .ok (.getfield 33, 3) := by decide +kernel
theorem dX5_add_40 : decode cX5_add 40 = .ok (.lload_n 3, 1) := by decide +kernel
theorem dX5_add_41 : decode cX5_add 41 = .ok (.lastore, 1) := by decide +kernel
theorem dX5_add_42 : decode cX5_add 42 = .ok (.aload_n 0, 1) := by decide +kernel
theorem dX5_add_43 : decode cX5_add 43 = .ok (.dup, 1) := by decide +kernel
theorem dX5_add_44 : decode cX5_add 44 = .ok (.getfield 33, 3) := by decide +kernel
theorem dX5_add_47 : decode cX5_add 47 = .ok (.iconst 1, 1) := by decide +kernel
theorem dX5_add_48 : decode cX5_add 48 = .ok (.iadd, 1) := by decide +kernel
theorem dX5_add_49 : decode cX5_add 49 = .ok (.putfield 33, 3) := by decide +kernel
theorem dX5_add_52 : decode cX5_add 52 = .ok (.return_, 1) := by decide +kernel
def wp_X5_isBlank (xs : Int32)  (Φ : Int32 → Prop) : Prop := (xs = 10 → Φ 1 ) ∧ (¬ xs = 10 → (¬ xs = 32 → Φ 0 ) ∧ (xs = 32 → Φ 1 ))
set_option maxHeartbeats 4000000 in
set_option maxRecDepth 100000 in
theorem kj_X5_isBlank_e {p : Program} {l : Launch} {e : Env} {R : Room} {s : State} {m : MethodId} {args : Array Value} {below : List Frame} {meth : Method} {c : Code} {cells slots : Nat} {Q : State → Prop} {A : Nat → Prop} {D : va_G} {ak : Nat → ClassId} {ad : Nat → Nat} (hx : p.tables.exec = Jvm.exec) (hb : c.code = cX5_isBlank) (hown : s.vm.findClass RX5 = some m.cls) (hts : ∀ w ∈ wsX5_isBlank, w.before args s = true) (hml : c.maxLocals = 1) (hE : EV D ak s) (hT : ST D ak ad A s s.heap) (hA : ∀ q, s.heap.size ≤ q → A q) (xs : Int32)  (Φ : Int32 → Prop)
    (kR17 : ∀ (r : Int32)  (H : Heap) (locs : List Loc) (ls : Array Slot), (r = 0 ∨ r = 1) → Φ r  → va_P D vwCl [] H → va_D A [] → va_S A s.heap H locs → W p l e R s m args below meth c H locs cells slots Q (F0 m 17 ls [.int r]))
    : ∀  (H : Heap) (locs : List Loc) (ls : Array Slot), wp_X5_isBlank xs  Φ → va_P D vwCl [] H → va_D A [] → va_S A s.heap H locs → lv_has ls 1 [(0, .int (xs))] → W p l e R s m args below meth c H locs cells slots Q (F0 m 0 ls ([])) := by
  intro  H locs ls hw hP hD hS hl
  delta wp_X5_isBlank at hw
  refine lv_iload_n hx hb dX5_isBlank_0 rfl (lv_at hl 0 rfl) ?_
  refine lv_bipush (v := 10) hx hb dX5_isBlank_1 (by decide) ?_
  refine lv_icmp_eq (tgt := 12) hx hb dX5_isBlank_3 (by decide) (fun c_1 => ?_) (fun c_1 => ?_)
  · replace hw := hw.1 c_1
    refine lv_iconst (v := 1) hx hb dX5_isBlank_12 (by decide) ?_
    refine lv_goto (tgt := 17) hx hb dX5_isBlank_13 (by decide) ?_
    exact kR17 1  _ _ _ (Or.inr rfl) hw hP hD hS
  · replace hw := hw.2 c_1
    refine lv_iload_n hx hb dX5_isBlank_6 rfl (lv_at hl 0 rfl) ?_
    refine lv_bipush (v := 32) hx hb dX5_isBlank_7 (by decide) ?_
    refine lv_icmp_ne (tgt := 16) hx hb dX5_isBlank_9 (by decide) (fun c_2 => ?_) (fun c_2 => ?_)
    · replace hw := hw.1 c_2
      refine lv_iconst (v := 0) hx hb dX5_isBlank_16 (by decide) ?_
      exact kR17 0  _ _ _ (Or.inl rfl) hw hP hD hS
    · replace hw := hw.2 c_2
      refine lv_iconst (v := 1) hx hb dX5_isBlank_12 (by decide) ?_
      refine lv_goto (tgt := 17) hx hb dX5_isBlank_13 (by decide) ?_
      exact kR17 1  _ _ _ (Or.inr rfl) hw hP hD hS
set_option maxHeartbeats 4000000 in
set_option maxRecDepth 100000 in
theorem c_X5_isBlank (l : Launch) (D : va_G) (ak : Nat → ClassId) (ad : Nat → Nat) (sz : Nat) (xs : Int32) (Φ : Int32 → Prop) (hf : wp_X5_isBlank xs Φ) : Met l yX5_isBlank wsX5_isBlank ({ frames := 0, cells := 0, slots := 0, locals := 0 }) (cPre D ak ad [.int (xs)] ([]) sz) (cI D (S := Unit) (fun (r : Int32) (u : Unit) => Φ r ) (fun u => []) ([]) sz) 0 0 (va_A ([]) sz) := by
  refine Met.ofW (cc := cX5_isBlank) (maxL := 1) (ret := (some .boolean)) (by decide) rfl ?_
  intro p e s m args below meth c s₁ B hml hv
  obtain ⟨rfl, hsz, hP, hE, hD0, hT⟩ := hv
  have hx := B.exec
  have hb := B.bytes
  have hr := B.returns
  have hts := atoms_spec (ws := wsX5_isBlank) B.pre
  have hown : s.vm.findClass RX5 = some m.cls := findClass_of_methodNamed B.named
  have hlocks := B.notSynchronized
  subst hsz
  have hD := hD0.self (sz := s.heap.size)
  generalize hAe : va_A ([]) s.heap.size = A at hD hT ⊢
  have hA : ∀ q : Nat, s.heap.size ≤ q → A q := fun q h => by rw [← hAe]; exact Or.inr h
  have hS : va_S A s.heap s.heap [] := va_S.rf
  have hl := lv_entry ([.int (xs)]) (n := 1) (Nat.le_of_ble_eq_true rfl)
  rw [lg_entry_eq]
  generalize (lg_sl ([.int (xs)]) ++ List.replicate (1 - (lg_sl ([.int (xs)])).length) Slot.unset).toArray = ls at hl ⊢
  have hl : lv_has ls 1 [(0, .int (xs))] := hl
  exact kj_X5_isBlank_e hx hb hown hts hml hE hT hA xs Φ (fun r  H locs ls hz hw hP hD hS => W.zret (v := r) hx hb hr (bl_zn hz) (fun t ht hW => ⟨⟨r, (), rfl, hw, by rw [ht]; exact hP, by rw [hAe]; exact hD⟩, by rw [hAe]; exact hS.F ht⟩) hS.2.2 dX5_isBlank_17)  _ _ _ hf hP hD hS hl

def kf_X5_kindOf_15 (xs : Int32)  (Φ : Int32 → Prop)  : Prop := (xs < 48 → Φ 0 ) ∧ (¬ xs < 48 → (57 < xs → Φ 0 ) ∧ (¬ 57 < xs → Φ 48 ))
set_option maxHeartbeats 4000000 in
set_option maxRecDepth 100000 in
theorem kj_X5_kindOf_15 {p : Program} {l : Launch} {e : Env} {R : Room} {s : State} {m : MethodId} {args : Array Value} {below : List Frame} {meth : Method} {c : Code} {cells slots : Nat} {Q : State → Prop} {A : Nat → Prop} {D : va_G} {ak : Nat → ClassId} {ad : Nat → Nat} (hx : p.tables.exec = Jvm.exec) (hb : c.code = cX5_kindOf) (hown : s.vm.findClass RX5 = some m.cls) (hts : ∀ w ∈ wsX5_kindOf, w.before args s = true) (hml : c.maxLocals = 1) (hE : EV D ak s) (hT : ST D ak ad A s s.heap) (hA : ∀ q, s.heap.size ≤ q → A q) (xs : Int32)  (Φ : Int32 → Prop)
    (kR14 : ∀ (r : Int32)  (H : Heap) (locs : List Loc) (ls : Array Slot), Φ r  → va_P D vwCl [] H → va_D A [] → va_S A s.heap H locs → W p l e R s m args below meth c H locs cells slots Q (F0 m 14 ls [.int r]))
    (kR33 : ∀ (r : Int32)  (H : Heap) (locs : List Loc) (ls : Array Slot), Φ r  → va_P D vwCl [] H → va_D A [] → va_S A s.heap H locs → W p l e R s m args below meth c H locs cells slots Q (F0 m 33 ls [.int r]))
    : ∀  (H : Heap) (locs : List Loc) (ls : Array Slot), kf_X5_kindOf_15 xs  Φ  → va_P D vwCl [] H → va_D A [] → va_S A s.heap H locs → lv_has ls 1 [(0, .int (xs))] → W p l e R s m args below meth c H locs cells slots Q (F0 m 15 ls ([])) := by
  intro  H locs ls hw hP hD hS hl
  delta kf_X5_kindOf_15 at hw
  refine lv_iload_n hx hb dX5_kindOf_15 rfl (lv_at hl 0 rfl) ?_
  refine lv_bipush (v := 48) hx hb dX5_kindOf_16 (by decide) ?_
  refine lv_icmp_lt (tgt := 32) hx hb dX5_kindOf_18 (by decide) (fun c_2 => ?_) (fun c_2 => ?_)
  · replace hw := hw.1 c_2
    refine lv_iconst (v := 0) hx hb dX5_kindOf_32 (by decide) ?_
    exact kR33 0  _ _ _ hw hP hD hS
  · replace hw := hw.2 c_2
    refine lv_iload_n hx hb dX5_kindOf_21 rfl (lv_at hl 0 rfl) ?_
    refine lv_bipush (v := 57) hx hb dX5_kindOf_22 (by decide) ?_
    refine lv_icmp_gt (tgt := 32) hx hb dX5_kindOf_24 (by decide) (fun c_3 => ?_) (fun c_3 => ?_)
    · replace hw := hw.1 c_3
      refine lv_iconst (v := 0) hx hb dX5_kindOf_32 (by decide) ?_
      exact kR33 0  _ _ _ hw hP hD hS
    · replace hw := hw.2 c_3
      refine lv_bipush (v := 48) hx hb dX5_kindOf_27 (by decide) ?_
      refine lv_goto (tgt := 33) hx hb dX5_kindOf_29 (by decide) ?_
      exact kR33 48  _ _ _ hw hP hD hS

def wp_X5_kindOf (xs : Int32)  (Φ : Int32 → Prop) : Prop := (xs < 97 → kf_X5_kindOf_15 xs  Φ ) ∧ (¬ xs < 97 → (122 < xs → kf_X5_kindOf_15 xs  Φ ) ∧ (¬ 122 < xs → Φ 97 ))
set_option maxHeartbeats 4000000 in
set_option maxRecDepth 100000 in
theorem kj_X5_kindOf_e {p : Program} {l : Launch} {e : Env} {R : Room} {s : State} {m : MethodId} {args : Array Value} {below : List Frame} {meth : Method} {c : Code} {cells slots : Nat} {Q : State → Prop} {A : Nat → Prop} {D : va_G} {ak : Nat → ClassId} {ad : Nat → Nat} (hx : p.tables.exec = Jvm.exec) (hb : c.code = cX5_kindOf) (hown : s.vm.findClass RX5 = some m.cls) (hts : ∀ w ∈ wsX5_kindOf, w.before args s = true) (hml : c.maxLocals = 1) (hE : EV D ak s) (hT : ST D ak ad A s s.heap) (hA : ∀ q, s.heap.size ≤ q → A q) (xs : Int32)  (Φ : Int32 → Prop)
    (kR14 : ∀ (r : Int32)  (H : Heap) (locs : List Loc) (ls : Array Slot), Φ r  → va_P D vwCl [] H → va_D A [] → va_S A s.heap H locs → W p l e R s m args below meth c H locs cells slots Q (F0 m 14 ls [.int r]))
    (kR33 : ∀ (r : Int32)  (H : Heap) (locs : List Loc) (ls : Array Slot), Φ r  → va_P D vwCl [] H → va_D A [] → va_S A s.heap H locs → W p l e R s m args below meth c H locs cells slots Q (F0 m 33 ls [.int r]))
    : ∀  (H : Heap) (locs : List Loc) (ls : Array Slot), wp_X5_kindOf xs  Φ → va_P D vwCl [] H → va_D A [] → va_S A s.heap H locs → lv_has ls 1 [(0, .int (xs))] → W p l e R s m args below meth c H locs cells slots Q (F0 m 0 ls ([])) := by
  intro  H locs ls hw hP hD hS hl
  delta wp_X5_kindOf at hw
  refine lv_iload_n hx hb dX5_kindOf_0 rfl (lv_at hl 0 rfl) ?_
  refine lv_bipush (v := 97) hx hb dX5_kindOf_1 (by decide) ?_
  refine lv_icmp_lt (tgt := 15) hx hb dX5_kindOf_3 (by decide) (fun c_1 => ?_) (fun c_1 => ?_)
  · replace hw := hw.1 c_1
    exact kj_X5_kindOf_15 hx hb hown hts hml hE hT hA xs  Φ  kR14 kR33  _ _ _ hw hP hD hS (lv_sub hl [0] rfl)
  · replace hw := hw.2 c_1
    refine lv_iload_n hx hb dX5_kindOf_6 rfl (lv_at hl 0 rfl) ?_
    refine lv_bipush (v := 122) hx hb dX5_kindOf_7 (by decide) ?_
    refine lv_icmp_gt (tgt := 15) hx hb dX5_kindOf_9 (by decide) (fun c_4 => ?_) (fun c_4 => ?_)
    · replace hw := hw.1 c_4
      exact kj_X5_kindOf_15 hx hb hown hts hml hE hT hA xs  Φ  kR14 kR33  _ _ _ hw hP hD hS (lv_sub hl [0] rfl)
    · replace hw := hw.2 c_4
      refine lv_bipush (v := 97) hx hb dX5_kindOf_12 (by decide) ?_
      exact kR14 97  _ _ _ hw hP hD hS
set_option maxHeartbeats 4000000 in
set_option maxRecDepth 100000 in
theorem c_X5_kindOf (l : Launch) (D : va_G) (ak : Nat → ClassId) (ad : Nat → Nat) (sz : Nat) (xs : Int32) (Φ : Int32 → Prop) (hf : wp_X5_kindOf xs Φ) : Met l yX5_kindOf wsX5_kindOf ({ frames := 0, cells := 0, slots := 0, locals := 0 }) (cPre D ak ad [.int (xs)] ([]) sz) (cI D (S := Unit) (fun (r : Int32) (u : Unit) => Φ r ) (fun u => []) ([]) sz) 0 0 (va_A ([]) sz) := by
  refine Met.ofW (cc := cX5_kindOf) (maxL := 1) (ret := (some .int)) (by decide) rfl ?_
  intro p e s m args below meth c s₁ B hml hv
  obtain ⟨rfl, hsz, hP, hE, hD0, hT⟩ := hv
  have hx := B.exec
  have hb := B.bytes
  have hr := B.returns
  have hts := atoms_spec (ws := wsX5_kindOf) B.pre
  have hown : s.vm.findClass RX5 = some m.cls := findClass_of_methodNamed B.named
  have hlocks := B.notSynchronized
  subst hsz
  have hD := hD0.self (sz := s.heap.size)
  generalize hAe : va_A ([]) s.heap.size = A at hD hT ⊢
  have hA : ∀ q : Nat, s.heap.size ≤ q → A q := fun q h => by rw [← hAe]; exact Or.inr h
  have hS : va_S A s.heap s.heap [] := va_S.rf
  have hl := lv_entry ([.int (xs)]) (n := 1) (Nat.le_of_ble_eq_true rfl)
  rw [lg_entry_eq]
  generalize (lg_sl ([.int (xs)]) ++ List.replicate (1 - (lg_sl ([.int (xs)])).length) Slot.unset).toArray = ls at hl ⊢
  have hl : lv_has ls 1 [(0, .int (xs))] := hl
  exact kj_X5_kindOf_e hx hb hown hts hml hE hT hA xs Φ (fun r  H locs ls hw hP hD hS => W.iret (v := r) hx hb hr (fun t ht hW => ⟨⟨r, (), rfl, hw, by rw [ht]; exact hP, by rw [hAe]; exact hD⟩, by rw [hAe]; exact hS.F ht⟩) hS.2.2 dX5_kindOf_14) (fun r  H locs ls hw hP hD hS => W.iret (v := r) hx hb hr (fun t ht hW => ⟨⟨r, (), rfl, hw, by rw [ht]; exact hP, by rw [hAe]; exact hD⟩, by rw [hAe]; exact hS.F ht⟩) hS.2.2 dX5_kindOf_33)  _ _ _ hf hP hD hS hl

def wW_X5_addBytes (ak : Nat → ClassId) (ad : Nat → Nat) (ht : Nat) (ta : Nat → Nat) (Tlen : Int32) (Tcnt : Int32) (Tsigns : Nat → Int32) : va_W := [(ht, .inr (5, tob ta (Tlen) (Tcnt))), ((ta 0), .inl (ak 2, 1000, .inl (Tsigns)))]
def kf_X5_addBytes_48 (xb : Int64) (κ3 : Int32 → (Nat → Int32) → Int32 → Prop) (Φ : Int32 → (Nat → Int32) → Prop) (Tlen : Int32) (Tsigns : Nat → Int32) (l3 : Int32) (l4 : Int32) : Prop := vp_in Tlen 1000 ∧ κ3 (Tlen + 1) (upd Tsigns (Tlen).toNatClampNeg (vp_nar .char ((l4.toUInt32 % 65536).toInt32))) (l3 + (-8))
set_option maxHeartbeats 4000000 in
set_option maxRecDepth 100000 in
theorem kj_X5_addBytes_48 {p : Program} {l : Launch} {e : Env} {R : Room} {s : State} {m : MethodId} {args : Array Value} {below : List Frame} {meth : Method} {c : Code} {cells slots : Nat} {Q : State → Prop} {A : Nat → Prop} {D : va_G} {ak : Nat → ClassId} {ad : Nat → Nat} (hx : p.tables.exec = Jvm.exec) (hb : c.code = cX5_addBytes) (hown : s.vm.findClass RX5 = some m.cls) (hts : ∀ w ∈ wsX5_addBytes, w.before args s = true) (hml : c.maxLocals = 5) (hE : EV D ak s) (hT : ST D ak ad A s s.heap) (hA : ∀ q, s.heap.size ≤ q → A q) (ht : Nat) (ta : Nat → Nat) (Tcnt : Int32) (xb : Int64) (κ3 : Int32 → (Nat → Int32) → Int32 → Prop) (Φ : Int32 → (Nat → Int32) → Prop)
    (kk3 : ∀ (Tlen : Int32) (Tsigns : Nat → Int32) (l3 : Int32) (H : Heap) (locs : List Loc) (ls : Array Slot), κ3 Tlen Tsigns l3 → va_P D vwCl (wW_X5_addBytes ak ad ht ta Tlen Tcnt Tsigns) H → va_D A (wW_X5_addBytes ak ad ht ta Tlen Tcnt Tsigns) → va_S A s.heap H locs → lv_has ls 5 [(0, .ref ht), (1, .long (xb)), (3, .int (l3))] → W p l e R s m args below meth c H locs cells slots Q (F0 m 3 ls ([])))
    (kR76 : ∀ (Tlen : Int32) (Tsigns : Nat → Int32) (H : Heap) (locs : List Loc) (ls : Array Slot), Φ Tlen Tsigns → va_P D vwCl (wW_X5_addBytes ak ad ht ta Tlen Tcnt Tsigns) H → va_D A (wW_X5_addBytes ak ad ht ta Tlen Tcnt Tsigns) → va_S A s.heap H locs → W p l e R s m args below meth c H locs cells slots Q (F0 m 76 ls []))
    : ∀ (Tlen : Int32) (Tsigns : Nat → Int32) (l3 : Int32) (l4 : Int32) (H : Heap) (locs : List Loc) (ls : Array Slot), kf_X5_addBytes_48 xb κ3 Φ Tlen Tsigns l3 l4 → va_P D vwCl (wW_X5_addBytes ak ad ht ta Tlen Tcnt Tsigns) H → va_D A (wW_X5_addBytes ak ad ht ta Tlen Tcnt Tsigns) → va_S A s.heap H locs → lv_has ls 5 [(0, .ref ht), (1, .long (xb)), (3, .int (l3)), (4, .int (l4))] → W p l e R s m args below meth c H locs cells slots Q (F0 m 48 ls ([])) := by
  intro Tlen Tsigns l3 l4 H locs ls hw hP hD hS hl
  delta kf_X5_addBytes_48 at hw
  refine lv_aload_n hx hb dX5_addBytes_48 rfl (lv_at hl 0 rfl) ?_
  refine vt_get (D := D) (ci := 5) (v := .ref (ta 0)) (C := RX5) (T := TX5) (N := 6) hx hb hts (fun w h => wm_c (wc_X5 w h)) hown hE.1 hP 0 rfl rfl 0 (by decide) tX5_0 (hts (.fieldLink RX5 9 "WornLines$Tape" "signs" "[C") (wm_c hw_264)) (fun _ h9 => h9) rfl dX5_addBytes_49 ?_
  refine lv_aload_n hx hb dX5_addBytes_52 rfl (lv_at hl 0 rfl) ?_
  refine vt_get (D := D) (ci := 5) (v := .int (Tlen)) (C := RX5) (T := TX5) (N := 6) hx hb hts (fun w h => wm_c (wc_X5 w h)) hown hE.1 hP 0 rfl rfl 1 (by decide) tX5_1 (hts (.fieldLink RX5 29 "WornLines$Tape" "length" "I") (wm_c hw_392)) (fun _ h9 => h9) rfl dX5_addBytes_53 ?_
  refine lv_iload hx hb dX5_addBytes_56 (lv_at hl 3 rfl) ?_
  refine lv_i2c (v := (l4.toUInt32 % 65536).toInt32) hx hb dX5_addBytes_58 rfl ?_
  obtain ⟨h_4, hw⟩ := hw
  refine va_cast hx hb hE.1 hP hD hS 1 2 rfl rfl (h_4) dX5_addBytes_59 (fun H locs hP hD hS => ?_)
  have hP : va_P D vwCl (wW_X5_addBytes ak ad ht ta Tlen Tcnt (upd Tsigns (Tlen).toNatClampNeg (vp_nar .char ((l4.toUInt32 % 65536).toInt32)))) H := hP
  have hD : va_D A (wW_X5_addBytes ak ad ht ta Tlen Tcnt (upd Tsigns (Tlen).toNatClampNeg (vp_nar .char ((l4.toUInt32 % 65536).toInt32)))) := hD
  refine lv_aload_n hx hb dX5_addBytes_60 rfl (lv_at hl 0 rfl) ?_
  refine lv_dup hx hb dX5_addBytes_61 rfl ?_
  refine vt_get (D := D) (ci := 5) (v := .int (Tlen)) (C := RX5) (T := TX5) (N := 6) hx hb hts (fun w h => wm_c (wc_X5 w h)) hown hE.1 hP 0 rfl rfl 1 (by decide) tX5_1 (hts (.fieldLink RX5 29 "WornLines$Tape" "length" "I") (wm_c hw_392)) (fun _ h9 => h9) rfl dX5_addBytes_62 ?_
  refine lv_iconst (v := 1) hx hb dX5_addBytes_65 (by decide) ?_
  refine lv_iadd hx hb dX5_addBytes_66 ?_
  refine vt_put (D := D) (ci := 5) (v := .int (Tlen + 1)) (ty := .int) (C := RX5) (T := TX5) (N := 6) hx hb hts (fun w h => wm_c (wc_X5 w h)) tyX5 tyX5_ok nmX5 hown hE.1 hP hD hS 0 rfl rfl 1 (by decide) tX5_1 (hts (.fieldLink RX5 29 "WornLines$Tape" "length" "I") (wm_c hw_392)) (fun _ h9 => h9) rfl pf_0 (rfl) rfl (Nat.le_of_ble_eq_true rfl) dX5_addBytes_67 (fun H locs hP hD hS => ?_)
  have hP : va_P D vwCl (wW_X5_addBytes ak ad ht ta (Tlen + 1) Tcnt (upd Tsigns (Tlen).toNatClampNeg (vp_nar .char ((l4.toUInt32 % 65536).toInt32)))) H := hP
  have hD : va_D A (wW_X5_addBytes ak ad ht ta (Tlen + 1) Tcnt (upd Tsigns (Tlen).toNatClampNeg (vp_nar .char ((l4.toUInt32 % 65536).toInt32)))) := hD
  refine lv_iinc (v := (l3 + (-8))) (lv' := [(3, .int (l3 + (-8))), (0, .ref ht), (1, .long (xb)), (4, .int (l4))]) hx hb dX5_addBytes_70 hl (k := 2) rfl (rfl) (by decide) rfl (fun ls hl => ?_)
  refine lv_goto (tgt := 3) hx hb dX5_addBytes_73 (by decide) ?_
  exact kk3 (Tlen + 1) (upd Tsigns (Tlen).toNatClampNeg (vp_nar .char ((l4.toUInt32 % 65536).toInt32))) (l3 + (-8)) _ _ _ hw hP hD hS (lv_sub hl [1, 2, 0] rfl)

def lb_X5_addBytes_3 (xb : Int64)  (Φ : Int32 → (Nat → Int32) → Prop) (back : Int32 → (Nat → Int32) → Int32 → Prop) (Tlen : Int32) (Tsigns : Nat → Int32) (l3 : Int32) : Prop := (l3 < 0 → Φ Tlen Tsigns) ∧ (¬ l3 < 0 → (1000 ≤ Tlen → back Tlen Tsigns (l3 + (-8))) ∧ (¬ 1000 ≤ Tlen → ((((((xb).toUInt64 >>> (l3.toInt64.toUInt64 &&& Int64.toUInt64 63)).toInt64).toInt32) &&& 255) = 10 → kf_X5_addBytes_48 xb back Φ Tlen Tsigns l3 (((((xb).toUInt64 >>> (l3.toInt64.toUInt64 &&& Int64.toUInt64 63)).toInt64).toInt32) &&& 255)) ∧ (¬ (((((xb).toUInt64 >>> (l3.toInt64.toUInt64 &&& Int64.toUInt64 63)).toInt64).toInt32) &&& 255) = 10 → ((((((xb).toUInt64 >>> (l3.toInt64.toUInt64 &&& Int64.toUInt64 63)).toInt64).toInt32) &&& 255) < 32 → back Tlen Tsigns (l3 + (-8))) ∧ (¬ (((((xb).toUInt64 >>> (l3.toInt64.toUInt64 &&& Int64.toUInt64 63)).toInt64).toInt32) &&& 255) < 32 → (126 < (((((xb).toUInt64 >>> (l3.toInt64.toUInt64 &&& Int64.toUInt64 63)).toInt64).toInt32) &&& 255) → back Tlen Tsigns (l3 + (-8))) ∧ (¬ 126 < (((((xb).toUInt64 >>> (l3.toInt64.toUInt64 &&& Int64.toUInt64 63)).toInt64).toInt32) &&& 255) → kf_X5_addBytes_48 xb back Φ Tlen Tsigns l3 (((((xb).toUInt64 >>> (l3.toInt64.toUInt64 &&& Int64.toUInt64 63)).toInt64).toInt32) &&& 255))))))
def lf_X5_addBytes_3 (xb : Int64)  (Φ : Int32 → (Nat → Int32) → Prop) : Nat → Int32 → (Nat → Int32) → Int32 → Prop
  | 0, _, _, _ => False
  | n_ + 1, Tlen, Tsigns, l3 => lb_X5_addBytes_3 xb  Φ (lf_X5_addBytes_3 xb  Φ n_) Tlen Tsigns l3
theorem li_X5_addBytes_3 (xb : Int64)  (Φ : Int32 → (Nat → Int32) → Prop) (Inv : Int32 → (Nat → Int32) → Int32 → Prop) (mu : Int32 → (Nat → Int32) → Int32 → Nat) (hs : ∀ (back : Int32 → (Nat → Int32) → Int32 → Prop) (Tlen : Int32) (Tsigns : Nat → Int32) (l3 : Int32), Inv Tlen Tsigns l3 → (∀ (Tlen' : Int32) (Tsigns' : Nat → Int32) (l3' : Int32), Inv Tlen' Tsigns' l3' → mu Tlen' Tsigns' l3' < mu Tlen Tsigns l3 → back Tlen' Tsigns' l3') → lb_X5_addBytes_3 xb  Φ back Tlen Tsigns l3) : ∀ (n_ : Nat) (Tlen : Int32) (Tsigns : Nat → Int32) (l3 : Int32), Inv Tlen Tsigns l3 → mu Tlen Tsigns l3 < n_ → lf_X5_addBytes_3 xb  Φ n_ Tlen Tsigns l3 := by
  intro n_
  induction n_ with
  | zero => intro Tlen Tsigns l3 _ h; exact absurd h (Nat.not_lt_zero _)
  | succ n_ ih => intro Tlen Tsigns l3 hI hm; exact hs _ Tlen Tsigns l3 hI (fun Tlen' Tsigns' l3' h1 h2 => ih Tlen' Tsigns' l3' h1 (by omega))
set_option maxHeartbeats 4000000 in
set_option maxRecDepth 100000 in
theorem lp_X5_addBytes_3 {p : Program} {l : Launch} {e : Env} {R : Room} {s : State} {m : MethodId} {args : Array Value} {below : List Frame} {meth : Method} {c : Code} {cells slots : Nat} {Q : State → Prop} {A : Nat → Prop} {D : va_G} {ak : Nat → ClassId} {ad : Nat → Nat} (hx : p.tables.exec = Jvm.exec) (hb : c.code = cX5_addBytes) (hown : s.vm.findClass RX5 = some m.cls) (hts : ∀ w ∈ wsX5_addBytes, w.before args s = true) (hml : c.maxLocals = 5) (hE : EV D ak s) (hT : ST D ak ad A s s.heap) (hA : ∀ q, s.heap.size ≤ q → A q) (ht : Nat) (ta : Nat → Nat) (Tcnt : Int32) (xb : Int64)  (Φ : Int32 → (Nat → Int32) → Prop)
    (kR76 : ∀ (Tlen : Int32) (Tsigns : Nat → Int32) (H : Heap) (locs : List Loc) (ls : Array Slot), Φ Tlen Tsigns → va_P D vwCl (wW_X5_addBytes ak ad ht ta Tlen Tcnt Tsigns) H → va_D A (wW_X5_addBytes ak ad ht ta Tlen Tcnt Tsigns) → va_S A s.heap H locs → W p l e R s m args below meth c H locs cells slots Q (F0 m 76 ls []))
    : ∀ (n_ : Nat) (Tlen : Int32) (Tsigns : Nat → Int32) (l3 : Int32) (H : Heap) (locs : List Loc) (ls : Array Slot), lf_X5_addBytes_3 xb  Φ n_ Tlen Tsigns l3 → va_P D vwCl (wW_X5_addBytes ak ad ht ta Tlen Tcnt Tsigns) H → va_D A (wW_X5_addBytes ak ad ht ta Tlen Tcnt Tsigns) → va_S A s.heap H locs → lv_has ls 5 [(0, .ref ht), (1, .long (xb)), (3, .int (l3))] → W p l e R s m args below meth c H locs cells slots Q (F0 m 3 ls ([])) := by
  intro n_
  induction n_ with
  | zero =>
    intro Tlen Tsigns l3 H locs ls hw
    exact hw.elim
  | succ n_ ih =>
    intro Tlen Tsigns l3 H locs ls hw hP hD hS hl
    have hw : lb_X5_addBytes_3 xb  Φ (lf_X5_addBytes_3 xb  Φ n_) Tlen Tsigns l3 := hw
    delta lb_X5_addBytes_3 at hw
    refine lv_iload_n hx hb dX5_addBytes_3 rfl (lv_at hl 2 rfl) ?_
    refine lv_if_lt (tgt := 76) hx hb dX5_addBytes_4 (by decide) (fun c_1 => ?_) (fun c_1 => ?_)
    · replace hw := hw.1 c_1
      exact kR76 Tlen Tsigns _ _ _ hw hP hD hS
    · replace hw := hw.2 c_1
      refine lv_lload_n hx hb dX5_addBytes_7 rfl (lv_at hl 1 rfl) ?_
      refine lv_iload_n hx hb dX5_addBytes_8 rfl (lv_at hl 2 rfl) ?_
      refine lv_lushr (v := ((xb).toUInt64 >>> (l3.toInt64.toUInt64 &&& Int64.toUInt64 63)).toInt64) hx hb dX5_addBytes_9 rfl ?_
      refine lv_l2i (v := (((xb).toUInt64 >>> (l3.toInt64.toUInt64 &&& Int64.toUInt64 63)).toInt64).toInt32) hx hb dX5_addBytes_10 rfl ?_
      refine lv_sipush (v := 255) hx hb dX5_addBytes_11 (by decide) ?_
      refine lv_iand hx hb dX5_addBytes_14 ?_
      refine lv_istore (lv' := [(4, .int (((((xb).toUInt64 >>> (l3.toInt64.toUInt64 &&& Int64.toUInt64 63)).toInt64).toInt32) &&& 255)), (0, .ref ht), (1, .long (xb)), (3, .int (l3))]) hx hb dX5_addBytes_15 hl (by decide) rfl (fun ls hl => ?_)
      refine lv_aload_n hx hb dX5_addBytes_17 rfl (lv_at hl 1 rfl) ?_
      refine vt_get (D := D) (ci := 5) (v := .int (Tlen)) (C := RX5) (T := TX5) (N := 6) hx hb hts (fun w h => wm_c (wc_X5 w h)) hown hE.1 hP 0 rfl rfl 1 (by decide) tX5_1 (hts (.fieldLink RX5 29 "WornLines$Tape" "length" "I") (wm_c hw_392)) (fun _ h9 => h9) rfl dX5_addBytes_18 ?_
      refine lv_sipush (v := 1000) hx hb dX5_addBytes_21 (by decide) ?_
      refine lv_icmp_ge (tgt := 70) hx hb dX5_addBytes_24 (by decide) (fun c_2 => ?_) (fun c_2 => ?_)
      · replace hw := hw.1 c_2
        refine lv_iinc (v := (l3 + (-8))) (lv' := [(3, .int (l3 + (-8))), (4, .int (((((xb).toUInt64 >>> (l3.toInt64.toUInt64 &&& Int64.toUInt64 63)).toInt64).toInt32) &&& 255)), (0, .ref ht), (1, .long (xb))]) hx hb dX5_addBytes_70 hl (k := 3) rfl (rfl) (by decide) rfl (fun ls hl => ?_)
        refine lv_goto (tgt := 3) hx hb dX5_addBytes_73 (by decide) ?_
        exact ih Tlen Tsigns (l3 + (-8)) _ _ _ hw hP hD hS (lv_sub hl [2, 3, 0] rfl)
      · replace hw := hw.2 c_2
        refine lv_iload hx hb dX5_addBytes_27 (lv_at hl 0 rfl) ?_
        refine lv_bipush (v := 10) hx hb dX5_addBytes_29 (by decide) ?_
        refine lv_icmp_eq (tgt := 48) hx hb dX5_addBytes_31 (by decide) (fun c_3 => ?_) (fun c_3 => ?_)
        · replace hw := hw.1 c_3
          exact kj_X5_addBytes_48 hx hb hown hts hml hE hT hA ht ta Tcnt xb _ Φ ih kR76 Tlen Tsigns l3 (((((xb).toUInt64 >>> (l3.toInt64.toUInt64 &&& Int64.toUInt64 63)).toInt64).toInt32) &&& 255) _ _ _ hw hP hD hS (lv_sub hl [1, 2, 3, 0] rfl)
        · replace hw := hw.2 c_3
          refine lv_iload hx hb dX5_addBytes_34 (lv_at hl 0 rfl) ?_
          refine lv_bipush (v := 32) hx hb dX5_addBytes_36 (by decide) ?_
          refine lv_icmp_lt (tgt := 70) hx hb dX5_addBytes_38 (by decide) (fun c_5 => ?_) (fun c_5 => ?_)
          · replace hw := hw.1 c_5
            refine lv_iinc (v := (l3 + (-8))) (lv' := [(3, .int (l3 + (-8))), (4, .int (((((xb).toUInt64 >>> (l3.toInt64.toUInt64 &&& Int64.toUInt64 63)).toInt64).toInt32) &&& 255)), (0, .ref ht), (1, .long (xb))]) hx hb dX5_addBytes_70 hl (k := 3) rfl (rfl) (by decide) rfl (fun ls hl => ?_)
            refine lv_goto (tgt := 3) hx hb dX5_addBytes_73 (by decide) ?_
            exact ih Tlen Tsigns (l3 + (-8)) _ _ _ hw hP hD hS (lv_sub hl [2, 3, 0] rfl)
          · replace hw := hw.2 c_5
            refine lv_iload hx hb dX5_addBytes_41 (lv_at hl 0 rfl) ?_
            refine lv_bipush (v := 126) hx hb dX5_addBytes_43 (by decide) ?_
            refine lv_icmp_gt (tgt := 70) hx hb dX5_addBytes_45 (by decide) (fun c_6 => ?_) (fun c_6 => ?_)
            · replace hw := hw.1 c_6
              refine lv_iinc (v := (l3 + (-8))) (lv' := [(3, .int (l3 + (-8))), (4, .int (((((xb).toUInt64 >>> (l3.toInt64.toUInt64 &&& Int64.toUInt64 63)).toInt64).toInt32) &&& 255)), (0, .ref ht), (1, .long (xb))]) hx hb dX5_addBytes_70 hl (k := 3) rfl (rfl) (by decide) rfl (fun ls hl => ?_)
              refine lv_goto (tgt := 3) hx hb dX5_addBytes_73 (by decide) ?_
              exact ih Tlen Tsigns (l3 + (-8)) _ _ _ hw hP hD hS (lv_sub hl [2, 3, 0] rfl)
            · replace hw := hw.2 c_6
              exact kj_X5_addBytes_48 hx hb hown hts hml hE hT hA ht ta Tcnt xb _ Φ ih kR76 Tlen Tsigns l3 (((((xb).toUInt64 >>> (l3.toInt64.toUInt64 &&& Int64.toUInt64 63)).toInt64).toInt32) &&& 255) _ _ _ hw hP hD hS (lv_sub hl [1, 2, 3, 0] rfl)

def wp_X5_addBytes (xb : Int64) (Tlen : Int32) (Tsigns : Nat → Int32) (Φ : Int32 → (Nat → Int32) → Prop) : Prop := (∃ n_, lf_X5_addBytes_3 xb  Φ n_ Tlen Tsigns 56)
set_option maxHeartbeats 4000000 in
set_option maxRecDepth 100000 in
theorem kj_X5_addBytes_e {p : Program} {l : Launch} {e : Env} {R : Room} {s : State} {m : MethodId} {args : Array Value} {below : List Frame} {meth : Method} {c : Code} {cells slots : Nat} {Q : State → Prop} {A : Nat → Prop} {D : va_G} {ak : Nat → ClassId} {ad : Nat → Nat} (hx : p.tables.exec = Jvm.exec) (hb : c.code = cX5_addBytes) (hown : s.vm.findClass RX5 = some m.cls) (hts : ∀ w ∈ wsX5_addBytes, w.before args s = true) (hml : c.maxLocals = 5) (hE : EV D ak s) (hT : ST D ak ad A s s.heap) (hA : ∀ q, s.heap.size ≤ q → A q) (ht : Nat) (ta : Nat → Nat) (Tcnt : Int32) (xb : Int64)  (Φ : Int32 → (Nat → Int32) → Prop)
    (kR76 : ∀ (Tlen : Int32) (Tsigns : Nat → Int32) (H : Heap) (locs : List Loc) (ls : Array Slot), Φ Tlen Tsigns → va_P D vwCl (wW_X5_addBytes ak ad ht ta Tlen Tcnt Tsigns) H → va_D A (wW_X5_addBytes ak ad ht ta Tlen Tcnt Tsigns) → va_S A s.heap H locs → W p l e R s m args below meth c H locs cells slots Q (F0 m 76 ls []))
    : ∀ (Tlen : Int32) (Tsigns : Nat → Int32) (H : Heap) (locs : List Loc) (ls : Array Slot), wp_X5_addBytes xb Tlen Tsigns Φ → va_P D vwCl (wW_X5_addBytes ak ad ht ta Tlen Tcnt Tsigns) H → va_D A (wW_X5_addBytes ak ad ht ta Tlen Tcnt Tsigns) → va_S A s.heap H locs → lv_has ls 5 [(0, .ref ht), (1, .long (xb))] → W p l e R s m args below meth c H locs cells slots Q (F0 m 0 ls ([])) := by
  intro Tlen Tsigns H locs ls hw hP hD hS hl
  delta wp_X5_addBytes at hw
  refine lv_bipush (v := 56) hx hb dX5_addBytes_0 (by decide) ?_
  refine lv_istore_n (lv' := [(3, .int (56)), (0, .ref ht), (1, .long (xb))]) hx hb dX5_addBytes_2 rfl hl (by decide) rfl (fun ls hl => ?_)
  obtain ⟨n1_, hw⟩ := hw
  exact lp_X5_addBytes_3 hx hb hown hts hml hE hT hA ht ta Tcnt xb  Φ  kR76 n1_ Tlen Tsigns 56 _ _ _ hw hP hD hS (lv_sub hl [1, 2, 0] rfl)
set_option maxHeartbeats 4000000 in
set_option maxRecDepth 100000 in
theorem c_X5_addBytes (l : Launch) (D : va_G) (ak : Nat → ClassId) (ad : Nat → Nat) (sz : Nat) (ht : Nat) (ta : Nat → Nat) (Tlen : Int32) (Tcnt : Int32) (Tsigns : Nat → Int32) (xb : Int64) (Φ : Int32 → (Nat → Int32) → Prop) (hf : wp_X5_addBytes xb Tlen Tsigns Φ) : Met l yX5_addBytes wsX5_addBytes ({ frames := 0, cells := 0, slots := 0, locals := 0 }) (cPre D ak ad [.ref ht, .long (xb)] ((wW_X5_addBytes ak ad ht ta Tlen Tcnt Tsigns)) sz) (cV D (S := (Int32) × (Nat → Int32)) (fun (u : (Int32) × (Nat → Int32)) => Φ u.1 u.2) (fun u => (wW_X5_addBytes ak ad ht ta u.1 Tcnt u.2)) ((wW_X5_addBytes ak ad ht ta Tlen Tcnt Tsigns)) sz) 0 0 (va_A ((wW_X5_addBytes ak ad ht ta Tlen Tcnt Tsigns)) sz) := by
  refine Met.ofW (cc := cX5_addBytes) (maxL := 5) (ret := none) (by decide) rfl ?_
  intro p e s m args below meth c s₁ B hml hv
  obtain ⟨rfl, hsz, hP, hE, hD0, hT⟩ := hv
  have hx := B.exec
  have hb := B.bytes
  have hr := B.returns
  have hts := atoms_spec (ws := wsX5_addBytes) B.pre
  have hown : s.vm.findClass RX5 = some m.cls := findClass_of_methodNamed B.named
  have hlocks := B.notSynchronized
  subst hsz
  have hD := hD0.self (sz := s.heap.size)
  generalize hAe : va_A ((wW_X5_addBytes ak ad ht ta Tlen Tcnt Tsigns)) s.heap.size = A at hD hT ⊢
  have hA : ∀ q : Nat, s.heap.size ≤ q → A q := fun q h => by rw [← hAe]; exact Or.inr h
  have hS : va_S A s.heap s.heap [] := va_S.rf
  have hl := lv_entry ([.ref ht, .long (xb)]) (n := 5) (Nat.le_of_ble_eq_true rfl)
  rw [lg_entry_eq]
  generalize (lg_sl ([.ref ht, .long (xb)]) ++ List.replicate (5 - (lg_sl ([.ref ht, .long (xb)])).length) Slot.unset).toArray = ls at hl ⊢
  have hl : lv_has ls 5 [(0, .ref ht), (1, .long (xb))] := hl
  exact kj_X5_addBytes_e hx hb hown hts hml hE hT hA ht ta Tcnt xb Φ (fun Tlen Tsigns H locs ls hw hP hD hS => W.vret hx hb hr (fun t ht hW => ⟨⟨(Tlen, Tsigns), rfl, hw, by rw [ht]; exact hP, by rw [hAe]; exact hD⟩, by rw [hAe]; exact hS.F ht⟩) hS.2.2 dX5_addBytes_76) Tlen Tsigns _ _ _ hf hP hD hS hl

def wW_X5_add (ak : Nat → ClassId) (ad : Nat → Nat) (ht : Nat) (ta : Nat → Nat) (Tlen : Int32) (Tcnt : Int32) (Ttoks : Nat → Nat) (Tplc : Nat → Int32) (Tvals : Nat → Int64) : va_W := [(ht, .inr (5, tob ta (Tlen) (Tcnt))), ((ta 1), .inl (ak 4, 1001, .inr (.inr (.inr (.inr (tokA ad (Ttoks))))))), ((ta 2), .inl (ak 0, 1001, .inl (Tplc))), ((ta 3), .inl (ak 1, 1001, .inr (.inl (Tvals))))]
def wp_X5_add (xt : Nat) (xp : Int32) (xv : Int64) (Tcnt : Int32) (Ttoks : Nat → Nat) (Tplc : Nat → Int32) (Tvals : Nat → Int64) (Φ : Int32 → (Nat → Nat) → (Nat → Int32) → (Nat → Int64) → Prop) : Prop := (1001 ≤ Tcnt → Φ Tcnt Ttoks Tplc Tvals) ∧ (¬ 1001 ≤ Tcnt → vp_in Tcnt 1001 ∧ xt < 31 ∧ vp_in Tcnt 1001 ∧ vp_in Tcnt 1001 ∧ Φ (Tcnt + 1) (updN Ttoks (Tcnt).toNatClampNeg xt) (upd Tplc (Tcnt).toNatClampNeg xp) (vp_updL Tvals (Tcnt).toNatClampNeg xv))
set_option maxHeartbeats 4000000 in
set_option maxRecDepth 100000 in
theorem kj_X5_add_e {p : Program} {l : Launch} {e : Env} {R : Room} {s : State} {m : MethodId} {args : Array Value} {below : List Frame} {meth : Method} {c : Code} {cells slots : Nat} {Q : State → Prop} {A : Nat → Prop} {D : va_G} {ak : Nat → ClassId} {ad : Nat → Nat} (hx : p.tables.exec = Jvm.exec) (hb : c.code = cX5_add) (hown : s.vm.findClass RX5 = some m.cls) (hts : ∀ w ∈ wsX5_add, w.before args s = true) (hml : c.maxLocals = 5) (hE : EV D ak s) (hT : ST D ak ad A s s.heap) (hA : ∀ q, s.heap.size ≤ q → A q) (ht : Nat) (ta : Nat → Nat) (Tlen : Int32) (xt : Nat) (xp : Int32) (xv : Int64)  (Φ : Int32 → (Nat → Nat) → (Nat → Int32) → (Nat → Int64) → Prop)
    (kR52 : ∀ (Tcnt : Int32) (Ttoks : Nat → Nat) (Tplc : Nat → Int32) (Tvals : Nat → Int64) (H : Heap) (locs : List Loc) (ls : Array Slot), Φ Tcnt Ttoks Tplc Tvals → va_P D vwCl (wW_X5_add ak ad ht ta Tlen Tcnt Ttoks Tplc Tvals) H → va_D A (wW_X5_add ak ad ht ta Tlen Tcnt Ttoks Tplc Tvals) → va_S A s.heap H locs → W p l e R s m args below meth c H locs cells slots Q (F0 m 52 ls []))
    : ∀ (Tcnt : Int32) (Ttoks : Nat → Nat) (Tplc : Nat → Int32) (Tvals : Nat → Int64) (H : Heap) (locs : List Loc) (ls : Array Slot), wp_X5_add xt xp xv Tcnt Ttoks Tplc Tvals Φ → va_P D vwCl (wW_X5_add ak ad ht ta Tlen Tcnt Ttoks Tplc Tvals) H → va_D A (wW_X5_add ak ad ht ta Tlen Tcnt Ttoks Tplc Tvals) → va_S A s.heap H locs → lv_has ls 5 [(0, .ref ht), (1, .ref (ad xt)), (2, .int (xp)), (3, .long (xv))] → W p l e R s m args below meth c H locs cells slots Q (F0 m 0 ls ([])) := by
  intro Tcnt Ttoks Tplc Tvals H locs ls hw hP hD hS hl
  delta wp_X5_add at hw
  refine lv_aload_n hx hb dX5_add_0 rfl (lv_at hl 0 rfl) ?_
  refine va_get (D := D) (ci := 5) (v := .int (Tcnt)) (C := RX5) (T := TX5) (N := 6) hx hb hts (fun w h => wm_c (wc_X5 w h)) hown hE.1 hP 0 rfl rfl 5 (by decide) (hts (.fieldLink RX5 33 "WornLines$Tape" "count" "I") (wm_c hw_393)) (fun _ h9 => h9) rfl dX5_add_1 ?_
  refine lv_aload_n hx hb dX5_add_4 rfl (lv_at hl 0 rfl) ?_
  refine vt_get (D := D) (ci := 5) (v := .ref (ta 1)) (C := RX5) (T := TX5) (N := 6) hx hb hts (fun w h => wm_c (wc_X5 w h)) hown hE.1 hP 0 rfl rfl 2 (by decide) tX5_2 (hts (.fieldLink RX5 17 "WornLines$Tape" "tokens" "[LWornLines$Token;") (wm_c hw_266)) (fun _ h9 => h9) rfl dX5_add_5 ?_
  refine va_alen hx hb hE.1 hP 1 4 rfl rfl (v := 1001) rfl dX5_add_8 ?_
  refine lv_icmp_ge (tgt := 52) hx hb dX5_add_9 (by decide) (fun c_1 => ?_) (fun c_1 => ?_)
  · replace hw := hw.1 c_1
    exact kR52 Tcnt Ttoks Tplc Tvals _ _ _ hw hP hD hS
  · replace hw := hw.2 c_1
    refine lv_aload_n hx hb dX5_add_12 rfl (lv_at hl 0 rfl) ?_
    refine vt_get (D := D) (ci := 5) (v := .ref (ta 1)) (C := RX5) (T := TX5) (N := 6) hx hb hts (fun w h => wm_c (wc_X5 w h)) hown hE.1 hP 0 rfl rfl 2 (by decide) tX5_2 (hts (.fieldLink RX5 17 "WornLines$Tape" "tokens" "[LWornLines$Token;") (wm_c hw_266)) (fun _ h9 => h9) rfl dX5_add_13 ?_
    refine lv_aload_n hx hb dX5_add_16 rfl (lv_at hl 0 rfl) ?_
    refine va_get (D := D) (ci := 5) (v := .int (Tcnt)) (C := RX5) (T := TX5) (N := 6) hx hb hts (fun w h => wm_c (wc_X5 w h)) hown hE.1 hP 0 rfl rfl 5 (by decide) (hts (.fieldLink RX5 33 "WornLines$Tape" "count" "I") (wm_c hw_393)) (fun _ h9 => h9) rfl dX5_add_17 ?_
    refine lv_aload_n hx hb dX5_add_20 rfl (lv_at hl 1 rfl) ?_
    obtain ⟨h_2, hw⟩ := hw
    obtain ⟨h_3, hw⟩ := hw
    refine va_astqM hx hb hE.1 hP hD hS 1 4 rfl rfl (tk_any hT hS xt h_3) (h_2) dX5_add_21 (fun H locs hP hD hS => ?_)
    rw [tokA_up h_3] at hP hD
    have hP : va_P D vwCl (wW_X5_add ak ad ht ta Tlen Tcnt (updN Ttoks (Tcnt).toNatClampNeg xt) Tplc Tvals) H := hP
    have hD : va_D A (wW_X5_add ak ad ht ta Tlen Tcnt (updN Ttoks (Tcnt).toNatClampNeg xt) Tplc Tvals) := hD
    refine lv_aload_n hx hb dX5_add_22 rfl (lv_at hl 0 rfl) ?_
    refine vt_get (D := D) (ci := 5) (v := .ref (ta 2)) (C := RX5) (T := TX5) (N := 6) hx hb hts (fun w h => wm_c (wc_X5 w h)) hown hE.1 hP 0 rfl rfl 3 (by decide) tX5_3 (hts (.fieldLink RX5 21 "WornLines$Tape" "places" "[I") (wm_c hw_268)) (fun _ h9 => h9) rfl dX5_add_23 ?_
    refine lv_aload_n hx hb dX5_add_26 rfl (lv_at hl 0 rfl) ?_
    refine va_get (D := D) (ci := 5) (v := .int (Tcnt)) (C := RX5) (T := TX5) (N := 6) hx hb hts (fun w h => wm_c (wc_X5 w h)) hown hE.1 hP 0 rfl rfl 5 (by decide) (hts (.fieldLink RX5 33 "WornLines$Tape" "count" "I") (wm_c hw_393)) (fun _ h9 => h9) rfl dX5_add_27 ?_
    refine lv_iload_n hx hb dX5_add_30 rfl (lv_at hl 2 rfl) ?_
    obtain ⟨h_4, hw⟩ := hw
    refine va_iast hx hb hE.1 hP hD hS 2 0 rfl rfl (h_4) dX5_add_31 (fun H locs hP hD hS => ?_)
    have hP : va_P D vwCl (wW_X5_add ak ad ht ta Tlen Tcnt (updN Ttoks (Tcnt).toNatClampNeg xt) (upd Tplc (Tcnt).toNatClampNeg xp) Tvals) H := hP
    have hD : va_D A (wW_X5_add ak ad ht ta Tlen Tcnt (updN Ttoks (Tcnt).toNatClampNeg xt) (upd Tplc (Tcnt).toNatClampNeg xp) Tvals) := hD
    refine lv_aload_n hx hb dX5_add_32 rfl (lv_at hl 0 rfl) ?_
    refine vt_get (D := D) (ci := 5) (v := .ref (ta 3)) (C := RX5) (T := TX5) (N := 6) hx hb hts (fun w h => wm_c (wc_X5 w h)) hown hE.1 hP 0 rfl rfl 4 (by decide) tX5_4 (hts (.fieldLink RX5 25 "WornLines$Tape" "values" "[J") (wm_c hw_270)) (fun _ h9 => h9) rfl dX5_add_33 ?_
    refine lv_aload_n hx hb dX5_add_36 rfl (lv_at hl 0 rfl) ?_
    refine va_get (D := D) (ci := 5) (v := .int (Tcnt)) (C := RX5) (T := TX5) (N := 6) hx hb hts (fun w h => wm_c (wc_X5 w h)) hown hE.1 hP 0 rfl rfl 5 (by decide) (hts (.fieldLink RX5 33 "WornLines$Tape" "count" "I") (wm_c hw_393)) (fun _ h9 => h9) rfl dX5_add_37 ?_
    refine lv_lload_n hx hb dX5_add_40 rfl (lv_at hl 3 rfl) ?_
    obtain ⟨h_5, hw⟩ := hw
    refine va_last hx hb hE.1 hP hD hS 3 1 rfl rfl (h_5) dX5_add_41 (fun H locs hP hD hS => ?_)
    have hP : va_P D vwCl (wW_X5_add ak ad ht ta Tlen Tcnt (updN Ttoks (Tcnt).toNatClampNeg xt) (upd Tplc (Tcnt).toNatClampNeg xp) (vp_updL Tvals (Tcnt).toNatClampNeg xv)) H := hP
    have hD : va_D A (wW_X5_add ak ad ht ta Tlen Tcnt (updN Ttoks (Tcnt).toNatClampNeg xt) (upd Tplc (Tcnt).toNatClampNeg xp) (vp_updL Tvals (Tcnt).toNatClampNeg xv)) := hD
    refine lv_aload_n hx hb dX5_add_42 rfl (lv_at hl 0 rfl) ?_
    refine lv_dup hx hb dX5_add_43 rfl ?_
    refine va_get (D := D) (ci := 5) (v := .int (Tcnt)) (C := RX5) (T := TX5) (N := 6) hx hb hts (fun w h => wm_c (wc_X5 w h)) hown hE.1 hP 0 rfl rfl 5 (by decide) (hts (.fieldLink RX5 33 "WornLines$Tape" "count" "I") (wm_c hw_393)) (fun _ h9 => h9) rfl dX5_add_44 ?_
    refine lv_iconst (v := 1) hx hb dX5_add_47 (by decide) ?_
    refine lv_iadd hx hb dX5_add_48 ?_
    refine va_put (D := D) (ci := 5) (v := .int (Tcnt + 1)) (ty := .int) (C := RX5) (T := TX5) (N := 6) hx hb hts (fun w h => wm_c (wc_X5 w h)) tyX5 tyX5_ok nmX5 hown hE.1 hP hD hS 0 rfl rfl 5 (by decide) (hts (.fieldLink RX5 33 "WornLines$Tape" "count" "I") (wm_c hw_393)) (fun _ h9 => h9) rfl pf_0 (rfl) rfl (Nat.le_of_ble_eq_true rfl) dX5_add_49 (fun H locs hP hD hS => ?_)
    have hP : va_P D vwCl (wW_X5_add ak ad ht ta Tlen (Tcnt + 1) (updN Ttoks (Tcnt).toNatClampNeg xt) (upd Tplc (Tcnt).toNatClampNeg xp) (vp_updL Tvals (Tcnt).toNatClampNeg xv)) H := hP
    have hD : va_D A (wW_X5_add ak ad ht ta Tlen (Tcnt + 1) (updN Ttoks (Tcnt).toNatClampNeg xt) (upd Tplc (Tcnt).toNatClampNeg xp) (vp_updL Tvals (Tcnt).toNatClampNeg xv)) := hD
    exact kR52 (Tcnt + 1) (updN Ttoks (Tcnt).toNatClampNeg xt) (upd Tplc (Tcnt).toNatClampNeg xp) (vp_updL Tvals (Tcnt).toNatClampNeg xv) _ _ _ hw hP hD hS
set_option maxHeartbeats 4000000 in
set_option maxRecDepth 100000 in
theorem c_X5_add (l : Launch) (D : va_G) (ak : Nat → ClassId) (ad : Nat → Nat) (sz : Nat) (ht : Nat) (ta : Nat → Nat) (Tlen : Int32) (Tcnt : Int32) (Ttoks : Nat → Nat) (Tplc : Nat → Int32) (Tvals : Nat → Int64) (xt : Nat) (xp : Int32) (xv : Int64) (Φ : Int32 → (Nat → Nat) → (Nat → Int32) → (Nat → Int64) → Prop) (hf : wp_X5_add xt xp xv Tcnt Ttoks Tplc Tvals Φ) : Met l yX5_add wsX5_add ({ frames := 0, cells := 0, slots := 0, locals := 0 }) (cPre D ak ad [.ref ht, .ref (ad xt), .int (xp), .long (xv)] ((wW_X5_add ak ad ht ta Tlen Tcnt Ttoks Tplc Tvals)) sz) (cV D (S := (Int32) × (Nat → Nat) × (Nat → Int32) × (Nat → Int64)) (fun (u : (Int32) × (Nat → Nat) × (Nat → Int32) × (Nat → Int64)) => Φ u.1 u.2.1 u.2.2.1 u.2.2.2) (fun u => (wW_X5_add ak ad ht ta Tlen u.1 u.2.1 u.2.2.1 u.2.2.2)) ((wW_X5_add ak ad ht ta Tlen Tcnt Ttoks Tplc Tvals)) sz) 0 0 (va_A ((wW_X5_add ak ad ht ta Tlen Tcnt Ttoks Tplc Tvals)) sz) := by
  refine Met.ofW (cc := cX5_add) (maxL := 5) (ret := none) (by decide) rfl ?_
  intro p e s m args below meth c s₁ B hml hv
  obtain ⟨rfl, hsz, hP, hE, hD0, hT⟩ := hv
  have hx := B.exec
  have hb := B.bytes
  have hr := B.returns
  have hts := atoms_spec (ws := wsX5_add) B.pre
  have hown : s.vm.findClass RX5 = some m.cls := findClass_of_methodNamed B.named
  have hlocks := B.notSynchronized
  subst hsz
  have hD := hD0.self (sz := s.heap.size)
  generalize hAe : va_A ((wW_X5_add ak ad ht ta Tlen Tcnt Ttoks Tplc Tvals)) s.heap.size = A at hD hT ⊢
  have hA : ∀ q : Nat, s.heap.size ≤ q → A q := fun q h => by rw [← hAe]; exact Or.inr h
  have hS : va_S A s.heap s.heap [] := va_S.rf
  have hl := lv_entry ([.ref ht, .ref (ad xt), .int (xp), .long (xv)]) (n := 5) (Nat.le_of_ble_eq_true rfl)
  rw [lg_entry_eq]
  generalize (lg_sl ([.ref ht, .ref (ad xt), .int (xp), .long (xv)]) ++ List.replicate (5 - (lg_sl ([.ref ht, .ref (ad xt), .int (xp), .long (xv)])).length) Slot.unset).toArray = ls at hl ⊢
  have hl : lv_has ls 5 [(0, .ref ht), (1, .ref (ad xt)), (2, .int (xp)), (3, .long (xv))] := hl
  exact kj_X5_add_e hx hb hown hts hml hE hT hA ht ta Tlen xt xp xv Φ (fun Tcnt Ttoks Tplc Tvals H locs ls hw hP hD hS => W.vret hx hb hr (fun t ht hW => ⟨⟨(Tcnt, Ttoks, Tplc, Tvals), rfl, hw, by rw [ht]; exact hP, by rw [hAe]; exact hD⟩, by rw [hAe]; exact hS.F ht⟩) hS.2.2 dX5_add_52) Tcnt Ttoks Tplc Tvals _ _ _ hf hP hD hS hl
end
