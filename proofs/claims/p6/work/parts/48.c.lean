theorem dX5_splitOne_53 : decode cX5_splitOne 53 = .ok (.iload_n 2, 1) := by decide +kernel
theorem dX5_splitOne_54 : decode cX5_splitOne 54 = .ok (.bipush 97, 2) := by decide +kernel
theorem dX5_splitOne_56 : decode cX5_splitOne 56 = .ok (.if_icmp .ne 12, 3) := by decide +kernel
theorem dX5_splitOne_68 : decode cX5_splitOne 68 = .ok (.iload_n 2, 1) := by decide +kernel
theorem dX5_splitOne_69 : decode cX5_splitOne 69 = .ok (.bipush 48, 2) := by decide +kernel
theorem dX5_splitOne_71 : decode cX5_splitOne 71 = .ok (.if_icmp .ne 12, 3) := by decide +kernel
theorem dX5_splitOne_83 : decode cX5_splitOne 83 = .ok (.aload_n 0, 1) := by decide +kernel
theorem dX5_splitOne_84 : decode cX5_splitOne 84 = .ok (.aload_n 0, 1) := by decide +kernel
theorem dX5_splitOne_85 : decode cX5_splitOne 85 = .ok (.getfield 9, 3) := by decide +kernel
theorem dX5_splitOne_88 : decode cX5_splitOne 88 = .ok (.iload_n 1, 1) := by decide +kernel
theorem dX5_splitOne_89 : decode cX5_splitOne 89 = .ok (.caload, 1) := by decide +kernel
theorem dX5_splitOne_90 : decode cX5_splitOne 90 = .ok (.i2l, 1) := by decide +kernel
theorem dX5_splitOne_91 : decode cX5_splitOne 91 = .ok (.getstatic 63, 3) := by decide +kernel
set_option maxRecDepth 20000 in
theorem ggX5_splitOne_X5_spelled : GoodIn wsX5_splitOne wsX5_spelled := gup gc_X5_spelled
set_option maxRecDepth 20000 in
theorem gX5_splitOne_X5_spelled : GoodIn wsX5_splitOne (va_wsS RX5 66 yX5_spelled wsX5_spelled) := gup (glS hw_399 hw_400 hw_401 gc_X5_spelled)
theorem dX5_splitOne_94 : decode cX5_splitOne 94 = .ok (.invokestatic 66, 3) := by decide +kernel
theorem dX5_splitOne_97 : decode cX5_splitOne 97 = .ok (.iload_n 1, 1) := by decide +kernel
theorem dX5_splitOne_98 : decode cX5_splitOne 98 = .ok (.lconst 0, 1) := by decide +kernel
set_option maxRecDepth 20000 in
theorem ggX5_splitOne_X5_add : GoodIn wsX5_splitOne wsX5_add := gup gc_X5_add
set_option maxRecDepth 20000 in
theorem gX5_splitOne_X5_add : GoodIn wsX5_splitOne (wsV RX5 48 RX5 yX5_add wsX5_add) := gup (glV hw_402 hw_403 hw_404 hw_401 gc_X5_add)
theorem dX5_splitOne_99 : decode cX5_splitOne 99 = .ok (.invokevirtual 48, 3) := by decide +kernel
theorem dX5_splitOne_102 : decode cX5_splitOne 102 = .ok (.iload_n 3, 1) := by decide +kernel
theorem dX5_splitOne_74 : decode cX5_splitOne 74 = .ok (.aload_n 0, 1) := by decide +kernel
theorem dX5_splitOne_75 : decode cX5_splitOne 75 = .ok (.iload_n 1, 1) := by decide +kernel
theorem dX5_splitOne_76 : decode cX5_splitOne 76 = .ok (.iload_n 3, 1) := by decide +kernel
set_option maxRecDepth 20000 in
theorem ggX5_splitOne_X5_addNumber : GoodIn wsX5_splitOne wsX5_addNumber := gup gc_X5_addNumber
set_option maxRecDepth 20000 in
theorem gX5_splitOne_X5_addNumber : GoodIn wsX5_splitOne (wsV RX5 60 RX5 yX5_addNumber wsX5_addNumber) := gup (glV hw_406 hw_407 hw_408 hw_401 gc_X5_addNumber)
theorem dX5_splitOne_77 : decode cX5_splitOne 77 = .ok (.invokevirtual 60, 3) := by decide +kernel
theorem dX5_splitOne_80 : decode cX5_splitOne 80 = .ok (.goto 22, 3) := by decide +kernel
theorem dX5_splitOne_59 : decode cX5_splitOne 59 = .ok (.aload_n 0, 1) := by decide +kernel
theorem dX5_splitOne_60 : decode cX5_splitOne 60 = .ok (.iload_n 1, 1) := by decide +kernel
theorem dX5_splitOne_61 : decode cX5_splitOne 61 = .ok (.iload_n 3, 1) := by decide +kernel
set_option maxRecDepth 20000 in
theorem ggX5_splitOne_X5_addWord : GoodIn wsX5_splitOne wsX5_addWord := gup gc_X5_addWord
set_option maxRecDepth 20000 in
theorem gX5_splitOne_X5_addWord : GoodIn wsX5_splitOne (wsV RX5 56 RX5 yX5_addWord wsX5_addWord) := gup (glV hw_409 hw_410 hw_411 hw_401 gc_X5_addWord)
theorem dX5_splitOne_62 : decode cX5_splitOne 62 = .ok (.invokevirtual 56, 3) := by decide +kernel
theorem dX5_splitOne_65 : decode cX5_splitOne 65 = .ok (.goto 37, 3) := by decide +kernel
theorem dX5_splitOne_17 : decode cX5_splitOne 17 = .ok (.iload 4, 2) := by decide +kernel
theorem dX5_splitOne_19 : decode cX5_splitOne 19 = .ok (.aload_n 0, 1) := by decide +kernel
theorem dX5_splitOne_20 : decode cX5_splitOne 20 = .ok (.getfield 29, 3) := by decide +kernel
theorem dX5_splitOne_23 : decode cX5_splitOne 23 = .ok (.if_icmp .ge 30, 3) := by decide +kernel
theorem dX5_splitOne_26 : decode cX5_splitOne 26 = .ok (.iload_n 2, 1) := by decide +kernel
theorem dX5_splitOne_27 : decode cX5_splitOne 27 = .ok (.ifCond .eq 26, 3) := by decide +kernel
theorem dX5_splitOne_30 : decode cX5_splitOne 30 = .ok (.aload_n 0, 1) := by decide +kernel
theorem dX5_splitOne_31 : decode cX5_splitOne 31 = .ok (.getfield 9, 3) := by decide +kernel
theorem dX5_splitOne_34 : decode cX5_splitOne 34 = .ok (.iload 4, 2) := by decide +kernel
theorem dX5_splitOne_36 : decode cX5_splitOne 36 = .ok (.caload, 1) := by decide +kernel
set_option maxRecDepth 20000 in
theorem ggX5_splitOne_X5_kindOf : GoodIn wsX5_splitOne wsX5_kindOf := gup gc_X5_kindOf
set_option maxRecDepth 20000 in
theorem gX5_splitOne_X5_kindOf : GoodIn wsX5_splitOne (va_wsS RX5 52 yX5_kindOf wsX5_kindOf) := gup (glS hw_412 hw_413 hw_401 gc_X5_kindOf)
theorem dX5_splitOne_37 : decode cX5_splitOne 37 = .ok (.invokestatic 52, 3) := by decide +kernel
theorem dX5_splitOne_40 : decode cX5_splitOne 40 = .ok (.iload_n 2, 1) := by decide +kernel
theorem dX5_splitOne_41 : decode cX5_splitOne 41 = .ok (.if_icmp .ne 12, 3) := by decide +kernel
theorem dX5_splitOne_44 : decode cX5_splitOne 44 = .ok (.iinc 3 1, 3) := by decide +kernel
theorem dX5_splitOne_47 : decode cX5_splitOne 47 = .ok (.iinc 4 1, 3) := by decide +kernel
theorem dX5_splitOne_50 : decode cX5_splitOne 50 = .ok (.goto (-33), 3) := by decide +kernel
theorem dX5_splitOne_0 : decode cX5_splitOne 0 = .ok (.aload_n 0, 1) := by decide +kernel
theorem dX5_splitOne_1 : decode cX5_splitOne 1 = .ok (.getfield 9, 3) := by decide +kernel
theorem dX5_splitOne_4 : decode cX5_splitOne 4 = .ok (.iload_n 1, 1) := by decide +kernel
theorem dX5_splitOne_5 : decode cX5_splitOne 5 = .ok (.caload, 1) := by decide +kernel
theorem dX5_splitOne_6 : decode cX5_splitOne 6 = .ok (.invokestatic 52, 3) := by decide +kernel
theorem dX5_splitOne_9 : decode cX5_splitOne 9 = .ok (.istore_n 2, 1) := by decide +kernel
theorem dX5_splitOne_10 : decode cX5_splitOne 10 = .ok (.iload_n 1, 1) := by decide +kernel
theorem dX5_splitOne_11 : decode cX5_splitOne 11 = .ok (.iconst 1, 1) := by decide +kernel
theorem dX5_splitOne_12 : decode cX5_splitOne 12 = .ok (.iadd, 1) := by decide +kernel
theorem dX5_splitOne_13 : decode cX5_splitOne 13 = .ok (.istore_n 3, 1) := by decide +kernel
theorem dX5_splitOne_14 : decode cX5_splitOne 14 = .ok (.iload_n 3, 1) := by decide +kernel
theorem dX5_splitOne_15 : decode cX5_splitOne 15 = .ok (.istore 4, 2) := by decide +kernel
theorem dX5_splitOne_103 : decode cX5_splitOne 103 = .ok (.ireturn, 1) := by decide +kernel
theorem dX5_split_9 : decode cX5_split 9 = .ok (.iload_n 2, 1) := by decide +kernel
theorem dX5_split_10 : decode cX5_split 10 = .ok (.sipush 1000, 3) := by decide +kernel
theorem dX5_split_13 : decode cX5_split 13 = .ok (.if_icmp .ge 41, 3) := by decide +kernel
theorem dX5_split_54 : decode cX5_split 54 = .ok (.aload_n 0, 1) := by decide +kernel
theorem dX5_split_55 : decode cX5_split 55 = .ok (.getstatic 44, 3) := by decide +kernel
theorem dX5_split_58 : decode cX5_split 58 = .ok (.aload_n 0, 1) := by decide +kernel
theorem dX5_split_59 : decode cX5_split 59 = .ok (.getfield 29, 3) := by decide +kernel
theorem dX5_split_62 : decode cX5_split 62 = .ok (.lconst 0, 1) := by decide +kernel
set_option maxRecDepth 20000 in
theorem ggX5_split_X5_add : GoodIn wsX5_split wsX5_add := gup gc_X5_add
set_option maxRecDepth 20000 in
theorem gX5_split_X5_add : GoodIn wsX5_split (wsV RX5 48 RX5 yX5_add wsX5_add) := gup (glV hw_402 hw_403 hw_404 hw_401 gc_X5_add)
theorem dX5_split_63 : decode cX5_split 63 = .ok (.invokevirtual 48, 3) := by decide +kernel
theorem dX5_split_16 : decode cX5_split 16 = .ok (.iload_n 1, 1) := by decide +kernel
theorem dX5_split_17 : decode cX5_split 17 = .ok (.aload_n 0, 1) := by decide +kernel
theorem dX5_split_18 : decode cX5_split 18 = .ok (.getfield 29, 3) := by decide +kernel
theorem dX5_split_21 : decode cX5_split 21 = .ok (.if_icmp .ge 33, 3) := by decide +kernel
theorem dX5_split_24 : decode cX5_split 24 = .ok (.aload_n 0, 1) := by decide +kernel
theorem dX5_split_25 : decode cX5_split 25 = .ok (.getfield 9, 3) := by decide +kernel
theorem dX5_split_28 : decode cX5_split 28 = .ok (.iload_n 1, 1) := by decide +kernel
theorem dX5_split_29 : decode cX5_split 29 = .ok (.caload, 1) := by decide +kernel
set_option maxRecDepth 20000 in
theorem ggX5_split_X5_isBlank : GoodIn wsX5_split wsX5_isBlank := gup gc_X5_isBlank
set_option maxRecDepth 20000 in
theorem gX5_split_X5_isBlank : GoodIn wsX5_split (va_wsS RX5 36 yX5_isBlank wsX5_isBlank) := gup (glS hw_414 hw_415 hw_401 gc_X5_isBlank)
theorem dX5_split_30 : decode cX5_split 30 = .ok (.invokestatic 36, 3) := by decide +kernel
theorem dX5_split_33 : decode cX5_split 33 = .ok (.ifCond .eq 9, 3) := by decide +kernel
theorem dX5_split_42 : decode cX5_split 42 = .ok (.aload_n 0, 1) := by decide +kernel
theorem dX5_split_43 : decode cX5_split 43 = .ok (.iload_n 1, 1) := by decide +kernel
set_option maxRecDepth 20000 in
theorem ggX5_split_X5_splitOne : GoodIn wsX5_split wsX5_splitOne := gup gc_X5_splitOne
set_option maxRecDepth 20000 in
theorem gX5_split_X5_splitOne : GoodIn wsX5_split (wsV RX5 40 RX5 yX5_splitOne wsX5_splitOne) := gup (glV hw_416 hw_417 hw_418 hw_401 gc_X5_splitOne)
theorem dX5_split_44 : decode cX5_split 44 = .ok (.invokevirtual 40, 3) := by decide +kernel
theorem dX5_split_47 : decode cX5_split 47 = .ok (.istore_n 1, 1) := by decide +kernel
theorem dX5_split_48 : decode cX5_split 48 = .ok (.iinc 2 1, 3) := by decide +kernel
theorem dX5_split_51 : decode cX5_split 51 = .ok (.goto (-42), 3) := by decide +kernel
theorem dX5_split_36 : decode cX5_split 36 = .ok (.iload_n 1, 1) := by decide +kernel
theorem dX5_split_37 : decode cX5_split 37 = .ok (.iconst 1, 1) := by decide +kernel
theorem dX5_split_38 : decode cX5_split 38 = .ok (.iadd, 1) := by decide +kernel
theorem dX5_split_39 : decode cX5_split 39 = .ok (.goto 8, 3) := by decide +kernel
theorem dX5_split_0 : decode cX5_split 0 = .ok (.aload_n 0, 1) := by decide +kernel
theorem dX5_split_1 : decode cX5_split 1 = .ok (.iconst 0, 1) := by decide +kernel
theorem dX5_split_2 : decode cX5_split 2 = .ok (.putfield 33, 3) := by decide +kernel
theorem dX5_split_5 : decode cX5_split 5 = .ok (.iconst 0, 1) := by decide +kernel
theorem dX5_split_6 : decode cX5_split 6 = .ok (.istore_n 1, 1) := by decide +kernel
theorem dX5_split_7 : decode cX5_split 7 = .ok (.iconst 0, 1) := by decide +kernel
theorem dX5_split_8 : decode cX5_split 8 = .ok (.istore_n 2, 1) := by decide +kernel
theorem dX5_split_66 : decode cX5_split 66 = .ok (.return_, 1) := by decide +kernel
def wW_X5_splitOne (ak : Nat → ClassId) (ad : Nat → Nat) (ht : Nat) (ta : Nat → Nat) (Tlen : Int32) (Tcnt : Int32) (Tsigns : Nat → Int32) (Ttoks : Nat → Nat) (Tplc : Nat → Int32) (Tvals : Nat → Int64) : va_W := [(ht, .inr (5, tob ta (Tlen) (Tcnt))), ((ta 0), .inl (ak 2, 1000, .inl (Tsigns))), ((ta 1), .inl (ak 4, 1001, .inr (.inr (.inr (.inr (tokA ad (Ttoks))))))), ((ta 2), .inl (ak 0, 1001, .inl (Tplc))), ((ta 3), .inl (ak 1, 1001, .inr (.inl (Tvals))))]
def kf_X5_splitOne_53 (Tlen : Int32) (Tsigns : Nat → Int32) (xa : Int32)  (Φ : Int32 → Int32 → (Nat → Nat) → (Nat → Int32) → (Nat → Int64) → Prop) (Tcnt : Int32) (Ttoks : Nat → Nat) (Tplc : Nat → Int32) (Tvals : Nat → Int64) (l2 : Int32) (l3 : Int32) : Prop := (¬ l2 = 97 → (¬ l2 = 48 → vp_in xa 1000 ∧ wp_X5_spelled ((Tsigns (xa).toNatClampNeg).toInt64) 1 (fun r_9 => wp_X5_add r_9 xa 0 Tcnt Ttoks Tplc Tvals (fun Tcnt_11 Ttoks_12 Tplc_13 Tvals_14 => Φ l3 Tcnt_11 Ttoks_12 Tplc_13 Tvals_14))) ∧ (l2 = 48 → wp_X5_addNumber Tsigns xa l3 Tcnt Ttoks Tplc Tvals (fun Tcnt_17 Ttoks_18 Tplc_19 Tvals_20 => Φ l3 Tcnt_17 Ttoks_18 Tplc_19 Tvals_20))) ∧ (l2 = 97 → wp_X5_addWord Tsigns xa l3 Tcnt Ttoks Tplc Tvals (fun Tcnt_23 Ttoks_24 Tplc_25 Tvals_26 => Φ l3 Tcnt_23 Ttoks_24 Tplc_25 Tvals_26))
set_option maxHeartbeats 4000000 in
set_option maxRecDepth 100000 in
theorem kj_X5_splitOne_53 {p : Program} {l : Launch} {e : Env} {R : Room} {s : State} {m : MethodId} {args : Array Value} {below : List Frame} {meth : Method} {c : Code} {cells slots : Nat} {Q : State → Prop} {A : Nat → Prop} {D : va_G} {ak : Nat → ClassId} {ad : Nat → Nat} (hx : p.tables.exec = Jvm.exec) (hb : c.code = cX5_splitOne) (hown : s.vm.findClass RX5 = some m.cls) (hts : ∀ w ∈ wsX5_splitOne, w.before args s = true) (hml : c.maxLocals = 5) (hE : EV D ak s) (hT : ST D ak ad A s s.heap) (hA : ∀ q, s.heap.size ≤ q → A q) (hRf : 2 ≤ R.frames) (hRl : 51 ≤ R.locals) (hRc : cells ≤ R.cells ∧ slots ≤ R.slots) (ht : Nat) (ta : Nat → Nat) (Tlen : Int32) (Tsigns : Nat → Int32) (xa : Int32)  (Φ : Int32 → Int32 → (Nat → Nat) → (Nat → Int32) → (Nat → Int64) → Prop)
    (kR103 : ∀ (r : Int32) (Tcnt : Int32) (Ttoks : Nat → Nat) (Tplc : Nat → Int32) (Tvals : Nat → Int64) (H : Heap) (locs : List Loc) (ls : Array Slot), Φ r Tcnt Ttoks Tplc Tvals → va_P D vwCl (wW_X5_splitOne ak ad ht ta Tlen Tcnt Tsigns Ttoks Tplc Tvals) H → va_D A (wW_X5_splitOne ak ad ht ta Tlen Tcnt Tsigns Ttoks Tplc Tvals) → va_S A s.heap H locs → W p l e R s m args below meth c H locs cells slots Q (F0 m 103 ls [.int r]))
    : ∀ (Tcnt : Int32) (Ttoks : Nat → Nat) (Tplc : Nat → Int32) (Tvals : Nat → Int64) (l2 : Int32) (l3 : Int32) (H : Heap) (locs : List Loc) (ls : Array Slot), kf_X5_splitOne_53 Tlen Tsigns xa  Φ Tcnt Ttoks Tplc Tvals l2 l3 → va_P D vwCl (wW_X5_splitOne ak ad ht ta Tlen Tcnt Tsigns Ttoks Tplc Tvals) H → va_D A (wW_X5_splitOne ak ad ht ta Tlen Tcnt Tsigns Ttoks Tplc Tvals) → va_S A s.heap H locs → lv_has ls 5 [(0, .ref ht), (1, .int (xa)), (2, .int (l2)), (3, .int (l3))] → W p l e R s m args below meth c H locs cells slots Q (F0 m 53 ls ([])) := by
  intro Tcnt Ttoks Tplc Tvals l2 l3 H locs ls hw hP hD hS hl
  delta kf_X5_splitOne_53 at hw
  refine lv_iload_n hx hb dX5_splitOne_53 rfl (lv_at hl 2 rfl) ?_
  refine lv_bipush (v := 97) hx hb dX5_splitOne_54 (by decide) ?_
  refine lv_icmp_ne (tgt := 68) hx hb dX5_splitOne_56 (by decide) (fun c_5 => ?_) (fun c_5 => ?_)
  · replace hw := hw.1 c_5
    refine lv_iload_n hx hb dX5_splitOne_68 rfl (lv_at hl 2 rfl) ?_
    refine lv_bipush (v := 48) hx hb dX5_splitOne_69 (by decide) ?_
    refine lv_icmp_ne (tgt := 83) hx hb dX5_splitOne_71 (by decide) (fun c_6 => ?_) (fun c_6 => ?_)
    · replace hw := hw.1 c_6
      refine lv_aload_n hx hb dX5_splitOne_83 rfl (lv_at hl 0 rfl) ?_
      refine lv_aload_n hx hb dX5_splitOne_84 rfl (lv_at hl 0 rfl) ?_
      refine va_get (D := D) (ci := 5) (v := .ref (ta 0)) (C := RX5) (T := TX5) (N := 6) hx hb hts (fun w h => wm_c (wc_X5 w h)) hown hE.1 hP 0 rfl rfl 0 (by decide) (hts (.fieldLink RX5 9 "WornLines$Tape" "signs" "[C") (wm_c hw_264)) (fun _ h9 => h9) rfl dX5_splitOne_85 ?_
      refine lv_iload_n hx hb dX5_splitOne_88 rfl (lv_at hl 1 rfl) ?_
      obtain ⟨h_7, hw⟩ := hw
      refine va_cald hx hb hE.1 hP 1 2 rfl rfl (h_7) dX5_splitOne_89 ?_
      refine lv_i2l (v := (Tsigns (xa).toNatClampNeg).toInt64) hx hb dX5_splitOne_90 rfl ?_
      refine va_gets hx hb (hT.1 1 (by decide)).1 hS hown (hts (.fieldLink RX5 63 "WornLines$Token" "NO_TOKEN" "LWornLines$Token;") (wm_c hw_396)) (fun _ h9 => h9) dX5_splitOne_91 ?_
      refine kc_t (wc := []) (wr := [(ht, .inr (5, tob ta (Tlen) (Tcnt))), ((ta 0), .inl (ak 2, 1000, .inl (Tsigns))), ((ta 1), .inl (ak 4, 1001, .inr (.inr (.inr (.inr (tokA ad (Ttoks))))))), ((ta 2), .inl (ak 0, 1001, .inl (Tplc))), ((ta 3), .inl (ak 1, 1001, .inr (.inl (Tvals))))]) hP hD hS hA [] [0, 1, 2, 3, 4] rfl rfl (by decide) (by decide) (va_runS (As := [.long ((Tsigns (xa).toNatClampNeg).toInt64), .ref (ad 1)]) (rest := [.ref ht]) ⟨hx, hb, hml, hown, hts⟩ (c_X5_spelled l D ak ad _ ((Tsigns (xa).toNatClampNeg).toInt64) 1 _ hw) (va_cwS 2 hts gX5_splitOne_X5_spelled rfl rfl rfl (by decide +kernel) ⟨(Nat.le_trans (Nat.le_of_ble_eq_true rfl) hRf), (Nat.le_trans (Nat.le_of_ble_eq_true rfl) hRl)⟩) (kc_pre (As := [.long ((Tsigns (xa).toNatClampNeg).toInt64), .ref (ad 1)]) (wc := []) hE hT hP hD hS hA [] (by decide) rfl rfl) rfl rfl hl.1 rfl (lv_room (Nat.le_of_ble_eq_true rfl)) dX5_splitOne_94 ⟨hRc.1, hRc.2⟩) (fun r_9 u_8 H locs hw hP hD hS => ?_)
      try dsimp -zeta only at hw
      have hP : va_P D vwCl (wW_X5_splitOne ak ad ht ta Tlen Tcnt Tsigns Ttoks Tplc Tvals) H := hP.sub [0, 1, 2, 3, 4] rfl
      have hD : va_D A (wW_X5_splitOne ak ad ht ta Tlen Tcnt Tsigns Ttoks Tplc Tvals) := hD.sub [0, 1, 2, 3, 4] (by decide) rfl
      refine lv_iload_n hx hb dX5_splitOne_97 rfl (lv_at hl 1 rfl) ?_
      refine lv_lconst (v := 0) hx hb dX5_splitOne_98 rfl ?_
      refine kc_v (wc := (wW_X5_add ak ad ht ta Tlen Tcnt Ttoks Tplc Tvals)) (wr := [((ta 0), .inl (ak 2, 1000, .inl (Tsigns)))]) hP hD hS hA [0, 2, 3, 4] [1] rfl rfl (by decide) (by decide) (va_runV (As := [.ref (ad r_9), .int (xa), .long (0)]) (rest := []) ⟨hx, hb, hml, hown, hts⟩ (c_X5_add l D ak ad _ ht ta Tlen Tcnt Ttoks Tplc Tvals r_9 xa 0 _ hw) (cwV 3 hts gX5_splitOne_X5_add rfl rfl rfl (by decide +kernel) ⟨(Nat.le_trans (Nat.le_of_ble_eq_true rfl) hRf), (Nat.le_trans (Nat.le_of_ble_eq_true rfl) hRl)⟩) (kc_preV (As := [.ref (ad r_9), .int (xa), .long (0)]) (wc := (wW_X5_add ak ad ht ta Tlen Tcnt Ttoks Tplc Tvals)) hE hT hP hD hS hA [0, 2, 3, 4] (by decide) rfl rfl 0 5 rfl rfl rfl) rfl rfl hl.1 rfl (lv_room (Nat.le_of_ble_eq_true rfl)) dX5_splitOne_99 ⟨hRc.1, hRc.2⟩) (fun u_10 H locs hw hP hD hS => ?_)
      obtain ⟨Tcnt_11, Ttoks_12, Tplc_13, Tvals_14⟩ := u_10
      try dsimp -zeta only at hw
      have hP : va_P D vwCl (wW_X5_splitOne ak ad ht ta Tlen Tcnt_11 Tsigns Ttoks_12 Tplc_13 Tvals_14) H := hP.sub [1, 0, 2, 3, 4] rfl
      have hD : va_D A (wW_X5_splitOne ak ad ht ta Tlen Tcnt_11 Tsigns Ttoks_12 Tplc_13 Tvals_14) := hD.sub [1, 0, 2, 3, 4] (by decide) rfl
      refine lv_iload_n hx hb dX5_splitOne_102 rfl (lv_at hl 3 rfl) ?_
      exact kR103 l3 Tcnt_11 Ttoks_12 Tplc_13 Tvals_14 _ _ _ hw hP hD hS
    · replace hw := hw.2 c_6
      refine lv_aload_n hx hb dX5_splitOne_74 rfl (lv_at hl 0 rfl) ?_
      refine lv_iload_n hx hb dX5_splitOne_75 rfl (lv_at hl 1 rfl) ?_
      refine lv_iload_n hx hb dX5_splitOne_76 rfl (lv_at hl 3 rfl) ?_
      refine kc_v (wc := (wW_X5_addNumber ak ad ht ta Tlen Tcnt Tsigns Ttoks Tplc Tvals)) (wr := []) hP hD hS hA [0, 1, 2, 3, 4] [] rfl rfl (by decide) (by decide) (va_runV (As := [.int (xa), .int (l3)]) (rest := []) ⟨hx, hb, hml, hown, hts⟩ (c_X5_addNumber l D ak ad _ ht ta Tlen Tcnt Tsigns Ttoks Tplc Tvals xa l3 _ hw) (cwV 2 hts gX5_splitOne_X5_addNumber rfl rfl rfl (by decide +kernel) ⟨(Nat.le_trans (Nat.le_of_ble_eq_true rfl) hRf), (Nat.le_trans (Nat.le_of_ble_eq_true rfl) hRl)⟩) (kc_preV (As := [.int (xa), .int (l3)]) (wc := (wW_X5_addNumber ak ad ht ta Tlen Tcnt Tsigns Ttoks Tplc Tvals)) hE hT hP hD hS hA [0, 1, 2, 3, 4] (by decide) rfl rfl 0 5 rfl rfl rfl) rfl rfl hl.1 rfl (lv_room (Nat.le_of_ble_eq_true rfl)) dX5_splitOne_77 ⟨hRc.1, hRc.2⟩) (fun u_16 H locs hw hP hD hS => ?_)
      obtain ⟨Tcnt_17, Ttoks_18, Tplc_19, Tvals_20⟩ := u_16
      try dsimp -zeta only at hw
      have hP : va_P D vwCl (wW_X5_splitOne ak ad ht ta Tlen Tcnt_17 Tsigns Ttoks_18 Tplc_19 Tvals_20) H := hP.sub [0, 1, 2, 3, 4] rfl
      have hD : va_D A (wW_X5_splitOne ak ad ht ta Tlen Tcnt_17 Tsigns Ttoks_18 Tplc_19 Tvals_20) := hD.sub [0, 1, 2, 3, 4] (by decide) rfl
      refine lv_goto (tgt := 102) hx hb dX5_splitOne_80 (by decide) ?_
      refine lv_iload_n hx hb dX5_splitOne_102 rfl (lv_at hl 3 rfl) ?_
      exact kR103 l3 Tcnt_17 Ttoks_18 Tplc_19 Tvals_20 _ _ _ hw hP hD hS
  · replace hw := hw.2 c_5
    refine lv_aload_n hx hb dX5_splitOne_59 rfl (lv_at hl 0 rfl) ?_
    refine lv_iload_n hx hb dX5_splitOne_60 rfl (lv_at hl 1 rfl) ?_
    refine lv_iload_n hx hb dX5_splitOne_61 rfl (lv_at hl 3 rfl) ?_
    refine kc_v (wc := (wW_X5_addWord ak ad ht ta Tlen Tcnt Tsigns Ttoks Tplc Tvals)) (wr := []) hP hD hS hA [0, 1, 2, 3, 4] [] rfl rfl (by decide) (by decide) (va_runV (As := [.int (xa), .int (l3)]) (rest := []) ⟨hx, hb, hml, hown, hts⟩ (c_X5_addWord l D ak ad _ ht ta Tlen Tcnt Tsigns Ttoks Tplc Tvals xa l3 _ hw) (cwV 2 hts gX5_splitOne_X5_addWord rfl rfl rfl (by decide +kernel) ⟨(Nat.le_trans (Nat.le_of_ble_eq_true rfl) hRf), (Nat.le_trans (Nat.le_of_ble_eq_true rfl) hRl)⟩) (kc_preV (As := [.int (xa), .int (l3)]) (wc := (wW_X5_addWord ak ad ht ta Tlen Tcnt Tsigns Ttoks Tplc Tvals)) hE hT hP hD hS hA [0, 1, 2, 3, 4] (by decide) rfl rfl 0 5 rfl rfl rfl) rfl rfl hl.1 rfl (lv_room (Nat.le_of_ble_eq_true rfl)) dX5_splitOne_62 ⟨hRc.1, hRc.2⟩) (fun u_22 H locs hw hP hD hS => ?_)
    obtain ⟨Tcnt_23, Ttoks_24, Tplc_25, Tvals_26⟩ := u_22
    try dsimp -zeta only at hw
    have hP : va_P D vwCl (wW_X5_splitOne ak ad ht ta Tlen Tcnt_23 Tsigns Ttoks_24 Tplc_25 Tvals_26) H := hP.sub [0, 1, 2, 3, 4] rfl
    have hD : va_D A (wW_X5_splitOne ak ad ht ta Tlen Tcnt_23 Tsigns Ttoks_24 Tplc_25 Tvals_26) := hD.sub [0, 1, 2, 3, 4] (by decide) rfl
    refine lv_goto (tgt := 102) hx hb dX5_splitOne_65 (by decide) ?_
    refine lv_iload_n hx hb dX5_splitOne_102 rfl (lv_at hl 3 rfl) ?_
    exact kR103 l3 Tcnt_23 Ttoks_24 Tplc_25 Tvals_26 _ _ _ hw hP hD hS

def lb_X5_splitOne_17 (Tlen : Int32) (Tsigns : Nat → Int32) (xa : Int32)  (Φ : Int32 → Int32 → (Nat → Nat) → (Nat → Int32) → (Nat → Int64) → Prop) (back : Int32 → (Nat → Nat) → (Nat → Int32) → (Nat → Int64) → Int32 → Int32 → Int32 → Prop) (Tcnt : Int32) (Ttoks : Nat → Nat) (Tplc : Nat → Int32) (Tvals : Nat → Int64) (l2 : Int32) (l3 : Int32) (l4 : Int32) : Prop := (Tlen ≤ l4 → kf_X5_splitOne_53 Tlen Tsigns xa  Φ Tcnt Ttoks Tplc Tvals l2 l3) ∧ (¬ Tlen ≤ l4 → (l2 = 0 → kf_X5_splitOne_53 Tlen Tsigns xa  Φ Tcnt Ttoks Tplc Tvals l2 l3) ∧ (¬ l2 = 0 → vp_in l4 1000 ∧ wp_X5_kindOf (Tsigns (l4).toNatClampNeg) (fun r_31 => (¬ r_31 = l2 → kf_X5_splitOne_53 Tlen Tsigns xa  Φ Tcnt Ttoks Tplc Tvals l2 l3) ∧ (r_31 = l2 → back Tcnt Ttoks Tplc Tvals l2 (l3 + 1) (l4 + 1)))))
def lf_X5_splitOne_17 (Tlen : Int32) (Tsigns : Nat → Int32) (xa : Int32)  (Φ : Int32 → Int32 → (Nat → Nat) → (Nat → Int32) → (Nat → Int64) → Prop) : Nat → Int32 → (Nat → Nat) → (Nat → Int32) → (Nat → Int64) → Int32 → Int32 → Int32 → Prop
  | 0, _, _, _, _, _, _, _ => False
  | n_ + 1, Tcnt, Ttoks, Tplc, Tvals, l2, l3, l4 => lb_X5_splitOne_17 Tlen Tsigns xa  Φ (lf_X5_splitOne_17 Tlen Tsigns xa  Φ n_) Tcnt Ttoks Tplc Tvals l2 l3 l4
theorem li_X5_splitOne_17 (Tlen : Int32) (Tsigns : Nat → Int32) (xa : Int32)  (Φ : Int32 → Int32 → (Nat → Nat) → (Nat → Int32) → (Nat → Int64) → Prop) (Inv : Int32 → (Nat → Nat) → (Nat → Int32) → (Nat → Int64) → Int32 → Int32 → Int32 → Prop) (mu : Int32 → (Nat → Nat) → (Nat → Int32) → (Nat → Int64) → Int32 → Int32 → Int32 → Nat) (hs : ∀ (back : Int32 → (Nat → Nat) → (Nat → Int32) → (Nat → Int64) → Int32 → Int32 → Int32 → Prop) (Tcnt : Int32) (Ttoks : Nat → Nat) (Tplc : Nat → Int32) (Tvals : Nat → Int64) (l2 : Int32) (l3 : Int32) (l4 : Int32), Inv Tcnt Ttoks Tplc Tvals l2 l3 l4 → (∀ (Tcnt' : Int32) (Ttoks' : Nat → Nat) (Tplc' : Nat → Int32) (Tvals' : Nat → Int64) (l2' : Int32) (l3' : Int32) (l4' : Int32), Inv Tcnt' Ttoks' Tplc' Tvals' l2' l3' l4' → mu Tcnt' Ttoks' Tplc' Tvals' l2' l3' l4' < mu Tcnt Ttoks Tplc Tvals l2 l3 l4 → back Tcnt' Ttoks' Tplc' Tvals' l2' l3' l4') → lb_X5_splitOne_17 Tlen Tsigns xa  Φ back Tcnt Ttoks Tplc Tvals l2 l3 l4) : ∀ (n_ : Nat) (Tcnt : Int32) (Ttoks : Nat → Nat) (Tplc : Nat → Int32) (Tvals : Nat → Int64) (l2 : Int32) (l3 : Int32) (l4 : Int32), Inv Tcnt Ttoks Tplc Tvals l2 l3 l4 → mu Tcnt Ttoks Tplc Tvals l2 l3 l4 < n_ → lf_X5_splitOne_17 Tlen Tsigns xa  Φ n_ Tcnt Ttoks Tplc Tvals l2 l3 l4 := by
  intro n_
  induction n_ with
  | zero => intro Tcnt Ttoks Tplc Tvals l2 l3 l4 _ h; exact absurd h (Nat.not_lt_zero _)
  | succ n_ ih => intro Tcnt Ttoks Tplc Tvals l2 l3 l4 hI hm; exact hs _ Tcnt Ttoks Tplc Tvals l2 l3 l4 hI (fun Tcnt' Ttoks' Tplc' Tvals' l2' l3' l4' h1 h2 => ih Tcnt' Ttoks' Tplc' Tvals' l2' l3' l4' h1 (by omega))
set_option maxHeartbeats 4000000 in
set_option maxRecDepth 100000 in
theorem lp_X5_splitOne_17 {p : Program} {l : Launch} {e : Env} {R : Room} {s : State} {m : MethodId} {args : Array Value} {below : List Frame} {meth : Method} {c : Code} {cells slots : Nat} {Q : State → Prop} {A : Nat → Prop} {D : va_G} {ak : Nat → ClassId} {ad : Nat → Nat} (hx : p.tables.exec = Jvm.exec) (hb : c.code = cX5_splitOne) (hown : s.vm.findClass RX5 = some m.cls) (hts : ∀ w ∈ wsX5_splitOne, w.before args s = true) (hml : c.maxLocals = 5) (hE : EV D ak s) (hT : ST D ak ad A s s.heap) (hA : ∀ q, s.heap.size ≤ q → A q) (hRf : 2 ≤ R.frames) (hRl : 51 ≤ R.locals) (hRc : cells ≤ R.cells ∧ slots ≤ R.slots) (ht : Nat) (ta : Nat → Nat) (Tlen : Int32) (Tsigns : Nat → Int32) (xa : Int32)  (Φ : Int32 → Int32 → (Nat → Nat) → (Nat → Int32) → (Nat → Int64) → Prop)
    (kR103 : ∀ (r : Int32) (Tcnt : Int32) (Ttoks : Nat → Nat) (Tplc : Nat → Int32) (Tvals : Nat → Int64) (H : Heap) (locs : List Loc) (ls : Array Slot), Φ r Tcnt Ttoks Tplc Tvals → va_P D vwCl (wW_X5_splitOne ak ad ht ta Tlen Tcnt Tsigns Ttoks Tplc Tvals) H → va_D A (wW_X5_splitOne ak ad ht ta Tlen Tcnt Tsigns Ttoks Tplc Tvals) → va_S A s.heap H locs → W p l e R s m args below meth c H locs cells slots Q (F0 m 103 ls [.int r]))
    : ∀ (n_ : Nat) (Tcnt : Int32) (Ttoks : Nat → Nat) (Tplc : Nat → Int32) (Tvals : Nat → Int64) (l2 : Int32) (l3 : Int32) (l4 : Int32) (H : Heap) (locs : List Loc) (ls : Array Slot), lf_X5_splitOne_17 Tlen Tsigns xa  Φ n_ Tcnt Ttoks Tplc Tvals l2 l3 l4 → va_P D vwCl (wW_X5_splitOne ak ad ht ta Tlen Tcnt Tsigns Ttoks Tplc Tvals) H → va_D A (wW_X5_splitOne ak ad ht ta Tlen Tcnt Tsigns Ttoks Tplc Tvals) → va_S A s.heap H locs → lv_has ls 5 [(0, .ref ht), (1, .int (xa)), (2, .int (l2)), (3, .int (l3)), (4, .int (l4))] → W p l e R s m args below meth c H locs cells slots Q (F0 m 17 ls ([])) := by
  intro n_
  induction n_ with
  | zero =>
    intro Tcnt Ttoks Tplc Tvals l2 l3 l4 H locs ls hw
    exact hw.elim
  | succ n_ ih =>
    intro Tcnt Ttoks Tplc Tvals l2 l3 l4 H locs ls hw hP hD hS hl
    have hw : lb_X5_splitOne_17 Tlen Tsigns xa  Φ (lf_X5_splitOne_17 Tlen Tsigns xa  Φ n_) Tcnt Ttoks Tplc Tvals l2 l3 l4 := hw
    delta lb_X5_splitOne_17 at hw
    refine lv_iload hx hb dX5_splitOne_17 (lv_at hl 4 rfl) ?_
    refine lv_aload_n hx hb dX5_splitOne_19 rfl (lv_at hl 0 rfl) ?_
    refine va_get (D := D) (ci := 5) (v := .int (Tlen)) (C := RX5) (T := TX5) (N := 6) hx hb hts (fun w h => wm_c (wc_X5 w h)) hown hE.1 hP 0 rfl rfl 1 (by decide) (hts (.fieldLink RX5 29 "WornLines$Tape" "length" "I") (wm_c hw_392)) (fun _ h9 => h9) rfl dX5_splitOne_20 ?_
    refine lv_icmp_ge (tgt := 53) hx hb dX5_splitOne_23 (by decide) (fun c_4 => ?_) (fun c_4 => ?_)
    · replace hw := hw.1 c_4
      exact kj_X5_splitOne_53 hx hb hown hts hml hE hT hA hRf hRl hRc ht ta Tlen Tsigns xa  Φ  kR103 Tcnt Ttoks Tplc Tvals l2 l3 _ _ _ hw hP hD hS (lv_sub hl [0, 1, 2, 3] rfl)
    · replace hw := hw.2 c_4
      refine lv_iload_n hx hb dX5_splitOne_26 rfl (lv_at hl 2 rfl) ?_
      refine lv_if_eq (tgt := 53) hx hb dX5_splitOne_27 (by decide) (fun c_28 => ?_) (fun c_28 => ?_)
      · replace hw := hw.1 c_28
        exact kj_X5_splitOne_53 hx hb hown hts hml hE hT hA hRf hRl hRc ht ta Tlen Tsigns xa  Φ  kR103 Tcnt Ttoks Tplc Tvals l2 l3 _ _ _ hw hP hD hS (lv_sub hl [0, 1, 2, 3] rfl)
      · replace hw := hw.2 c_28
        refine lv_aload_n hx hb dX5_splitOne_30 rfl (lv_at hl 0 rfl) ?_
        refine va_get (D := D) (ci := 5) (v := .ref (ta 0)) (C := RX5) (T := TX5) (N := 6) hx hb hts (fun w h => wm_c (wc_X5 w h)) hown hE.1 hP 0 rfl rfl 0 (by decide) (hts (.fieldLink RX5 9 "WornLines$Tape" "signs" "[C") (wm_c hw_264)) (fun _ h9 => h9) rfl dX5_splitOne_31 ?_
        refine lv_iload hx hb dX5_splitOne_34 (lv_at hl 4 rfl) ?_
        obtain ⟨h_29, hw⟩ := hw
        refine va_cald hx hb hE.1 hP 1 2 rfl rfl (h_29) dX5_splitOne_36 ?_
        refine kc_i (wc := []) (wr := [(ht, .inr (5, tob ta (Tlen) (Tcnt))), ((ta 0), .inl (ak 2, 1000, .inl (Tsigns))), ((ta 1), .inl (ak 4, 1001, .inr (.inr (.inr (.inr (tokA ad (Ttoks))))))), ((ta 2), .inl (ak 0, 1001, .inl (Tplc))), ((ta 3), .inl (ak 1, 1001, .inr (.inl (Tvals))))]) hP hD hS hA [] [0, 1, 2, 3, 4] rfl rfl (by decide) (by decide) (va_runS (As := [.int (Tsigns (l4).toNatClampNeg)]) (rest := []) ⟨hx, hb, hml, hown, hts⟩ (c_X5_kindOf l D ak ad _ (Tsigns (l4).toNatClampNeg) _ hw) (va_cwS 1 hts gX5_splitOne_X5_kindOf rfl rfl rfl (by decide +kernel) ⟨(Nat.le_trans (Nat.le_of_ble_eq_true rfl) hRf), (Nat.le_trans (Nat.le_of_ble_eq_true rfl) hRl)⟩) (kc_pre (As := [.int (Tsigns (l4).toNatClampNeg)]) (wc := []) hE hT hP hD hS hA [] (by decide) rfl rfl) rfl rfl hl.1 rfl (lv_room (Nat.le_of_ble_eq_true rfl)) dX5_splitOne_37 ⟨hRc.1, hRc.2⟩) (fun r_31 u_30 H locs hw hP hD hS => ?_)
        try dsimp -zeta only at hw
        have hP : va_P D vwCl (wW_X5_splitOne ak ad ht ta Tlen Tcnt Tsigns Ttoks Tplc Tvals) H := hP.sub [0, 1, 2, 3, 4] rfl
        have hD : va_D A (wW_X5_splitOne ak ad ht ta Tlen Tcnt Tsigns Ttoks Tplc Tvals) := hD.sub [0, 1, 2, 3, 4] (by decide) rfl
        refine lv_iload_n hx hb dX5_splitOne_40 rfl (lv_at hl 2 rfl) ?_
        refine lv_icmp_ne (tgt := 53) hx hb dX5_splitOne_41 (by decide) (fun c_32 => ?_) (fun c_32 => ?_)
        · replace hw := hw.1 c_32
          exact kj_X5_splitOne_53 hx hb hown hts hml hE hT hA hRf hRl hRc ht ta Tlen Tsigns xa  Φ  kR103 Tcnt Ttoks Tplc Tvals l2 l3 _ _ _ hw hP hD hS (lv_sub hl [0, 1, 2, 3] rfl)
        · replace hw := hw.2 c_32
          refine lv_iinc (v := (l3 + 1)) (lv' := [(3, .int (l3 + 1)), (0, .ref ht), (1, .int (xa)), (2, .int (l2)), (4, .int (l4))]) hx hb dX5_splitOne_44 hl (k := 3) rfl (rfl) (by decide) rfl (fun ls hl => ?_)
          refine lv_iinc (v := (l4 + 1)) (lv' := [(4, .int (l4 + 1)), (3, .int (l3 + 1)), (0, .ref ht), (1, .int (xa)), (2, .int (l2))]) hx hb dX5_splitOne_47 hl (k := 4) rfl (rfl) (by decide) rfl (fun ls hl => ?_)
          refine lv_goto (tgt := 17) hx hb dX5_splitOne_50 (by decide) ?_
          exact ih Tcnt Ttoks Tplc Tvals l2 (l3 + 1) (l4 + 1) _ _ _ hw hP hD hS (lv_sub hl [2, 3, 4, 1, 0] rfl)

def wp_X5_splitOne (Tlen : Int32) (Tsigns : Nat → Int32) (xa : Int32) (Tcnt : Int32) (Ttoks : Nat → Nat) (Tplc : Nat → Int32) (Tvals : Nat → Int64) (Φ : Int32 → Int32 → (Nat → Nat) → (Nat → Int32) → (Nat → Int64) → Prop) : Prop := vp_in xa 1000 ∧ wp_X5_kindOf (Tsigns (xa).toNatClampNeg) (fun r_3 => (∃ n_, lf_X5_splitOne_17 Tlen Tsigns xa  Φ n_ Tcnt Ttoks Tplc Tvals r_3 (xa + 1) (xa + 1)))
set_option maxHeartbeats 4000000 in
set_option maxRecDepth 100000 in
theorem kj_X5_splitOne_e {p : Program} {l : Launch} {e : Env} {R : Room} {s : State} {m : MethodId} {args : Array Value} {below : List Frame} {meth : Method} {c : Code} {cells slots : Nat} {Q : State → Prop} {A : Nat → Prop} {D : va_G} {ak : Nat → ClassId} {ad : Nat → Nat} (hx : p.tables.exec = Jvm.exec) (hb : c.code = cX5_splitOne) (hown : s.vm.findClass RX5 = some m.cls) (hts : ∀ w ∈ wsX5_splitOne, w.before args s = true) (hml : c.maxLocals = 5) (hE : EV D ak s) (hT : ST D ak ad A s s.heap) (hA : ∀ q, s.heap.size ≤ q → A q) (hRf : 2 ≤ R.frames) (hRl : 51 ≤ R.locals) (hRc : cells ≤ R.cells ∧ slots ≤ R.slots) (ht : Nat) (ta : Nat → Nat) (Tlen : Int32) (Tsigns : Nat → Int32) (xa : Int32)  (Φ : Int32 → Int32 → (Nat → Nat) → (Nat → Int32) → (Nat → Int64) → Prop)
    (kR103 : ∀ (r : Int32) (Tcnt : Int32) (Ttoks : Nat → Nat) (Tplc : Nat → Int32) (Tvals : Nat → Int64) (H : Heap) (locs : List Loc) (ls : Array Slot), Φ r Tcnt Ttoks Tplc Tvals → va_P D vwCl (wW_X5_splitOne ak ad ht ta Tlen Tcnt Tsigns Ttoks Tplc Tvals) H → va_D A (wW_X5_splitOne ak ad ht ta Tlen Tcnt Tsigns Ttoks Tplc Tvals) → va_S A s.heap H locs → W p l e R s m args below meth c H locs cells slots Q (F0 m 103 ls [.int r]))
    : ∀ (Tcnt : Int32) (Ttoks : Nat → Nat) (Tplc : Nat → Int32) (Tvals : Nat → Int64) (H : Heap) (locs : List Loc) (ls : Array Slot), wp_X5_splitOne Tlen Tsigns xa Tcnt Ttoks Tplc Tvals Φ → va_P D vwCl (wW_X5_splitOne ak ad ht ta Tlen Tcnt Tsigns Ttoks Tplc Tvals) H → va_D A (wW_X5_splitOne ak ad ht ta Tlen Tcnt Tsigns Ttoks Tplc Tvals) → va_S A s.heap H locs → lv_has ls 5 [(0, .ref ht), (1, .int (xa))] → W p l e R s m args below meth c H locs cells slots Q (F0 m 0 ls ([])) := by
  intro Tcnt Ttoks Tplc Tvals H locs ls hw hP hD hS hl
  delta wp_X5_splitOne at hw
  refine lv_aload_n hx hb dX5_splitOne_0 rfl (lv_at hl 0 rfl) ?_
  refine va_get (D := D) (ci := 5) (v := .ref (ta 0)) (C := RX5) (T := TX5) (N := 6) hx hb hts (fun w h => wm_c (wc_X5 w h)) hown hE.1 hP 0 rfl rfl 0 (by decide) (hts (.fieldLink RX5 9 "WornLines$Tape" "signs" "[C") (wm_c hw_264)) (fun _ h9 => h9) rfl dX5_splitOne_1 ?_
  refine lv_iload_n hx hb dX5_splitOne_4 rfl (lv_at hl 1 rfl) ?_
  obtain ⟨h_1, hw⟩ := hw
  refine va_cald hx hb hE.1 hP 1 2 rfl rfl (h_1) dX5_splitOne_5 ?_
  refine kc_i (wc := []) (wr := [(ht, .inr (5, tob ta (Tlen) (Tcnt))), ((ta 0), .inl (ak 2, 1000, .inl (Tsigns))), ((ta 1), .inl (ak 4, 1001, .inr (.inr (.inr (.inr (tokA ad (Ttoks))))))), ((ta 2), .inl (ak 0, 1001, .inl (Tplc))), ((ta 3), .inl (ak 1, 1001, .inr (.inl (Tvals))))]) hP hD hS hA [] [0, 1, 2, 3, 4] rfl rfl (by decide) (by decide) (va_runS (As := [.int (Tsigns (xa).toNatClampNeg)]) (rest := []) ⟨hx, hb, hml, hown, hts⟩ (c_X5_kindOf l D ak ad _ (Tsigns (xa).toNatClampNeg) _ hw) (va_cwS 1 hts gX5_splitOne_X5_kindOf rfl rfl rfl (by decide +kernel) ⟨(Nat.le_trans (Nat.le_of_ble_eq_true rfl) hRf), (Nat.le_trans (Nat.le_of_ble_eq_true rfl) hRl)⟩) (kc_pre (As := [.int (Tsigns (xa).toNatClampNeg)]) (wc := []) hE hT hP hD hS hA [] (by decide) rfl rfl) rfl rfl hl.1 rfl (lv_room (Nat.le_of_ble_eq_true rfl)) dX5_splitOne_6 ⟨hRc.1, hRc.2⟩) (fun r_3 u_2 H locs hw hP hD hS => ?_)
  try dsimp -zeta only at hw
  have hP : va_P D vwCl (wW_X5_splitOne ak ad ht ta Tlen Tcnt Tsigns Ttoks Tplc Tvals) H := hP.sub [0, 1, 2, 3, 4] rfl
  have hD : va_D A (wW_X5_splitOne ak ad ht ta Tlen Tcnt Tsigns Ttoks Tplc Tvals) := hD.sub [0, 1, 2, 3, 4] (by decide) rfl
  refine lv_istore_n (lv' := [(2, .int (r_3)), (0, .ref ht), (1, .int (xa))]) hx hb dX5_splitOne_9 rfl hl (by decide) rfl (fun ls hl => ?_)
  refine lv_iload_n hx hb dX5_splitOne_10 rfl (lv_at hl 2 rfl) ?_
  refine lv_iconst (v := 1) hx hb dX5_splitOne_11 (by decide) ?_
  refine lv_iadd hx hb dX5_splitOne_12 ?_
  refine lv_istore_n (lv' := [(3, .int (xa + 1)), (2, .int (r_3)), (0, .ref ht), (1, .int (xa))]) hx hb dX5_splitOne_13 rfl hl (by decide) rfl (fun ls hl => ?_)
  refine lv_iload_n hx hb dX5_splitOne_14 rfl (lv_at hl 0 rfl) ?_
  refine lv_istore (lv' := [(4, .int (xa + 1)), (3, .int (xa + 1)), (2, .int (r_3)), (0, .ref ht), (1, .int (xa))]) hx hb dX5_splitOne_15 hl (by decide) rfl (fun ls hl => ?_)
  obtain ⟨n1_, hw⟩ := hw
  exact lp_X5_splitOne_17 hx hb hown hts hml hE hT hA hRf hRl hRc ht ta Tlen Tsigns xa  Φ  kR103 n1_ Tcnt Ttoks Tplc Tvals r_3 (xa + 1) (xa + 1) _ _ _ hw hP hD hS (lv_sub hl [3, 4, 2, 1, 0] rfl)
set_option maxHeartbeats 4000000 in
set_option maxRecDepth 100000 in
theorem c_X5_splitOne (l : Launch) (D : va_G) (ak : Nat → ClassId) (ad : Nat → Nat) (sz : Nat) (ht : Nat) (ta : Nat → Nat) (Tlen : Int32) (Tcnt : Int32) (Tsigns : Nat → Int32) (Ttoks : Nat → Nat) (Tplc : Nat → Int32) (Tvals : Nat → Int64) (xa : Int32) (Φ : Int32 → Int32 → (Nat → Nat) → (Nat → Int32) → (Nat → Int64) → Prop) (hf : wp_X5_splitOne Tlen Tsigns xa Tcnt Ttoks Tplc Tvals Φ) : Met l yX5_splitOne wsX5_splitOne ({ frames := 2, cells := 0, slots := 0, locals := 51 }) (cPre D ak ad [.ref ht, .int (xa)] ((wW_X5_splitOne ak ad ht ta Tlen Tcnt Tsigns Ttoks Tplc Tvals)) sz) (cI D (S := (Int32) × (Nat → Nat) × (Nat → Int32) × (Nat → Int64)) (fun (r : Int32) (u : (Int32) × (Nat → Nat) × (Nat → Int32) × (Nat → Int64)) => Φ r u.1 u.2.1 u.2.2.1 u.2.2.2) (fun u => (wW_X5_splitOne ak ad ht ta Tlen u.1 Tsigns u.2.1 u.2.2.1 u.2.2.2)) ((wW_X5_splitOne ak ad ht ta Tlen Tcnt Tsigns Ttoks Tplc Tvals)) sz) 0 0 (va_A ((wW_X5_splitOne ak ad ht ta Tlen Tcnt Tsigns Ttoks Tplc Tvals)) sz) := by
  refine Met.ofW (cc := cX5_splitOne) (maxL := 5) (ret := (some .int)) (by decide) rfl ?_
  intro p e s m args below meth c s₁ B hml hv
  obtain ⟨rfl, hsz, hP, hE, hD0, hT⟩ := hv
  have hx := B.exec
  have hb := B.bytes
  have hr := B.returns
  have hts := atoms_spec (ws := wsX5_splitOne) B.pre
  have hown : s.vm.findClass RX5 = some m.cls := findClass_of_methodNamed B.named
  have hlocks := B.notSynchronized
  subst hsz
  have hD := hD0.self (sz := s.heap.size)
  generalize hAe : va_A ((wW_X5_splitOne ak ad ht ta Tlen Tcnt Tsigns Ttoks Tplc Tvals)) s.heap.size = A at hD hT ⊢
  have hA : ∀ q : Nat, s.heap.size ≤ q → A q := fun q h => by rw [← hAe]; exact Or.inr h
  have hS : va_S A s.heap s.heap [] := va_S.rf
  have hl := lv_entry ([.ref ht, .int (xa)]) (n := 5) (Nat.le_of_ble_eq_true rfl)
  rw [lg_entry_eq]
  generalize (lg_sl ([.ref ht, .int (xa)]) ++ List.replicate (5 - (lg_sl ([.ref ht, .int (xa)])).length) Slot.unset).toArray = ls at hl ⊢
  have hl : lv_has ls 5 [(0, .ref ht), (1, .int (xa))] := hl
  exact kj_X5_splitOne_e hx hb hown hts hml hE hT hA (Nat.le_of_ble_eq_true rfl) (Nat.le_of_ble_eq_true rfl) ⟨Nat.le_of_ble_eq_true rfl, Nat.le_of_ble_eq_true rfl⟩ ht ta Tlen Tsigns xa Φ (fun r Tcnt Ttoks Tplc Tvals H locs ls hw hP hD hS => W.iret (v := r) hx hb hr (fun t ht hW => ⟨⟨r, (Tcnt, Ttoks, Tplc, Tvals), rfl, hw, by rw [ht]; exact hP, by rw [hAe]; exact hD⟩, by rw [hAe]; exact hS.F ht⟩) hS.2.2 dX5_splitOne_103) Tcnt Ttoks Tplc Tvals _ _ _ hf hP hD hS hl

def wW_X5_split (ak : Nat → ClassId) (ad : Nat → Nat) (ht : Nat) (ta : Nat → Nat) (Tlen : Int32) (Tcnt : Int32) (Tsigns : Nat → Int32) (Ttoks : Nat → Nat) (Tplc : Nat → Int32) (Tvals : Nat → Int64) : va_W := [(ht, .inr (5, tob ta (Tlen) (Tcnt))), ((ta 0), .inl (ak 2, 1000, .inl (Tsigns))), ((ta 1), .inl (ak 4, 1001, .inr (.inr (.inr (.inr (tokA ad (Ttoks))))))), ((ta 2), .inl (ak 0, 1001, .inl (Tplc))), ((ta 3), .inl (ak 1, 1001, .inr (.inl (Tvals))))]
def lb_X5_split_9 (Tlen : Int32) (Tsigns : Nat → Int32)  (Φ : Int32 → (Nat → Nat) → (Nat → Int32) → (Nat → Int64) → Prop) (back : Int32 → (Nat → Nat) → (Nat → Int32) → (Nat → Int64) → Int32 → Int32 → Prop) (Tcnt : Int32) (Ttoks : Nat → Nat) (Tplc : Nat → Int32) (Tvals : Nat → Int64) (l1 : Int32) (l2 : Int32) : Prop := (1000 ≤ l2 → wp_X5_add 0 Tlen 0 Tcnt Ttoks Tplc Tvals (fun Tcnt_3 Ttoks_4 Tplc_5 Tvals_6 => Φ Tcnt_3 Ttoks_4 Tplc_5 Tvals_6)) ∧ (¬ 1000 ≤ l2 → (Tlen ≤ l1 → wp_X5_add 0 Tlen 0 Tcnt Ttoks Tplc Tvals (fun Tcnt_10 Ttoks_11 Tplc_12 Tvals_13 => Φ Tcnt_10 Ttoks_11 Tplc_12 Tvals_13)) ∧ (¬ Tlen ≤ l1 → vp_in l1 1000 ∧ wp_X5_isBlank (Tsigns (l1).toNatClampNeg) (fun r_17 => (r_17 = 0 → wp_X5_splitOne Tlen Tsigns l1 Tcnt Ttoks Tplc Tvals (fun r_24 Tcnt_20 Ttoks_21 Tplc_22 Tvals_23 => back Tcnt_20 Ttoks_21 Tplc_22 Tvals_23 r_24 (l2 + 1))) ∧ (¬ r_17 = 0 → back Tcnt Ttoks Tplc Tvals (l1 + 1) (l2 + 1)))))
def lf_X5_split_9 (Tlen : Int32) (Tsigns : Nat → Int32)  (Φ : Int32 → (Nat → Nat) → (Nat → Int32) → (Nat → Int64) → Prop) : Nat → Int32 → (Nat → Nat) → (Nat → Int32) → (Nat → Int64) → Int32 → Int32 → Prop
  | 0, _, _, _, _, _, _ => False
  | n_ + 1, Tcnt, Ttoks, Tplc, Tvals, l1, l2 => lb_X5_split_9 Tlen Tsigns  Φ (lf_X5_split_9 Tlen Tsigns  Φ n_) Tcnt Ttoks Tplc Tvals l1 l2
theorem li_X5_split_9 (Tlen : Int32) (Tsigns : Nat → Int32)  (Φ : Int32 → (Nat → Nat) → (Nat → Int32) → (Nat → Int64) → Prop) (Inv : Int32 → (Nat → Nat) → (Nat → Int32) → (Nat → Int64) → Int32 → Int32 → Prop) (mu : Int32 → (Nat → Nat) → (Nat → Int32) → (Nat → Int64) → Int32 → Int32 → Nat) (hs : ∀ (back : Int32 → (Nat → Nat) → (Nat → Int32) → (Nat → Int64) → Int32 → Int32 → Prop) (Tcnt : Int32) (Ttoks : Nat → Nat) (Tplc : Nat → Int32) (Tvals : Nat → Int64) (l1 : Int32) (l2 : Int32), Inv Tcnt Ttoks Tplc Tvals l1 l2 → (∀ (Tcnt' : Int32) (Ttoks' : Nat → Nat) (Tplc' : Nat → Int32) (Tvals' : Nat → Int64) (l1' : Int32) (l2' : Int32), Inv Tcnt' Ttoks' Tplc' Tvals' l1' l2' → mu Tcnt' Ttoks' Tplc' Tvals' l1' l2' < mu Tcnt Ttoks Tplc Tvals l1 l2 → back Tcnt' Ttoks' Tplc' Tvals' l1' l2') → lb_X5_split_9 Tlen Tsigns  Φ back Tcnt Ttoks Tplc Tvals l1 l2) : ∀ (n_ : Nat) (Tcnt : Int32) (Ttoks : Nat → Nat) (Tplc : Nat → Int32) (Tvals : Nat → Int64) (l1 : Int32) (l2 : Int32), Inv Tcnt Ttoks Tplc Tvals l1 l2 → mu Tcnt Ttoks Tplc Tvals l1 l2 < n_ → lf_X5_split_9 Tlen Tsigns  Φ n_ Tcnt Ttoks Tplc Tvals l1 l2 := by
  intro n_
  induction n_ with
  | zero => intro Tcnt Ttoks Tplc Tvals l1 l2 _ h; exact absurd h (Nat.not_lt_zero _)
  | succ n_ ih => intro Tcnt Ttoks Tplc Tvals l1 l2 hI hm; exact hs _ Tcnt Ttoks Tplc Tvals l1 l2 hI (fun Tcnt' Ttoks' Tplc' Tvals' l1' l2' h1 h2 => ih Tcnt' Ttoks' Tplc' Tvals' l1' l2' h1 (by omega))
set_option maxHeartbeats 4000000 in
set_option maxRecDepth 100000 in
theorem lp_X5_split_9 {p : Program} {l : Launch} {e : Env} {R : Room} {s : State} {m : MethodId} {args : Array Value} {below : List Frame} {meth : Method} {c : Code} {cells slots : Nat} {Q : State → Prop} {A : Nat → Prop} {D : va_G} {ak : Nat → ClassId} {ad : Nat → Nat} (hx : p.tables.exec = Jvm.exec) (hb : c.code = cX5_split) (hown : s.vm.findClass RX5 = some m.cls) (hts : ∀ w ∈ wsX5_split, w.before args s = true) (hml : c.maxLocals = 3) (hE : EV D ak s) (hT : ST D ak ad A s s.heap) (hA : ∀ q, s.heap.size ≤ q → A q) (hRf : 3 ≤ R.frames) (hRl : 75 ≤ R.locals) (hRc : cells ≤ R.cells ∧ slots ≤ R.slots) (ht : Nat) (ta : Nat → Nat) (Tlen : Int32) (Tsigns : Nat → Int32)  (Φ : Int32 → (Nat → Nat) → (Nat → Int32) → (Nat → Int64) → Prop)
    (kR66 : ∀ (Tcnt : Int32) (Ttoks : Nat → Nat) (Tplc : Nat → Int32) (Tvals : Nat → Int64) (H : Heap) (locs : List Loc) (ls : Array Slot), Φ Tcnt Ttoks Tplc Tvals → va_P D vwCl (wW_X5_split ak ad ht ta Tlen Tcnt Tsigns Ttoks Tplc Tvals) H → va_D A (wW_X5_split ak ad ht ta Tlen Tcnt Tsigns Ttoks Tplc Tvals) → va_S A s.heap H locs → W p l e R s m args below meth c H locs cells slots Q (F0 m 66 ls []))
    : ∀ (n_ : Nat) (Tcnt : Int32) (Ttoks : Nat → Nat) (Tplc : Nat → Int32) (Tvals : Nat → Int64) (l1 : Int32) (l2 : Int32) (H : Heap) (locs : List Loc) (ls : Array Slot), lf_X5_split_9 Tlen Tsigns  Φ n_ Tcnt Ttoks Tplc Tvals l1 l2 → va_P D vwCl (wW_X5_split ak ad ht ta Tlen Tcnt Tsigns Ttoks Tplc Tvals) H → va_D A (wW_X5_split ak ad ht ta Tlen Tcnt Tsigns Ttoks Tplc Tvals) → va_S A s.heap H locs → lv_has ls 3 [(0, .ref ht), (1, .int (l1)), (2, .int (l2))] → W p l e R s m args below meth c H locs cells slots Q (F0 m 9 ls ([])) := by
  intro n_
  induction n_ with
  | zero =>
    intro Tcnt Ttoks Tplc Tvals l1 l2 H locs ls hw
    exact hw.elim
  | succ n_ ih =>
    intro Tcnt Ttoks Tplc Tvals l1 l2 H locs ls hw hP hD hS hl
    have hw : lb_X5_split_9 Tlen Tsigns  Φ (lf_X5_split_9 Tlen Tsigns  Φ n_) Tcnt Ttoks Tplc Tvals l1 l2 := hw
    delta lb_X5_split_9 at hw
    refine lv_iload_n hx hb dX5_split_9 rfl (lv_at hl 2 rfl) ?_
    refine lv_sipush (v := 1000) hx hb dX5_split_10 (by decide) ?_
    refine lv_icmp_ge (tgt := 54) hx hb dX5_split_13 (by decide) (fun c_1 => ?_) (fun c_1 => ?_)
    · replace hw := hw.1 c_1
      refine lv_aload_n hx hb dX5_split_54 rfl (lv_at hl 0 rfl) ?_
      refine va_gets hx hb (hT.1 0 (by decide)).1 hS hown (hts (.fieldLink RX5 44 "WornLines$Token" "END" "LWornLines$Token;") (wm_c hw_405)) (fun _ h9 => h9) dX5_split_55 ?_
      refine lv_aload_n hx hb dX5_split_58 rfl (lv_at hl 0 rfl) ?_
      refine va_get (D := D) (ci := 5) (v := .int (Tlen)) (C := RX5) (T := TX5) (N := 6) hx hb hts (fun w h => wm_c (wc_X5 w h)) hown hE.1 hP 0 rfl rfl 1 (by decide) (hts (.fieldLink RX5 29 "WornLines$Tape" "length" "I") (wm_c hw_392)) (fun _ h9 => h9) rfl dX5_split_59 ?_
      refine lv_lconst (v := 0) hx hb dX5_split_62 rfl ?_
      refine kc_v (wc := (wW_X5_add ak ad ht ta Tlen Tcnt Ttoks Tplc Tvals)) (wr := [((ta 0), .inl (ak 2, 1000, .inl (Tsigns)))]) hP hD hS hA [0, 2, 3, 4] [1] rfl rfl (by decide) (by decide) (va_runV (As := [.ref (ad 0), .int (Tlen), .long (0)]) (rest := []) ⟨hx, hb, hml, hown, hts⟩ (c_X5_add l D ak ad _ ht ta Tlen Tcnt Ttoks Tplc Tvals 0 Tlen 0 _ hw) (cwV 3 hts gX5_split_X5_add rfl rfl rfl (by decide +kernel) ⟨(Nat.le_trans (Nat.le_of_ble_eq_true rfl) hRf), (Nat.le_trans (Nat.le_of_ble_eq_true rfl) hRl)⟩) (kc_preV (As := [.ref (ad 0), .int (Tlen), .long (0)]) (wc := (wW_X5_add ak ad ht ta Tlen Tcnt Ttoks Tplc Tvals)) hE hT hP hD hS hA [0, 2, 3, 4] (by decide) rfl rfl 0 5 rfl rfl rfl) rfl rfl hl.1 rfl (lv_room (Nat.le_of_ble_eq_true rfl)) dX5_split_63 ⟨hRc.1, hRc.2⟩) (fun u_2 H locs hw hP hD hS => ?_)
      obtain ⟨Tcnt_3, Ttoks_4, Tplc_5, Tvals_6⟩ := u_2
      try dsimp -zeta only at hw
      have hP : va_P D vwCl (wW_X5_split ak ad ht ta Tlen Tcnt_3 Tsigns Ttoks_4 Tplc_5 Tvals_6) H := hP.sub [1, 0, 2, 3, 4] rfl
      have hD : va_D A (wW_X5_split ak ad ht ta Tlen Tcnt_3 Tsigns Ttoks_4 Tplc_5 Tvals_6) := hD.sub [1, 0, 2, 3, 4] (by decide) rfl
      exact kR66 Tcnt_3 Ttoks_4 Tplc_5 Tvals_6 _ _ _ hw hP hD hS
    · replace hw := hw.2 c_1
      refine lv_iload_n hx hb dX5_split_16 rfl (lv_at hl 1 rfl) ?_
      refine lv_aload_n hx hb dX5_split_17 rfl (lv_at hl 0 rfl) ?_
      refine va_get (D := D) (ci := 5) (v := .int (Tlen)) (C := RX5) (T := TX5) (N := 6) hx hb hts (fun w h => wm_c (wc_X5 w h)) hown hE.1 hP 0 rfl rfl 1 (by decide) (hts (.fieldLink RX5 29 "WornLines$Tape" "length" "I") (wm_c hw_392)) (fun _ h9 => h9) rfl dX5_split_18 ?_
      refine lv_icmp_ge (tgt := 54) hx hb dX5_split_21 (by decide) (fun c_8 => ?_) (fun c_8 => ?_)
      · replace hw := hw.1 c_8
        refine lv_aload_n hx hb dX5_split_54 rfl (lv_at hl 0 rfl) ?_
        refine va_gets hx hb (hT.1 0 (by decide)).1 hS hown (hts (.fieldLink RX5 44 "WornLines$Token" "END" "LWornLines$Token;") (wm_c hw_405)) (fun _ h9 => h9) dX5_split_55 ?_
        refine lv_aload_n hx hb dX5_split_58 rfl (lv_at hl 0 rfl) ?_
        refine va_get (D := D) (ci := 5) (v := .int (Tlen)) (C := RX5) (T := TX5) (N := 6) hx hb hts (fun w h => wm_c (wc_X5 w h)) hown hE.1 hP 0 rfl rfl 1 (by decide) (hts (.fieldLink RX5 29 "WornLines$Tape" "length" "I") (wm_c hw_392)) (fun _ h9 => h9) rfl dX5_split_59 ?_
        refine lv_lconst (v := 0) hx hb dX5_split_62 rfl ?_
        refine kc_v (wc := (wW_X5_add ak ad ht ta Tlen Tcnt Ttoks Tplc Tvals)) (wr := [((ta 0), .inl (ak 2, 1000, .inl (Tsigns)))]) hP hD hS hA [0, 2, 3, 4] [1] rfl rfl (by decide) (by decide) (va_runV (As := [.ref (ad 0), .int (Tlen), .long (0)]) (rest := []) ⟨hx, hb, hml, hown, hts⟩ (c_X5_add l D ak ad _ ht ta Tlen Tcnt Ttoks Tplc Tvals 0 Tlen 0 _ hw) (cwV 3 hts gX5_split_X5_add rfl rfl rfl (by decide +kernel) ⟨(Nat.le_trans (Nat.le_of_ble_eq_true rfl) hRf), (Nat.le_trans (Nat.le_of_ble_eq_true rfl) hRl)⟩) (kc_preV (As := [.ref (ad 0), .int (Tlen), .long (0)]) (wc := (wW_X5_add ak ad ht ta Tlen Tcnt Ttoks Tplc Tvals)) hE hT hP hD hS hA [0, 2, 3, 4] (by decide) rfl rfl 0 5 rfl rfl rfl) rfl rfl hl.1 rfl (lv_room (Nat.le_of_ble_eq_true rfl)) dX5_split_63 ⟨hRc.1, hRc.2⟩) (fun u_9 H locs hw hP hD hS => ?_)
        obtain ⟨Tcnt_10, Ttoks_11, Tplc_12, Tvals_13⟩ := u_9
        try dsimp -zeta only at hw
        have hP : va_P D vwCl (wW_X5_split ak ad ht ta Tlen Tcnt_10 Tsigns Ttoks_11 Tplc_12 Tvals_13) H := hP.sub [1, 0, 2, 3, 4] rfl
        have hD : va_D A (wW_X5_split ak ad ht ta Tlen Tcnt_10 Tsigns Ttoks_11 Tplc_12 Tvals_13) := hD.sub [1, 0, 2, 3, 4] (by decide) rfl
        exact kR66 Tcnt_10 Ttoks_11 Tplc_12 Tvals_13 _ _ _ hw hP hD hS
      · replace hw := hw.2 c_8
        refine lv_aload_n hx hb dX5_split_24 rfl (lv_at hl 0 rfl) ?_
        refine va_get (D := D) (ci := 5) (v := .ref (ta 0)) (C := RX5) (T := TX5) (N := 6) hx hb hts (fun w h => wm_c (wc_X5 w h)) hown hE.1 hP 0 rfl rfl 0 (by decide) (hts (.fieldLink RX5 9 "WornLines$Tape" "signs" "[C") (wm_c hw_264)) (fun _ h9 => h9) rfl dX5_split_25 ?_
        refine lv_iload_n hx hb dX5_split_28 rfl (lv_at hl 1 rfl) ?_
        obtain ⟨h_15, hw⟩ := hw
        refine va_cald hx hb hE.1 hP 1 2 rfl rfl (h_15) dX5_split_29 ?_
        refine kc_i (wc := []) (wr := [(ht, .inr (5, tob ta (Tlen) (Tcnt))), ((ta 0), .inl (ak 2, 1000, .inl (Tsigns))), ((ta 1), .inl (ak 4, 1001, .inr (.inr (.inr (.inr (tokA ad (Ttoks))))))), ((ta 2), .inl (ak 0, 1001, .inl (Tplc))), ((ta 3), .inl (ak 1, 1001, .inr (.inl (Tvals))))]) hP hD hS hA [] [0, 1, 2, 3, 4] rfl rfl (by decide) (by decide) (va_runS (As := [.int (Tsigns (l1).toNatClampNeg)]) (rest := []) ⟨hx, hb, hml, hown, hts⟩ (c_X5_isBlank l D ak ad _ (Tsigns (l1).toNatClampNeg) _ hw) (va_cwS 1 hts gX5_split_X5_isBlank rfl rfl rfl (by decide +kernel) ⟨(Nat.le_trans (Nat.le_of_ble_eq_true rfl) hRf), (Nat.le_trans (Nat.le_of_ble_eq_true rfl) hRl)⟩) (kc_pre (As := [.int (Tsigns (l1).toNatClampNeg)]) (wc := []) hE hT hP hD hS hA [] (by decide) rfl rfl) rfl rfl hl.1 rfl (lv_room (Nat.le_of_ble_eq_true rfl)) dX5_split_30 ⟨hRc.1, hRc.2⟩) (fun r_17 u_16 H locs hw hP hD hS => ?_)
        try dsimp -zeta only at hw
        have hP : va_P D vwCl (wW_X5_split ak ad ht ta Tlen Tcnt Tsigns Ttoks Tplc Tvals) H := hP.sub [0, 1, 2, 3, 4] rfl
        have hD : va_D A (wW_X5_split ak ad ht ta Tlen Tcnt Tsigns Ttoks Tplc Tvals) := hD.sub [0, 1, 2, 3, 4] (by decide) rfl
        refine lv_if_eq (tgt := 42) hx hb dX5_split_33 (by decide) (fun c_18 => ?_) (fun c_18 => ?_)
        · replace hw := hw.1 c_18
          refine lv_aload_n hx hb dX5_split_42 rfl (lv_at hl 0 rfl) ?_
          refine lv_iload_n hx hb dX5_split_43 rfl (lv_at hl 1 rfl) ?_
          refine kc_i (wc := (wW_X5_splitOne ak ad ht ta Tlen Tcnt Tsigns Ttoks Tplc Tvals)) (wr := []) hP hD hS hA [0, 1, 2, 3, 4] [] rfl rfl (by decide) (by decide) (va_runV (As := [.int (l1)]) (rest := []) ⟨hx, hb, hml, hown, hts⟩ (c_X5_splitOne l D ak ad _ ht ta Tlen Tcnt Tsigns Ttoks Tplc Tvals l1 _ hw) (cwV 1 hts gX5_split_X5_splitOne rfl rfl rfl (by decide +kernel) ⟨(Nat.le_trans (Nat.le_of_ble_eq_true rfl) hRf), (Nat.le_trans (Nat.le_of_ble_eq_true rfl) hRl)⟩) (kc_preV (As := [.int (l1)]) (wc := (wW_X5_splitOne ak ad ht ta Tlen Tcnt Tsigns Ttoks Tplc Tvals)) hE hT hP hD hS hA [0, 1, 2, 3, 4] (by decide) rfl rfl 0 5 rfl rfl rfl) rfl rfl hl.1 rfl (lv_room (Nat.le_of_ble_eq_true rfl)) dX5_split_44 ⟨hRc.1, hRc.2⟩) (fun r_24 u_19 H locs hw hP hD hS => ?_)
          obtain ⟨Tcnt_20, Ttoks_21, Tplc_22, Tvals_23⟩ := u_19
          try dsimp -zeta only at hw
          have hP : va_P D vwCl (wW_X5_split ak ad ht ta Tlen Tcnt_20 Tsigns Ttoks_21 Tplc_22 Tvals_23) H := hP.sub [0, 1, 2, 3, 4] rfl
          have hD : va_D A (wW_X5_split ak ad ht ta Tlen Tcnt_20 Tsigns Ttoks_21 Tplc_22 Tvals_23) := hD.sub [0, 1, 2, 3, 4] (by decide) rfl
          refine lv_istore_n (lv' := [(1, .int (r_24)), (0, .ref ht), (2, .int (l2))]) hx hb dX5_split_47 rfl hl (by decide) rfl (fun ls hl => ?_)
          refine lv_iinc (v := (l2 + 1)) (lv' := [(2, .int (l2 + 1)), (1, .int (r_24)), (0, .ref ht)]) hx hb dX5_split_48 hl (k := 2) rfl (rfl) (by decide) rfl (fun ls hl => ?_)
          refine lv_goto (tgt := 9) hx hb dX5_split_51 (by decide) ?_
          exact ih Tcnt_20 Ttoks_21 Tplc_22 Tvals_23 r_24 (l2 + 1) _ _ _ hw hP hD hS (lv_sub hl [2, 1, 0] rfl)
        · replace hw := hw.2 c_18
          refine lv_iload_n hx hb dX5_split_36 rfl (lv_at hl 1 rfl) ?_
          refine lv_iconst (v := 1) hx hb dX5_split_37 (by decide) ?_
          refine lv_iadd hx hb dX5_split_38 ?_
          refine lv_goto (tgt := 47) hx hb dX5_split_39 (by decide) ?_
          refine lv_istore_n (lv' := [(1, .int (l1 + 1)), (0, .ref ht), (2, .int (l2))]) hx hb dX5_split_47 rfl hl (by decide) rfl (fun ls hl => ?_)
          refine lv_iinc (v := (l2 + 1)) (lv' := [(2, .int (l2 + 1)), (1, .int (l1 + 1)), (0, .ref ht)]) hx hb dX5_split_48 hl (k := 2) rfl (rfl) (by decide) rfl (fun ls hl => ?_)
          refine lv_goto (tgt := 9) hx hb dX5_split_51 (by decide) ?_
          exact ih Tcnt Ttoks Tplc Tvals (l1 + 1) (l2 + 1) _ _ _ hw hP hD hS (lv_sub hl [2, 1, 0] rfl)

def wp_X5_split (Tlen : Int32) (Tsigns : Nat → Int32) (Tcnt : Int32) (Ttoks : Nat → Nat) (Tplc : Nat → Int32) (Tvals : Nat → Int64) (Φ : Int32 → (Nat → Nat) → (Nat → Int32) → (Nat → Int64) → Prop) : Prop := (∃ n_, lf_X5_split_9 Tlen Tsigns  Φ n_ 0 Ttoks Tplc Tvals 0 0)
set_option maxHeartbeats 4000000 in
set_option maxRecDepth 100000 in
theorem kj_X5_split_e {p : Program} {l : Launch} {e : Env} {R : Room} {s : State} {m : MethodId} {args : Array Value} {below : List Frame} {meth : Method} {c : Code} {cells slots : Nat} {Q : State → Prop} {A : Nat → Prop} {D : va_G} {ak : Nat → ClassId} {ad : Nat → Nat} (hx : p.tables.exec = Jvm.exec) (hb : c.code = cX5_split) (hown : s.vm.findClass RX5 = some m.cls) (hts : ∀ w ∈ wsX5_split, w.before args s = true) (hml : c.maxLocals = 3) (hE : EV D ak s) (hT : ST D ak ad A s s.heap) (hA : ∀ q, s.heap.size ≤ q → A q) (hRf : 3 ≤ R.frames) (hRl : 75 ≤ R.locals) (hRc : cells ≤ R.cells ∧ slots ≤ R.slots) (ht : Nat) (ta : Nat → Nat) (Tlen : Int32) (Tsigns : Nat → Int32)  (Φ : Int32 → (Nat → Nat) → (Nat → Int32) → (Nat → Int64) → Prop)
    (kR66 : ∀ (Tcnt : Int32) (Ttoks : Nat → Nat) (Tplc : Nat → Int32) (Tvals : Nat → Int64) (H : Heap) (locs : List Loc) (ls : Array Slot), Φ Tcnt Ttoks Tplc Tvals → va_P D vwCl (wW_X5_split ak ad ht ta Tlen Tcnt Tsigns Ttoks Tplc Tvals) H → va_D A (wW_X5_split ak ad ht ta Tlen Tcnt Tsigns Ttoks Tplc Tvals) → va_S A s.heap H locs → W p l e R s m args below meth c H locs cells slots Q (F0 m 66 ls []))
    : ∀ (Tcnt : Int32) (Ttoks : Nat → Nat) (Tplc : Nat → Int32) (Tvals : Nat → Int64) (H : Heap) (locs : List Loc) (ls : Array Slot), wp_X5_split Tlen Tsigns Tcnt Ttoks Tplc Tvals Φ → va_P D vwCl (wW_X5_split ak ad ht ta Tlen Tcnt Tsigns Ttoks Tplc Tvals) H → va_D A (wW_X5_split ak ad ht ta Tlen Tcnt Tsigns Ttoks Tplc Tvals) → va_S A s.heap H locs → lv_has ls 3 [(0, .ref ht)] → W p l e R s m args below meth c H locs cells slots Q (F0 m 0 ls ([])) := by
  intro Tcnt Ttoks Tplc Tvals H locs ls hw hP hD hS hl
  delta wp_X5_split at hw
  refine lv_aload_n hx hb dX5_split_0 rfl (lv_at hl 0 rfl) ?_
  refine lv_iconst (v := 0) hx hb dX5_split_1 (by decide) ?_
  refine va_put (D := D) (ci := 5) (v := .int (0)) (ty := .int) (C := RX5) (T := TX5) (N := 6) hx hb hts (fun w h => wm_c (wc_X5 w h)) tyX5 tyX5_ok nmX5 hown hE.1 hP hD hS 0 rfl rfl 5 (by decide) (hts (.fieldLink RX5 33 "WornLines$Tape" "count" "I") (wm_c hw_393)) (fun _ h9 => h9) rfl (by decide +kernel) (rfl) rfl (Nat.le_of_ble_eq_true rfl) dX5_split_2 (fun H locs hP hD hS => ?_)
  have hP : va_P D vwCl (wW_X5_split ak ad ht ta Tlen 0 Tsigns Ttoks Tplc Tvals) H := hP
  have hD : va_D A (wW_X5_split ak ad ht ta Tlen 0 Tsigns Ttoks Tplc Tvals) := hD
  refine lv_iconst (v := 0) hx hb dX5_split_5 (by decide) ?_
  refine lv_istore_n (lv' := [(1, .int (0)), (0, .ref ht)]) hx hb dX5_split_6 rfl hl (by decide) rfl (fun ls hl => ?_)
  refine lv_iconst (v := 0) hx hb dX5_split_7 (by decide) ?_
  refine lv_istore_n (lv' := [(2, .int (0)), (1, .int (0)), (0, .ref ht)]) hx hb dX5_split_8 rfl hl (by decide) rfl (fun ls hl => ?_)
  obtain ⟨n1_, hw⟩ := hw
  exact lp_X5_split_9 hx hb hown hts hml hE hT hA hRf hRl hRc ht ta Tlen Tsigns  Φ  kR66 n1_ 0 Ttoks Tplc Tvals 0 0 _ _ _ hw hP hD hS (lv_sub hl [2, 1, 0] rfl)
set_option maxHeartbeats 4000000 in
set_option maxRecDepth 100000 in
theorem c_X5_split (l : Launch) (D : va_G) (ak : Nat → ClassId) (ad : Nat → Nat) (sz : Nat) (ht : Nat) (ta : Nat → Nat) (Tlen : Int32) (Tcnt : Int32) (Tsigns : Nat → Int32) (Ttoks : Nat → Nat) (Tplc : Nat → Int32) (Tvals : Nat → Int64) (Φ : Int32 → (Nat → Nat) → (Nat → Int32) → (Nat → Int64) → Prop) (hf : wp_X5_split Tlen Tsigns Tcnt Ttoks Tplc Tvals Φ) : Met l yX5_split wsX5_split ({ frames := 3, cells := 0, slots := 0, locals := 75 }) (cPre D ak ad [.ref ht] ((wW_X5_split ak ad ht ta Tlen Tcnt Tsigns Ttoks Tplc Tvals)) sz) (cV D (S := (Int32) × (Nat → Nat) × (Nat → Int32) × (Nat → Int64)) (fun (u : (Int32) × (Nat → Nat) × (Nat → Int32) × (Nat → Int64)) => Φ u.1 u.2.1 u.2.2.1 u.2.2.2) (fun u => (wW_X5_split ak ad ht ta Tlen u.1 Tsigns u.2.1 u.2.2.1 u.2.2.2)) ((wW_X5_split ak ad ht ta Tlen Tcnt Tsigns Ttoks Tplc Tvals)) sz) 0 0 (va_A ((wW_X5_split ak ad ht ta Tlen Tcnt Tsigns Ttoks Tplc Tvals)) sz) := by
  refine Met.ofW (cc := cX5_split) (maxL := 3) (ret := none) (by decide) rfl ?_
  intro p e s m args below meth c s₁ B hml hv
  obtain ⟨rfl, hsz, hP, hE, hD0, hT⟩ := hv
  have hx := B.exec
  have hb := B.bytes
  have hr := B.returns
  have hts := atoms_spec (ws := wsX5_split) B.pre
  have hown : s.vm.findClass RX5 = some m.cls := findClass_of_methodNamed B.named
  have hlocks := B.notSynchronized
  subst hsz
  have hD := hD0.self (sz := s.heap.size)
  generalize hAe : va_A ((wW_X5_split ak ad ht ta Tlen Tcnt Tsigns Ttoks Tplc Tvals)) s.heap.size = A at hD hT ⊢
  have hA : ∀ q : Nat, s.heap.size ≤ q → A q := fun q h => by rw [← hAe]; exact Or.inr h
  have hS : va_S A s.heap s.heap [] := va_S.rf
  have hl := lv_entry ([.ref ht]) (n := 3) (Nat.le_of_ble_eq_true rfl)
  rw [lg_entry_eq]
  generalize (lg_sl ([.ref ht]) ++ List.replicate (3 - (lg_sl ([.ref ht])).length) Slot.unset).toArray = ls at hl ⊢
  have hl : lv_has ls 3 [(0, .ref ht)] := hl
  exact kj_X5_split_e hx hb hown hts hml hE hT hA (Nat.le_of_ble_eq_true rfl) (Nat.le_of_ble_eq_true rfl) ⟨Nat.le_of_ble_eq_true rfl, Nat.le_of_ble_eq_true rfl⟩ ht ta Tlen Tsigns Φ (fun Tcnt Ttoks Tplc Tvals H locs ls hw hP hD hS => W.vret hx hb hr (fun t ht hW => ⟨⟨(Tcnt, Ttoks, Tplc, Tvals), rfl, hw, by rw [ht]; exact hP, by rw [hAe]; exact hD⟩, by rw [hAe]; exact hS.F ht⟩) hS.2.2 dX5_split_66) Tcnt Ttoks Tplc Tvals _ _ _ hf hP hD hS hl
