section
theorem dX7_mark_23 : decode cX7_mark 23 = .ok (.iload_n 2, 1) := by decide +kernel
theorem dX7_mark_24 : decode cX7_mark 24 = .ok (.ifCond .eq 19, 3) := by decide +kernel
theorem dX7_mark_43 : decode cX7_mark 43 = .ok (.aload_n 0, 1) := by decide +kernel
theorem dX7_mark_44 : decode cX7_mark 44 = .ok (.getfield 47, 3) := by decide +kernel
theorem dX7_mark_47 : decode cX7_mark 47 = .ok (.iload_n 1, 1) := by decide +kernel
theorem dX7_mark_48 : decode cX7_mark 48 = .ok (.aaload, 1) := by decide +kernel
theorem dX7_mark_49 : decode cX7_mark 49 = .ok (.aload_n 0, 1) := by decide +kernel
theorem dX7_mark_50 : decode cX7_mark 50 = .ok (.getfield 37, 3) := by decide +kernel
set_option maxRecDepth 20000 in
theorem ggX7_mark_X1_copy : GoodIn wsX7_mark wsX1_copy := gup gc_X1_copy
set_option maxRecDepth 20000 in
theorem gX7_mark_X1_copy : GoodIn wsX7_mark (wsV RX7 240 RX1 yX1_copy wsX1_copy) := gup (glV hw_595 hw_596 hw_597 hw_331 gc_X1_copy)
theorem dX7_mark_53 : decode cX7_mark 53 = .ok (.invokevirtual 240, 3) := by decide +kernel
theorem dX7_mark_56 : decode cX7_mark 56 = .ok (.aload_n 0, 1) := by decide +kernel
theorem dX7_mark_57 : decode cX7_mark 57 = .ok (.getfield 51, 3) := by decide +kernel
theorem dX7_mark_60 : decode cX7_mark 60 = .ok (.iload_n 1, 1) := by decide +kernel
theorem dX7_mark_61 : decode cX7_mark 61 = .ok (.iconst 1, 1) := by decide +kernel
theorem dX7_mark_62 : decode cX7_mark 62 = .ok (.bastore, 1) := by decide +kernel
theorem dX7_mark_63 : decode cX7_mark 63 = .ok (.iconst 1, 1) := by decide +kernel
theorem dX7_mark_27 : decode cX7_mark 27 = .ok (.aload_n 0, 1) := by decide +kernel
theorem dX7_mark_28 : decode cX7_mark 28 = .ok (.getfield 37, 3) := by decide +kernel
theorem dX7_mark_31 : decode cX7_mark 31 = .ok (.aload_n 0, 1) := by decide +kernel
theorem dX7_mark_32 : decode cX7_mark 32 = .ok (.getfield 47, 3) := by decide +kernel
theorem dX7_mark_35 : decode cX7_mark 35 = .ok (.iload_n 1, 1) := by decide +kernel
theorem dX7_mark_36 : decode cX7_mark 36 = .ok (.aaload, 1) := by decide +kernel
theorem dX7_mark_37 : decode cX7_mark 37 = .ok (.invokevirtual 240, 3) := by decide +kernel
theorem dX7_mark_40 : decode cX7_mark 40 = .ok (.goto 23, 3) := by decide +kernel
theorem dX7_mark_0 : decode cX7_mark 0 = .ok (.iload_n 1, 1) := by decide +kernel
theorem dX7_mark_1 : decode cX7_mark 1 = .ok (.iconst 4, 1) := by decide +kernel
set_option maxRecDepth 20000 in
theorem ggX7_mark_X7_within : GoodIn wsX7_mark wsX7_within := gup gc_X7_within
set_option maxRecDepth 20000 in
theorem gX7_mark_X7_within : GoodIn wsX7_mark (va_wsS RX7 95 yX7_within wsX7_within) := gup (glS hw_567 hw_325 hw_324 gc_X7_within)
theorem dX7_mark_2 : decode cX7_mark 2 = .ok (.invokestatic 95, 3) := by decide +kernel
theorem dX7_mark_5 : decode cX7_mark 5 = .ok (.ifCond .eq 16, 3) := by decide +kernel
theorem dX7_mark_21 : decode cX7_mark 21 = .ok (.iconst 0, 1) := by decide +kernel
theorem dX7_mark_8 : decode cX7_mark 8 = .ok (.iload_n 2, 1) := by decide +kernel
theorem dX7_mark_9 : decode cX7_mark 9 = .ok (.ifCond .eq 14, 3) := by decide +kernel
theorem dX7_mark_12 : decode cX7_mark 12 = .ok (.aload_n 0, 1) := by decide +kernel
theorem dX7_mark_13 : decode cX7_mark 13 = .ok (.getfield 51, 3) := by decide +kernel
theorem dX7_mark_16 : decode cX7_mark 16 = .ok (.iload_n 1, 1) := by decide +kernel
theorem dX7_mark_17 : decode cX7_mark 17 = .ok (.baload, 1) := by decide +kernel
theorem dX7_mark_18 : decode cX7_mark 18 = .ok (.ifCond .ne 5, 3) := by decide +kernel
theorem dX7_mark_22 : decode cX7_mark 22 = .ok (.ireturn, 1) := by decide +kernel
theorem dX7_mark_64 : decode cX7_mark 64 = .ok (.ireturn, 1) := by decide +kernel
def wW_X7_mark0 (ak : Nat → ClassId) (ad : Nat → Nat) (h7 : Nat) (xa : Nat → Nat) (ma : Nat → Nat) (mk : Nat → Nat) (ka : Nat → Nat) (Hpg : Nat) (Hway : Int32) (Hstate : Int32) (Hnext : Int32) (Hsteps : Int32) (Hwritten : Int32) (Hstuffs : Nat → Int32) (Htwins : Nat → Int32) (Hworn : Nat → Int32) (Hcells : Nat → Int32) (Hkept : Nat → Int32) (Bmarked : Nat → Int32) (Kpg : Nat) (Kway : Int32) (Kstate : Int32) (Knext : Int32) (Ksteps : Int32) (Kwritten : Int32) (Kstuffs : Nat → Int32) (Ktwins : Nat → Int32) (Kworn : Nat → Int32) (Kcells : Nat → Int32) (Kkept : Nat → Int32) : va_W := [(h7, .inr (6, wob xa )), ((xa 3), .inr (1, xob ma (Hpg) (Hway) (Hstate) (Hnext) (Hsteps) (Hwritten))), ((ma 0), .inl (ak 0, 16, .inl (Hstuffs))), ((ma 1), .inl (ak 0, 16, .inl (Htwins))), ((ma 2), .inl (ak 0, 16, .inl (Hworn))), ((ma 3), .inl (ak 0, 6, .inl (Hcells))), ((ma 4), .inl (ak 0, 200, .inl (Hkept))), ((xa 6), .inl (ak 5, 4, .inr (.inr (.inr (.inr (mkA mk)))))), ((xa 7), .inl (ak 3, 4, .inl (Bmarked))), ((mk 0), .inr (1, xob ka (Kpg) (Kway) (Kstate) (Knext) (Ksteps) (Kwritten))), ((ka 0), .inl (ak 0, 16, .inl (Kstuffs))), ((ka 1), .inl (ak 0, 16, .inl (Ktwins))), ((ka 2), .inl (ak 0, 16, .inl (Kworn))), ((ka 3), .inl (ak 0, 6, .inl (Kcells))), ((ka 4), .inl (ak 0, 200, .inl (Kkept)))]
def kf_X7_mark0_23 (xb : Int32)  (Φ : Int32 → Nat → Int32 → Int32 → Int32 → Int32 → Int32 → (Nat → Int32) → (Nat → Int32) → (Nat → Int32) → (Nat → Int32) → (Nat → Int32) → (Nat → Int32) → Nat → Int32 → Int32 → Int32 → Int32 → Int32 → (Nat → Int32) → (Nat → Int32) → (Nat → Int32) → (Nat → Int32) → (Nat → Int32) → Prop) (Hpg : Nat) (Hway : Int32) (Hstate : Int32) (Hnext : Int32) (Hsteps : Int32) (Hwritten : Int32) (Hstuffs : Nat → Int32) (Htwins : Nat → Int32) (Hworn : Nat → Int32) (Hcells : Nat → Int32) (Hkept : Nat → Int32) (Bmarked : Nat → Int32) (Kpg : Nat) (Kway : Int32) (Kstate : Int32) (Knext : Int32) (Ksteps : Int32) (Kwritten : Int32) (Kstuffs : Nat → Int32) (Ktwins : Nat → Int32) (Kworn : Nat → Int32) (Kcells : Nat → Int32) (Kkept : Nat → Int32) : Prop := (xb = 0 → wp_X1_copy Hpg Hway Hstate Hnext Hsteps Hwritten Hstuffs Htwins Hworn Hcells Hkept 200 200 Kpg Kway Kstate Knext Ksteps Kwritten Kstuffs Ktwins Kworn Kcells Kkept (fun Mpg_7 Mway_8 Mstate_9 Mnext_10 Msteps_11 Mwritten_12 Mstuffs_13 Mtwins_14 Mworn_15 Mcells_16 Mkept_17 => Φ 1 Hpg Hway Hstate Hnext Hsteps Hwritten Hstuffs Htwins Hworn Hcells Hkept (upd Bmarked 0 (vp_nar .boolean 1)) Mpg_7 Mway_8 Mstate_9 Mnext_10 Msteps_11 Mwritten_12 Mstuffs_13 Mtwins_14 Mworn_15 Mcells_16 Mkept_17)) ∧ (¬ xb = 0 → wp_X1_copy Kpg Kway Kstate Knext Ksteps Kwritten Kstuffs Ktwins Kworn Kcells Kkept 200 200 Hpg Hway Hstate Hnext Hsteps Hwritten Hstuffs Htwins Hworn Hcells Hkept (fun Mpg_20 Mway_21 Mstate_22 Mnext_23 Msteps_24 Mwritten_25 Mstuffs_26 Mtwins_27 Mworn_28 Mcells_29 Mkept_30 => Φ 1 Mpg_20 Mway_21 Mstate_22 Mnext_23 Msteps_24 Mwritten_25 Mstuffs_26 Mtwins_27 Mworn_28 Mcells_29 Mkept_30 Bmarked Kpg Kway Kstate Knext Ksteps Kwritten Kstuffs Ktwins Kworn Kcells Kkept))
set_option maxHeartbeats 4000000 in
set_option maxRecDepth 100000 in
theorem kj_X7_mark0_23 {p : Program} {l : Launch} {e : Env} {R : Room} {s : State} {m : MethodId} {args : Array Value} {below : List Frame} {meth : Method} {c : Code} {cells slots : Nat} {Q : State → Prop} {A : Nat → Prop} {D : va_G} {ak : Nat → ClassId} {ad : Nat → Nat} (hx : p.tables.exec = Jvm.exec) (hb : c.code = cX7_mark) (hown : s.vm.findClass RX7 = some m.cls) (hts : ∀ w ∈ wsX7_mark, w.before args s = true) (hml : c.maxLocals = 3) (hE : EV D ak s) (hT : ST D ak ad A s s.heap) (hA : ∀ q, s.heap.size ≤ q → A q) (hRf : 3 ≤ R.frames) (hRl : 82 ≤ R.locals) (hRc : cells ≤ R.cells ∧ slots ≤ R.slots) (h7 : Nat) (xa : Nat → Nat) (ma : Nat → Nat) (mk : Nat → Nat) (ka : Nat → Nat) (xb : Int32)  (Φ : Int32 → Nat → Int32 → Int32 → Int32 → Int32 → Int32 → (Nat → Int32) → (Nat → Int32) → (Nat → Int32) → (Nat → Int32) → (Nat → Int32) → (Nat → Int32) → Nat → Int32 → Int32 → Int32 → Int32 → Int32 → (Nat → Int32) → (Nat → Int32) → (Nat → Int32) → (Nat → Int32) → (Nat → Int32) → Prop)
    (kR22 : ∀ (r : Int32) (Hpg : Nat) (Hway : Int32) (Hstate : Int32) (Hnext : Int32) (Hsteps : Int32) (Hwritten : Int32) (Hstuffs : Nat → Int32) (Htwins : Nat → Int32) (Hworn : Nat → Int32) (Hcells : Nat → Int32) (Hkept : Nat → Int32) (Bmarked : Nat → Int32) (Kpg : Nat) (Kway : Int32) (Kstate : Int32) (Knext : Int32) (Ksteps : Int32) (Kwritten : Int32) (Kstuffs : Nat → Int32) (Ktwins : Nat → Int32) (Kworn : Nat → Int32) (Kcells : Nat → Int32) (Kkept : Nat → Int32) (H : Heap) (locs : List Loc) (ls : Array Slot), (r = 0 ∨ r = 1) → Φ r Hpg Hway Hstate Hnext Hsteps Hwritten Hstuffs Htwins Hworn Hcells Hkept Bmarked Kpg Kway Kstate Knext Ksteps Kwritten Kstuffs Ktwins Kworn Kcells Kkept → va_P D vwCl (wW_X7_mark0 ak ad h7 xa ma mk ka Hpg Hway Hstate Hnext Hsteps Hwritten Hstuffs Htwins Hworn Hcells Hkept Bmarked Kpg Kway Kstate Knext Ksteps Kwritten Kstuffs Ktwins Kworn Kcells Kkept) H → va_D A (wW_X7_mark0 ak ad h7 xa ma mk ka Hpg Hway Hstate Hnext Hsteps Hwritten Hstuffs Htwins Hworn Hcells Hkept Bmarked Kpg Kway Kstate Knext Ksteps Kwritten Kstuffs Ktwins Kworn Kcells Kkept) → va_S A s.heap H locs → W p l e R s m args below meth c H locs cells slots Q (F0 m 22 ls [.int r]))
    (kR64 : ∀ (r : Int32) (Hpg : Nat) (Hway : Int32) (Hstate : Int32) (Hnext : Int32) (Hsteps : Int32) (Hwritten : Int32) (Hstuffs : Nat → Int32) (Htwins : Nat → Int32) (Hworn : Nat → Int32) (Hcells : Nat → Int32) (Hkept : Nat → Int32) (Bmarked : Nat → Int32) (Kpg : Nat) (Kway : Int32) (Kstate : Int32) (Knext : Int32) (Ksteps : Int32) (Kwritten : Int32) (Kstuffs : Nat → Int32) (Ktwins : Nat → Int32) (Kworn : Nat → Int32) (Kcells : Nat → Int32) (Kkept : Nat → Int32) (H : Heap) (locs : List Loc) (ls : Array Slot), (r = 0 ∨ r = 1) → Φ r Hpg Hway Hstate Hnext Hsteps Hwritten Hstuffs Htwins Hworn Hcells Hkept Bmarked Kpg Kway Kstate Knext Ksteps Kwritten Kstuffs Ktwins Kworn Kcells Kkept → va_P D vwCl (wW_X7_mark0 ak ad h7 xa ma mk ka Hpg Hway Hstate Hnext Hsteps Hwritten Hstuffs Htwins Hworn Hcells Hkept Bmarked Kpg Kway Kstate Knext Ksteps Kwritten Kstuffs Ktwins Kworn Kcells Kkept) H → va_D A (wW_X7_mark0 ak ad h7 xa ma mk ka Hpg Hway Hstate Hnext Hsteps Hwritten Hstuffs Htwins Hworn Hcells Hkept Bmarked Kpg Kway Kstate Knext Ksteps Kwritten Kstuffs Ktwins Kworn Kcells Kkept) → va_S A s.heap H locs → W p l e R s m args below meth c H locs cells slots Q (F0 m 64 ls [.int r]))
    : ∀ (Hpg : Nat) (Hway : Int32) (Hstate : Int32) (Hnext : Int32) (Hsteps : Int32) (Hwritten : Int32) (Hstuffs : Nat → Int32) (Htwins : Nat → Int32) (Hworn : Nat → Int32) (Hcells : Nat → Int32) (Hkept : Nat → Int32) (Bmarked : Nat → Int32) (Kpg : Nat) (Kway : Int32) (Kstate : Int32) (Knext : Int32) (Ksteps : Int32) (Kwritten : Int32) (Kstuffs : Nat → Int32) (Ktwins : Nat → Int32) (Kworn : Nat → Int32) (Kcells : Nat → Int32) (Kkept : Nat → Int32) (H : Heap) (locs : List Loc) (ls : Array Slot), kf_X7_mark0_23 xb  Φ Hpg Hway Hstate Hnext Hsteps Hwritten Hstuffs Htwins Hworn Hcells Hkept Bmarked Kpg Kway Kstate Knext Ksteps Kwritten Kstuffs Ktwins Kworn Kcells Kkept → va_P D vwCl (wW_X7_mark0 ak ad h7 xa ma mk ka Hpg Hway Hstate Hnext Hsteps Hwritten Hstuffs Htwins Hworn Hcells Hkept Bmarked Kpg Kway Kstate Knext Ksteps Kwritten Kstuffs Ktwins Kworn Kcells Kkept) H → va_D A (wW_X7_mark0 ak ad h7 xa ma mk ka Hpg Hway Hstate Hnext Hsteps Hwritten Hstuffs Htwins Hworn Hcells Hkept Bmarked Kpg Kway Kstate Knext Ksteps Kwritten Kstuffs Ktwins Kworn Kcells Kkept) → va_S A s.heap H locs → lv_has ls 3 [(0, .ref h7), (1, .int (0)), (2, .int (xb))] → W p l e R s m args below meth c H locs cells slots Q (F0 m 23 ls ([])) := by
  intro Hpg Hway Hstate Hnext Hsteps Hwritten Hstuffs Htwins Hworn Hcells Hkept Bmarked Kpg Kway Kstate Knext Ksteps Kwritten Kstuffs Ktwins Kworn Kcells Kkept H locs ls hw hP hD hS hl
  delta kf_X7_mark0_23 at hw
  refine lv_iload_n hx hb dX7_mark_23 rfl (lv_at hl 2 rfl) ?_
  refine lv_if_eq (tgt := 43) hx hb dX7_mark_24 (by decide) (fun c_5 => ?_) (fun c_5 => ?_)
  · replace hw := hw.1 c_5
    refine lv_aload_n hx hb dX7_mark_43 rfl (lv_at hl 0 rfl) ?_
    refine vt_get (D := D) (ci := 6) (v := .ref (xa 6)) (C := RX7) (T := TX7) (N := 10) hx hb hts (fun w h => wm_c (wc_X7 w h)) hown hE.1 hP 0 rfl rfl 6 (by decide) tX7_6 (hts (.fieldLink RX7 47 "WornLines" "marks" "[LWornLines$Machine;") (wm_c hw_601)) (fun _ h9 => h9) rfl dX7_mark_44 ?_
    refine lv_iload_n hx hb dX7_mark_47 rfl (lv_at hl 1 rfl) ?_
    refine va_aldq hx hb hE.1 hP 7 5 rfl rfl (by unfold vp_in; decide) dX7_mark_48 ?_
    refine W.eq (g2 := F0 m 49 ls (.ref (mk 0) :: [])) rfl ?_
    refine lv_aload_n hx hb dX7_mark_49 rfl (lv_at hl 0 rfl) ?_
    refine vt_get (D := D) (ci := 6) (v := .ref (xa 3)) (C := RX7) (T := TX7) (N := 10) hx hb hts (fun w h => wm_c (wc_X7 w h)) hown hE.1 hP 0 rfl rfl 3 (by decide) tX7_3 (hts (.fieldLink RX7 37 "WornLines" "hand" "LWornLines$Machine;") (wm_c hw_540)) (fun _ h9 => h9) rfl dX7_mark_50 ?_
    refine kc_v (wc := (wW_X1_copy ak ad (mk 0) ka (xa 3) ma 200 200 Kpg Kway Kstate Knext Ksteps Kwritten Kstuffs Ktwins Kworn Kcells Kkept Hpg Hway Hstate Hnext Hsteps Hwritten Hstuffs Htwins Hworn Hcells Hkept)) (wr := [(h7, .inr (6, wob xa )), ((xa 6), .inl (ak 5, 4, .inr (.inr (.inr (.inr (mkA mk)))))), ((xa 7), .inl (ak 3, 4, .inl (Bmarked)))]) hP hD hS hA [9, 10, 11, 12, 13, 14, 1, 2, 3, 4, 5, 6] [0, 7, 8] rfl rfl (by decide) (by decide) (va_runV (As := [.ref (xa 3)]) (rest := []) ⟨hx, hb, hml, hown, hts⟩ (c_X1_copy l D ak ad _ (mk 0) ka (xa 3) ma 200 200 Kpg Kway Kstate Knext Ksteps Kwritten Kstuffs Ktwins Kworn Kcells Kkept Hpg Hway Hstate Hnext Hsteps Hwritten Hstuffs Htwins Hworn Hcells Hkept _ hw) (cwV 1 hts gX7_mark_X1_copy rfl rfl rfl hv_X1_copy ⟨(Nat.le_trans (Nat.le_of_ble_eq_true rfl) hRf), (Nat.le_trans (Nat.le_of_ble_eq_true rfl) hRl)⟩) (kc_preV (As := [.ref (xa 3)]) (wc := (wW_X1_copy ak ad (mk 0) ka (xa 3) ma 200 200 Kpg Kway Kstate Knext Ksteps Kwritten Kstuffs Ktwins Kworn Kcells Kkept Hpg Hway Hstate Hnext Hsteps Hwritten Hstuffs Htwins Hworn Hcells Hkept)) hE hT hP hD hS hA [9, 10, 11, 12, 13, 14, 1, 2, 3, 4, 5, 6] (by decide) rfl rfl 9 1 rfl rfl rfl) rfl rfl hl.1 rfl (lv_room (Nat.le_of_ble_eq_true rfl)) dX7_mark_53 ⟨hRc.1, hRc.2⟩) (fun u_6 H locs hw hP hD hS => ?_)
    obtain ⟨Mpg_7, Mway_8, Mstate_9, Mnext_10, Msteps_11, Mwritten_12, Mstuffs_13, Mtwins_14, Mworn_15, Mcells_16, Mkept_17⟩ := u_6
    try dsimp -zeta only at hw
    have hP : va_P D vwCl (wW_X7_mark0 ak ad h7 xa ma mk ka Hpg Hway Hstate Hnext Hsteps Hwritten Hstuffs Htwins Hworn Hcells Hkept Bmarked Mpg_7 Mway_8 Mstate_9 Mnext_10 Msteps_11 Mwritten_12 Mstuffs_13 Mtwins_14 Mworn_15 Mcells_16 Mkept_17) H := hP.sub [0, 9, 10, 11, 12, 13, 14, 1, 2, 3, 4, 5, 6, 7, 8] rfl
    have hD : va_D A (wW_X7_mark0 ak ad h7 xa ma mk ka Hpg Hway Hstate Hnext Hsteps Hwritten Hstuffs Htwins Hworn Hcells Hkept Bmarked Mpg_7 Mway_8 Mstate_9 Mnext_10 Msteps_11 Mwritten_12 Mstuffs_13 Mtwins_14 Mworn_15 Mcells_16 Mkept_17) := hD.sub [0, 9, 10, 11, 12, 13, 14, 1, 2, 3, 4, 5, 6, 7, 8] (by decide) rfl
    refine lv_aload_n hx hb dX7_mark_56 rfl (lv_at hl 0 rfl) ?_
    refine vt_get (D := D) (ci := 6) (v := .ref (xa 7)) (C := RX7) (T := TX7) (N := 10) hx hb hts (fun w h => wm_c (wc_X7 w h)) hown hE.1 hP 0 rfl rfl 7 (by decide) tX7_7 (hts (.fieldLink RX7 51 "WornLines" "marked" "[Z") (wm_c hw_602)) (fun _ h9 => h9) rfl dX7_mark_57 ?_
    refine lv_iload_n hx hb dX7_mark_60 rfl (lv_at hl 1 rfl) ?_
    refine lv_iconst (v := 1) hx hb dX7_mark_61 (by decide) ?_
    refine va_zast hx hb hE.1 hP hD hS 8 3 rfl rfl (by unfold vp_in; decide) dX7_mark_62 (fun H locs hP hD hS => ?_)
    have hP : va_P D vwCl (wW_X7_mark0 ak ad h7 xa ma mk ka Hpg Hway Hstate Hnext Hsteps Hwritten Hstuffs Htwins Hworn Hcells Hkept (upd Bmarked 0 (vp_nar .boolean 1)) Mpg_7 Mway_8 Mstate_9 Mnext_10 Msteps_11 Mwritten_12 Mstuffs_13 Mtwins_14 Mworn_15 Mcells_16 Mkept_17) H := hP
    have hD : va_D A (wW_X7_mark0 ak ad h7 xa ma mk ka Hpg Hway Hstate Hnext Hsteps Hwritten Hstuffs Htwins Hworn Hcells Hkept (upd Bmarked 0 (vp_nar .boolean 1)) Mpg_7 Mway_8 Mstate_9 Mnext_10 Msteps_11 Mwritten_12 Mstuffs_13 Mtwins_14 Mworn_15 Mcells_16 Mkept_17) := hD
    refine lv_iconst (v := 1) hx hb dX7_mark_63 (by decide) ?_
    exact kR64 1 Hpg Hway Hstate Hnext Hsteps Hwritten Hstuffs Htwins Hworn Hcells Hkept (upd Bmarked 0 (vp_nar .boolean 1)) Mpg_7 Mway_8 Mstate_9 Mnext_10 Msteps_11 Mwritten_12 Mstuffs_13 Mtwins_14 Mworn_15 Mcells_16 Mkept_17 _ _ _ (Or.inr rfl) hw hP hD hS
  · replace hw := hw.2 c_5
    refine lv_aload_n hx hb dX7_mark_27 rfl (lv_at hl 0 rfl) ?_
    refine vt_get (D := D) (ci := 6) (v := .ref (xa 3)) (C := RX7) (T := TX7) (N := 10) hx hb hts (fun w h => wm_c (wc_X7 w h)) hown hE.1 hP 0 rfl rfl 3 (by decide) tX7_3 (hts (.fieldLink RX7 37 "WornLines" "hand" "LWornLines$Machine;") (wm_c hw_540)) (fun _ h9 => h9) rfl dX7_mark_28 ?_
    refine lv_aload_n hx hb dX7_mark_31 rfl (lv_at hl 0 rfl) ?_
    refine vt_get (D := D) (ci := 6) (v := .ref (xa 6)) (C := RX7) (T := TX7) (N := 10) hx hb hts (fun w h => wm_c (wc_X7 w h)) hown hE.1 hP 0 rfl rfl 6 (by decide) tX7_6 (hts (.fieldLink RX7 47 "WornLines" "marks" "[LWornLines$Machine;") (wm_c hw_601)) (fun _ h9 => h9) rfl dX7_mark_32 ?_
    refine lv_iload_n hx hb dX7_mark_35 rfl (lv_at hl 1 rfl) ?_
    refine va_aldq hx hb hE.1 hP 7 5 rfl rfl (by unfold vp_in; decide) dX7_mark_36 ?_
    refine W.eq (g2 := F0 m 37 ls (.ref (mk 0) :: .ref (xa 3) :: [])) rfl ?_
    refine kc_v (wc := (wW_X1_copy ak ad (xa 3) ma (mk 0) ka 200 200 Hpg Hway Hstate Hnext Hsteps Hwritten Hstuffs Htwins Hworn Hcells Hkept Kpg Kway Kstate Knext Ksteps Kwritten Kstuffs Ktwins Kworn Kcells Kkept)) (wr := [(h7, .inr (6, wob xa )), ((xa 6), .inl (ak 5, 4, .inr (.inr (.inr (.inr (mkA mk)))))), ((xa 7), .inl (ak 3, 4, .inl (Bmarked)))]) hP hD hS hA [1, 2, 3, 4, 5, 6, 9, 10, 11, 12, 13, 14] [0, 7, 8] rfl rfl (by decide) (by decide) (va_runV (As := [.ref (mk 0)]) (rest := []) ⟨hx, hb, hml, hown, hts⟩ (c_X1_copy l D ak ad _ (xa 3) ma (mk 0) ka 200 200 Hpg Hway Hstate Hnext Hsteps Hwritten Hstuffs Htwins Hworn Hcells Hkept Kpg Kway Kstate Knext Ksteps Kwritten Kstuffs Ktwins Kworn Kcells Kkept _ hw) (cwV 1 hts gX7_mark_X1_copy rfl rfl rfl hv_X1_copy ⟨(Nat.le_trans (Nat.le_of_ble_eq_true rfl) hRf), (Nat.le_trans (Nat.le_of_ble_eq_true rfl) hRl)⟩) (kc_preV (As := [.ref (mk 0)]) (wc := (wW_X1_copy ak ad (xa 3) ma (mk 0) ka 200 200 Hpg Hway Hstate Hnext Hsteps Hwritten Hstuffs Htwins Hworn Hcells Hkept Kpg Kway Kstate Knext Ksteps Kwritten Kstuffs Ktwins Kworn Kcells Kkept)) hE hT hP hD hS hA [1, 2, 3, 4, 5, 6, 9, 10, 11, 12, 13, 14] (by decide) rfl rfl 1 1 rfl rfl rfl) rfl rfl hl.1 rfl (lv_room (Nat.le_of_ble_eq_true rfl)) dX7_mark_37 ⟨hRc.1, hRc.2⟩) (fun u_19 H locs hw hP hD hS => ?_)
    obtain ⟨Mpg_20, Mway_21, Mstate_22, Mnext_23, Msteps_24, Mwritten_25, Mstuffs_26, Mtwins_27, Mworn_28, Mcells_29, Mkept_30⟩ := u_19
    try dsimp -zeta only at hw
    have hP : va_P D vwCl (wW_X7_mark0 ak ad h7 xa ma mk ka Mpg_20 Mway_21 Mstate_22 Mnext_23 Msteps_24 Mwritten_25 Mstuffs_26 Mtwins_27 Mworn_28 Mcells_29 Mkept_30 Bmarked Kpg Kway Kstate Knext Ksteps Kwritten Kstuffs Ktwins Kworn Kcells Kkept) H := hP.sub [0, 3, 4, 5, 6, 7, 8, 1, 2, 9, 10, 11, 12, 13, 14] rfl
    have hD : va_D A (wW_X7_mark0 ak ad h7 xa ma mk ka Mpg_20 Mway_21 Mstate_22 Mnext_23 Msteps_24 Mwritten_25 Mstuffs_26 Mtwins_27 Mworn_28 Mcells_29 Mkept_30 Bmarked Kpg Kway Kstate Knext Ksteps Kwritten Kstuffs Ktwins Kworn Kcells Kkept) := hD.sub [0, 3, 4, 5, 6, 7, 8, 1, 2, 9, 10, 11, 12, 13, 14] (by decide) rfl
    refine lv_goto (tgt := 63) hx hb dX7_mark_40 (by decide) ?_
    refine lv_iconst (v := 1) hx hb dX7_mark_63 (by decide) ?_
    exact kR64 1 Mpg_20 Mway_21 Mstate_22 Mnext_23 Msteps_24 Mwritten_25 Mstuffs_26 Mtwins_27 Mworn_28 Mcells_29 Mkept_30 Bmarked Kpg Kway Kstate Knext Ksteps Kwritten Kstuffs Ktwins Kworn Kcells Kkept _ _ _ (Or.inr rfl) hw hP hD hS

def wp_X7_mark0 (xb : Int32) (Hpg : Nat) (Hway : Int32) (Hstate : Int32) (Hnext : Int32) (Hsteps : Int32) (Hwritten : Int32) (Hstuffs : Nat → Int32) (Htwins : Nat → Int32) (Hworn : Nat → Int32) (Hcells : Nat → Int32) (Hkept : Nat → Int32) (Bmarked : Nat → Int32) (Kpg : Nat) (Kway : Int32) (Kstate : Int32) (Knext : Int32) (Ksteps : Int32) (Kwritten : Int32) (Kstuffs : Nat → Int32) (Ktwins : Nat → Int32) (Kworn : Nat → Int32) (Kcells : Nat → Int32) (Kkept : Nat → Int32) (Φ : Int32 → Nat → Int32 → Int32 → Int32 → Int32 → Int32 → (Nat → Int32) → (Nat → Int32) → (Nat → Int32) → (Nat → Int32) → (Nat → Int32) → (Nat → Int32) → Nat → Int32 → Int32 → Int32 → Int32 → Int32 → (Nat → Int32) → (Nat → Int32) → (Nat → Int32) → (Nat → Int32) → (Nat → Int32) → Prop) : Prop := wp_X7_within 0 4 (fun r_2 => (r_2 = 0 → Φ 0 Hpg Hway Hstate Hnext Hsteps Hwritten Hstuffs Htwins Hworn Hcells Hkept Bmarked Kpg Kway Kstate Knext Ksteps Kwritten Kstuffs Ktwins Kworn Kcells Kkept) ∧ (¬ r_2 = 0 → (xb = 0 → kf_X7_mark0_23 xb  Φ Hpg Hway Hstate Hnext Hsteps Hwritten Hstuffs Htwins Hworn Hcells Hkept Bmarked Kpg Kway Kstate Knext Ksteps Kwritten Kstuffs Ktwins Kworn Kcells Kkept) ∧ (¬ xb = 0 → (¬ (Bmarked 0) = 0 → kf_X7_mark0_23 xb  Φ Hpg Hway Hstate Hnext Hsteps Hwritten Hstuffs Htwins Hworn Hcells Hkept Bmarked Kpg Kway Kstate Knext Ksteps Kwritten Kstuffs Ktwins Kworn Kcells Kkept) ∧ ((Bmarked 0) = 0 → Φ 0 Hpg Hway Hstate Hnext Hsteps Hwritten Hstuffs Htwins Hworn Hcells Hkept Bmarked Kpg Kway Kstate Knext Ksteps Kwritten Kstuffs Ktwins Kworn Kcells Kkept))))
set_option maxHeartbeats 4000000 in
set_option maxRecDepth 100000 in
theorem kj_X7_mark0_e {p : Program} {l : Launch} {e : Env} {R : Room} {s : State} {m : MethodId} {args : Array Value} {below : List Frame} {meth : Method} {c : Code} {cells slots : Nat} {Q : State → Prop} {A : Nat → Prop} {D : va_G} {ak : Nat → ClassId} {ad : Nat → Nat} (hx : p.tables.exec = Jvm.exec) (hb : c.code = cX7_mark) (hown : s.vm.findClass RX7 = some m.cls) (hts : ∀ w ∈ wsX7_mark, w.before args s = true) (hml : c.maxLocals = 3) (hE : EV D ak s) (hT : ST D ak ad A s s.heap) (hA : ∀ q, s.heap.size ≤ q → A q) (hRf : 3 ≤ R.frames) (hRl : 82 ≤ R.locals) (hRc : cells ≤ R.cells ∧ slots ≤ R.slots) (h7 : Nat) (xa : Nat → Nat) (ma : Nat → Nat) (mk : Nat → Nat) (ka : Nat → Nat) (xb : Int32)  (Φ : Int32 → Nat → Int32 → Int32 → Int32 → Int32 → Int32 → (Nat → Int32) → (Nat → Int32) → (Nat → Int32) → (Nat → Int32) → (Nat → Int32) → (Nat → Int32) → Nat → Int32 → Int32 → Int32 → Int32 → Int32 → (Nat → Int32) → (Nat → Int32) → (Nat → Int32) → (Nat → Int32) → (Nat → Int32) → Prop)
    (kR22 : ∀ (r : Int32) (Hpg : Nat) (Hway : Int32) (Hstate : Int32) (Hnext : Int32) (Hsteps : Int32) (Hwritten : Int32) (Hstuffs : Nat → Int32) (Htwins : Nat → Int32) (Hworn : Nat → Int32) (Hcells : Nat → Int32) (Hkept : Nat → Int32) (Bmarked : Nat → Int32) (Kpg : Nat) (Kway : Int32) (Kstate : Int32) (Knext : Int32) (Ksteps : Int32) (Kwritten : Int32) (Kstuffs : Nat → Int32) (Ktwins : Nat → Int32) (Kworn : Nat → Int32) (Kcells : Nat → Int32) (Kkept : Nat → Int32) (H : Heap) (locs : List Loc) (ls : Array Slot), (r = 0 ∨ r = 1) → Φ r Hpg Hway Hstate Hnext Hsteps Hwritten Hstuffs Htwins Hworn Hcells Hkept Bmarked Kpg Kway Kstate Knext Ksteps Kwritten Kstuffs Ktwins Kworn Kcells Kkept → va_P D vwCl (wW_X7_mark0 ak ad h7 xa ma mk ka Hpg Hway Hstate Hnext Hsteps Hwritten Hstuffs Htwins Hworn Hcells Hkept Bmarked Kpg Kway Kstate Knext Ksteps Kwritten Kstuffs Ktwins Kworn Kcells Kkept) H → va_D A (wW_X7_mark0 ak ad h7 xa ma mk ka Hpg Hway Hstate Hnext Hsteps Hwritten Hstuffs Htwins Hworn Hcells Hkept Bmarked Kpg Kway Kstate Knext Ksteps Kwritten Kstuffs Ktwins Kworn Kcells Kkept) → va_S A s.heap H locs → W p l e R s m args below meth c H locs cells slots Q (F0 m 22 ls [.int r]))
    (kR64 : ∀ (r : Int32) (Hpg : Nat) (Hway : Int32) (Hstate : Int32) (Hnext : Int32) (Hsteps : Int32) (Hwritten : Int32) (Hstuffs : Nat → Int32) (Htwins : Nat → Int32) (Hworn : Nat → Int32) (Hcells : Nat → Int32) (Hkept : Nat → Int32) (Bmarked : Nat → Int32) (Kpg : Nat) (Kway : Int32) (Kstate : Int32) (Knext : Int32) (Ksteps : Int32) (Kwritten : Int32) (Kstuffs : Nat → Int32) (Ktwins : Nat → Int32) (Kworn : Nat → Int32) (Kcells : Nat → Int32) (Kkept : Nat → Int32) (H : Heap) (locs : List Loc) (ls : Array Slot), (r = 0 ∨ r = 1) → Φ r Hpg Hway Hstate Hnext Hsteps Hwritten Hstuffs Htwins Hworn Hcells Hkept Bmarked Kpg Kway Kstate Knext Ksteps Kwritten Kstuffs Ktwins Kworn Kcells Kkept → va_P D vwCl (wW_X7_mark0 ak ad h7 xa ma mk ka Hpg Hway Hstate Hnext Hsteps Hwritten Hstuffs Htwins Hworn Hcells Hkept Bmarked Kpg Kway Kstate Knext Ksteps Kwritten Kstuffs Ktwins Kworn Kcells Kkept) H → va_D A (wW_X7_mark0 ak ad h7 xa ma mk ka Hpg Hway Hstate Hnext Hsteps Hwritten Hstuffs Htwins Hworn Hcells Hkept Bmarked Kpg Kway Kstate Knext Ksteps Kwritten Kstuffs Ktwins Kworn Kcells Kkept) → va_S A s.heap H locs → W p l e R s m args below meth c H locs cells slots Q (F0 m 64 ls [.int r]))
    : ∀ (Hpg : Nat) (Hway : Int32) (Hstate : Int32) (Hnext : Int32) (Hsteps : Int32) (Hwritten : Int32) (Hstuffs : Nat → Int32) (Htwins : Nat → Int32) (Hworn : Nat → Int32) (Hcells : Nat → Int32) (Hkept : Nat → Int32) (Bmarked : Nat → Int32) (Kpg : Nat) (Kway : Int32) (Kstate : Int32) (Knext : Int32) (Ksteps : Int32) (Kwritten : Int32) (Kstuffs : Nat → Int32) (Ktwins : Nat → Int32) (Kworn : Nat → Int32) (Kcells : Nat → Int32) (Kkept : Nat → Int32) (H : Heap) (locs : List Loc) (ls : Array Slot), wp_X7_mark0 xb Hpg Hway Hstate Hnext Hsteps Hwritten Hstuffs Htwins Hworn Hcells Hkept Bmarked Kpg Kway Kstate Knext Ksteps Kwritten Kstuffs Ktwins Kworn Kcells Kkept Φ → va_P D vwCl (wW_X7_mark0 ak ad h7 xa ma mk ka Hpg Hway Hstate Hnext Hsteps Hwritten Hstuffs Htwins Hworn Hcells Hkept Bmarked Kpg Kway Kstate Knext Ksteps Kwritten Kstuffs Ktwins Kworn Kcells Kkept) H → va_D A (wW_X7_mark0 ak ad h7 xa ma mk ka Hpg Hway Hstate Hnext Hsteps Hwritten Hstuffs Htwins Hworn Hcells Hkept Bmarked Kpg Kway Kstate Knext Ksteps Kwritten Kstuffs Ktwins Kworn Kcells Kkept) → va_S A s.heap H locs → lv_has ls 3 [(0, .ref h7), (1, .int (0)), (2, .int (xb))] → W p l e R s m args below meth c H locs cells slots Q (F0 m 0 ls ([])) := by
  intro Hpg Hway Hstate Hnext Hsteps Hwritten Hstuffs Htwins Hworn Hcells Hkept Bmarked Kpg Kway Kstate Knext Ksteps Kwritten Kstuffs Ktwins Kworn Kcells Kkept H locs ls hw hP hD hS hl
  delta wp_X7_mark0 at hw
  refine lv_iload_n hx hb dX7_mark_0 rfl (lv_at hl 1 rfl) ?_
  refine lv_iconst (v := 4) hx hb dX7_mark_1 (by decide) ?_
  refine kc_i (wc := []) (wr := [(h7, .inr (6, wob xa )), ((xa 3), .inr (1, xob ma (Hpg) (Hway) (Hstate) (Hnext) (Hsteps) (Hwritten))), ((ma 0), .inl (ak 0, 16, .inl (Hstuffs))), ((ma 1), .inl (ak 0, 16, .inl (Htwins))), ((ma 2), .inl (ak 0, 16, .inl (Hworn))), ((ma 3), .inl (ak 0, 6, .inl (Hcells))), ((ma 4), .inl (ak 0, 200, .inl (Hkept))), ((xa 6), .inl (ak 5, 4, .inr (.inr (.inr (.inr (mkA mk)))))), ((xa 7), .inl (ak 3, 4, .inl (Bmarked))), ((mk 0), .inr (1, xob ka (Kpg) (Kway) (Kstate) (Knext) (Ksteps) (Kwritten))), ((ka 0), .inl (ak 0, 16, .inl (Kstuffs))), ((ka 1), .inl (ak 0, 16, .inl (Ktwins))), ((ka 2), .inl (ak 0, 16, .inl (Kworn))), ((ka 3), .inl (ak 0, 6, .inl (Kcells))), ((ka 4), .inl (ak 0, 200, .inl (Kkept)))]) hP hD hS hA [] [0, 1, 2, 3, 4, 5, 6, 7, 8, 9, 10, 11, 12, 13, 14] rfl rfl (by decide) (by decide) (va_runS (As := [.int (0), .int (4)]) (rest := []) ⟨hx, hb, hml, hown, hts⟩ (c_X7_within l D ak ad _ 0 4 _ hw) (va_cwS 2 hts gX7_mark_X7_within rfl rfl rfl hz_X7_within ⟨(Nat.le_trans (Nat.le_of_ble_eq_true rfl) hRf), (Nat.le_trans (Nat.le_of_ble_eq_true rfl) hRl)⟩) (kc_pre (As := [.int (0), .int (4)]) (wc := []) hE hT hP hD hS hA [] (by decide) rfl rfl) rfl rfl hl.1 rfl (lv_room (Nat.le_of_ble_eq_true rfl)) dX7_mark_2 ⟨hRc.1, hRc.2⟩) (fun r_2 u_1 H locs hw hP hD hS => ?_)
  try dsimp -zeta only at hw
  have hP : va_P D vwCl (wW_X7_mark0 ak ad h7 xa ma mk ka Hpg Hway Hstate Hnext Hsteps Hwritten Hstuffs Htwins Hworn Hcells Hkept Bmarked Kpg Kway Kstate Knext Ksteps Kwritten Kstuffs Ktwins Kworn Kcells Kkept) H := hP.sub [0, 1, 2, 3, 4, 5, 6, 7, 8, 9, 10, 11, 12, 13, 14] rfl
  have hD : va_D A (wW_X7_mark0 ak ad h7 xa ma mk ka Hpg Hway Hstate Hnext Hsteps Hwritten Hstuffs Htwins Hworn Hcells Hkept Bmarked Kpg Kway Kstate Knext Ksteps Kwritten Kstuffs Ktwins Kworn Kcells Kkept) := hD.sub [0, 1, 2, 3, 4, 5, 6, 7, 8, 9, 10, 11, 12, 13, 14] (by decide) rfl
  refine lv_if_eq (tgt := 21) hx hb dX7_mark_5 (by decide) (fun c_3 => ?_) (fun c_3 => ?_)
  · replace hw := hw.1 c_3
    refine lv_iconst (v := 0) hx hb dX7_mark_21 (by decide) ?_
    exact kR22 0 Hpg Hway Hstate Hnext Hsteps Hwritten Hstuffs Htwins Hworn Hcells Hkept Bmarked Kpg Kway Kstate Knext Ksteps Kwritten Kstuffs Ktwins Kworn Kcells Kkept _ _ _ (Or.inl rfl) hw hP hD hS
  · replace hw := hw.2 c_3
    refine lv_iload_n hx hb dX7_mark_8 rfl (lv_at hl 2 rfl) ?_
    refine lv_if_eq (tgt := 23) hx hb dX7_mark_9 (by decide) (fun c_4 => ?_) (fun c_4 => ?_)
    · replace hw := hw.1 c_4
      exact kj_X7_mark0_23 hx hb hown hts hml hE hT hA hRf hRl hRc h7 xa ma mk ka xb  Φ  kR22 kR64 Hpg Hway Hstate Hnext Hsteps Hwritten Hstuffs Htwins Hworn Hcells Hkept Bmarked Kpg Kway Kstate Knext Ksteps Kwritten Kstuffs Ktwins Kworn Kcells Kkept _ _ _ hw hP hD hS (lv_sub hl [0, 1, 2] rfl)
    · replace hw := hw.2 c_4
      refine lv_aload_n hx hb dX7_mark_12 rfl (lv_at hl 0 rfl) ?_
      refine vt_get (D := D) (ci := 6) (v := .ref (xa 7)) (C := RX7) (T := TX7) (N := 10) hx hb hts (fun w h => wm_c (wc_X7 w h)) hown hE.1 hP 0 rfl rfl 7 (by decide) tX7_7 (hts (.fieldLink RX7 51 "WornLines" "marked" "[Z") (wm_c hw_602)) (fun _ h9 => h9) rfl dX7_mark_13 ?_
      refine lv_iload_n hx hb dX7_mark_16 rfl (lv_at hl 1 rfl) ?_
      refine va_zald hx hb hE.1 hP 8 3 rfl rfl (by unfold vp_in; decide) dX7_mark_17 ?_
      refine W.eq (g2 := F0 m 18 ls (.int (Bmarked 0) :: [])) rfl ?_
      refine lv_if_ne (tgt := 23) hx hb dX7_mark_18 (by decide) (fun c_32 => ?_) (fun c_32 => ?_)
      · replace hw := hw.1 c_32
        exact kj_X7_mark0_23 hx hb hown hts hml hE hT hA hRf hRl hRc h7 xa ma mk ka xb  Φ  kR22 kR64 Hpg Hway Hstate Hnext Hsteps Hwritten Hstuffs Htwins Hworn Hcells Hkept Bmarked Kpg Kway Kstate Knext Ksteps Kwritten Kstuffs Ktwins Kworn Kcells Kkept _ _ _ hw hP hD hS (lv_sub hl [0, 1, 2] rfl)
      · replace hw := hw.2 c_32
        refine lv_iconst (v := 0) hx hb dX7_mark_21 (by decide) ?_
        exact kR22 0 Hpg Hway Hstate Hnext Hsteps Hwritten Hstuffs Htwins Hworn Hcells Hkept Bmarked Kpg Kway Kstate Knext Ksteps Kwritten Kstuffs Ktwins Kworn Kcells Kkept _ _ _ (Or.inl rfl) hw hP hD hS
set_option maxHeartbeats 4000000 in
set_option maxRecDepth 100000 in
theorem c_X7_mark0 (l : Launch) (D : va_G) (ak : Nat → ClassId) (ad : Nat → Nat) (sz : Nat) (h7 : Nat) (xa : Nat → Nat) (ma : Nat → Nat) (mk : Nat → Nat) (ka : Nat → Nat) (Hpg : Nat) (Hway : Int32) (Hstate : Int32) (Hnext : Int32) (Hsteps : Int32) (Hwritten : Int32) (Hstuffs : Nat → Int32) (Htwins : Nat → Int32) (Hworn : Nat → Int32) (Hcells : Nat → Int32) (Hkept : Nat → Int32) (Bmarked : Nat → Int32) (Kpg : Nat) (Kway : Int32) (Kstate : Int32) (Knext : Int32) (Ksteps : Int32) (Kwritten : Int32) (Kstuffs : Nat → Int32) (Ktwins : Nat → Int32) (Kworn : Nat → Int32) (Kcells : Nat → Int32) (Kkept : Nat → Int32) (xb : Int32) (Φ : Int32 → Nat → Int32 → Int32 → Int32 → Int32 → Int32 → (Nat → Int32) → (Nat → Int32) → (Nat → Int32) → (Nat → Int32) → (Nat → Int32) → (Nat → Int32) → Nat → Int32 → Int32 → Int32 → Int32 → Int32 → (Nat → Int32) → (Nat → Int32) → (Nat → Int32) → (Nat → Int32) → (Nat → Int32) → Prop) (hf : wp_X7_mark0 xb Hpg Hway Hstate Hnext Hsteps Hwritten Hstuffs Htwins Hworn Hcells Hkept Bmarked Kpg Kway Kstate Knext Ksteps Kwritten Kstuffs Ktwins Kworn Kcells Kkept Φ) : Met l yX7_mark wsX7_mark ({ frames := 3, cells := 0, slots := 0, locals := 82 }) (cPre D ak ad [.ref h7, .int (0), .int (xb)] ((wW_X7_mark0 ak ad h7 xa ma mk ka Hpg Hway Hstate Hnext Hsteps Hwritten Hstuffs Htwins Hworn Hcells Hkept Bmarked Kpg Kway Kstate Knext Ksteps Kwritten Kstuffs Ktwins Kworn Kcells Kkept)) sz) (cI D (S := (Nat) × (Int32) × (Int32) × (Int32) × (Int32) × (Int32) × (Nat → Int32) × (Nat → Int32) × (Nat → Int32) × (Nat → Int32) × (Nat → Int32) × (Nat → Int32) × (Nat) × (Int32) × (Int32) × (Int32) × (Int32) × (Int32) × (Nat → Int32) × (Nat → Int32) × (Nat → Int32) × (Nat → Int32) × (Nat → Int32)) (fun (r : Int32) (u : (Nat) × (Int32) × (Int32) × (Int32) × (Int32) × (Int32) × (Nat → Int32) × (Nat → Int32) × (Nat → Int32) × (Nat → Int32) × (Nat → Int32) × (Nat → Int32) × (Nat) × (Int32) × (Int32) × (Int32) × (Int32) × (Int32) × (Nat → Int32) × (Nat → Int32) × (Nat → Int32) × (Nat → Int32) × (Nat → Int32)) => Φ r u.1 u.2.1 u.2.2.1 u.2.2.2.1 u.2.2.2.2.1 u.2.2.2.2.2.1 u.2.2.2.2.2.2.1 u.2.2.2.2.2.2.2.1 u.2.2.2.2.2.2.2.2.1 u.2.2.2.2.2.2.2.2.2.1 u.2.2.2.2.2.2.2.2.2.2.1 u.2.2.2.2.2.2.2.2.2.2.2.1 u.2.2.2.2.2.2.2.2.2.2.2.2.1 u.2.2.2.2.2.2.2.2.2.2.2.2.2.1 u.2.2.2.2.2.2.2.2.2.2.2.2.2.2.1 u.2.2.2.2.2.2.2.2.2.2.2.2.2.2.2.1 u.2.2.2.2.2.2.2.2.2.2.2.2.2.2.2.2.1 u.2.2.2.2.2.2.2.2.2.2.2.2.2.2.2.2.2.1 u.2.2.2.2.2.2.2.2.2.2.2.2.2.2.2.2.2.2.1 u.2.2.2.2.2.2.2.2.2.2.2.2.2.2.2.2.2.2.2.1 u.2.2.2.2.2.2.2.2.2.2.2.2.2.2.2.2.2.2.2.2.1 u.2.2.2.2.2.2.2.2.2.2.2.2.2.2.2.2.2.2.2.2.2.1 u.2.2.2.2.2.2.2.2.2.2.2.2.2.2.2.2.2.2.2.2.2.2) (fun u => (wW_X7_mark0 ak ad h7 xa ma mk ka u.1 u.2.1 u.2.2.1 u.2.2.2.1 u.2.2.2.2.1 u.2.2.2.2.2.1 u.2.2.2.2.2.2.1 u.2.2.2.2.2.2.2.1 u.2.2.2.2.2.2.2.2.1 u.2.2.2.2.2.2.2.2.2.1 u.2.2.2.2.2.2.2.2.2.2.1 u.2.2.2.2.2.2.2.2.2.2.2.1 u.2.2.2.2.2.2.2.2.2.2.2.2.1 u.2.2.2.2.2.2.2.2.2.2.2.2.2.1 u.2.2.2.2.2.2.2.2.2.2.2.2.2.2.1 u.2.2.2.2.2.2.2.2.2.2.2.2.2.2.2.1 u.2.2.2.2.2.2.2.2.2.2.2.2.2.2.2.2.1 u.2.2.2.2.2.2.2.2.2.2.2.2.2.2.2.2.2.1 u.2.2.2.2.2.2.2.2.2.2.2.2.2.2.2.2.2.2.1 u.2.2.2.2.2.2.2.2.2.2.2.2.2.2.2.2.2.2.2.1 u.2.2.2.2.2.2.2.2.2.2.2.2.2.2.2.2.2.2.2.2.1 u.2.2.2.2.2.2.2.2.2.2.2.2.2.2.2.2.2.2.2.2.2.1 u.2.2.2.2.2.2.2.2.2.2.2.2.2.2.2.2.2.2.2.2.2.2)) ((wW_X7_mark0 ak ad h7 xa ma mk ka Hpg Hway Hstate Hnext Hsteps Hwritten Hstuffs Htwins Hworn Hcells Hkept Bmarked Kpg Kway Kstate Knext Ksteps Kwritten Kstuffs Ktwins Kworn Kcells Kkept)) sz) 0 0 (va_A ((wW_X7_mark0 ak ad h7 xa ma mk ka Hpg Hway Hstate Hnext Hsteps Hwritten Hstuffs Htwins Hworn Hcells Hkept Bmarked Kpg Kway Kstate Knext Ksteps Kwritten Kstuffs Ktwins Kworn Kcells Kkept)) sz) := by
  refine Met.ofW (cc := cX7_mark) (maxL := 3) (ret := (some .boolean)) (by decide) rfl ?_
  intro p e s m args below meth c s₁ B hml hv
  obtain ⟨rfl, hsz, hP, hE, hD0, hT⟩ := hv
  have hx := B.exec
  have hb := B.bytes
  have hr := B.returns
  have hts := atoms_spec (ws := wsX7_mark) B.pre
  have hown : s.vm.findClass RX7 = some m.cls := findClass_of_methodNamed B.named
  have hlocks := B.notSynchronized
  subst hsz
  have hD := hD0.self (sz := s.heap.size)
  generalize hAe : va_A ((wW_X7_mark0 ak ad h7 xa ma mk ka Hpg Hway Hstate Hnext Hsteps Hwritten Hstuffs Htwins Hworn Hcells Hkept Bmarked Kpg Kway Kstate Knext Ksteps Kwritten Kstuffs Ktwins Kworn Kcells Kkept)) s.heap.size = A at hD hT ⊢
  have hA : ∀ q : Nat, s.heap.size ≤ q → A q := fun q h => by rw [← hAe]; exact Or.inr h
  have hS : va_S A s.heap s.heap [] := va_S.rf
  have hl := lv_entry ([.ref h7, .int (0), .int (xb)]) (n := 3) (Nat.le_of_ble_eq_true rfl)
  rw [lg_entry_eq]
  generalize (lg_sl ([.ref h7, .int (0), .int (xb)]) ++ List.replicate (3 - (lg_sl ([.ref h7, .int (0), .int (xb)])).length) Slot.unset).toArray = ls at hl ⊢
  have hl : lv_has ls 3 [(0, .ref h7), (1, .int (0)), (2, .int (xb))] := hl
  exact kj_X7_mark0_e hx hb hown hts hml hE hT hA (Nat.le_of_ble_eq_true rfl) (Nat.le_of_ble_eq_true rfl) ⟨Nat.le_of_ble_eq_true rfl, Nat.le_of_ble_eq_true rfl⟩ h7 xa ma mk ka xb Φ (fun r Hpg Hway Hstate Hnext Hsteps Hwritten Hstuffs Htwins Hworn Hcells Hkept Bmarked Kpg Kway Kstate Knext Ksteps Kwritten Kstuffs Ktwins Kworn Kcells Kkept H locs ls hz hw hP hD hS => W.zret (v := r) hx hb hr (bl_zn hz) (fun t ht hW => ⟨⟨r, (Hpg, Hway, Hstate, Hnext, Hsteps, Hwritten, Hstuffs, Htwins, Hworn, Hcells, Hkept, Bmarked, Kpg, Kway, Kstate, Knext, Ksteps, Kwritten, Kstuffs, Ktwins, Kworn, Kcells, Kkept), rfl, hw, by rw [ht]; exact hP, by rw [hAe]; exact hD⟩, by rw [hAe]; exact hS.F ht⟩) hS.2.2 dX7_mark_22) (fun r Hpg Hway Hstate Hnext Hsteps Hwritten Hstuffs Htwins Hworn Hcells Hkept Bmarked Kpg Kway Kstate Knext Ksteps Kwritten Kstuffs Ktwins Kworn Kcells Kkept H locs ls hz hw hP hD hS => W.zret (v := r) hx hb hr (bl_zn hz) (fun t ht hW => ⟨⟨r, (Hpg, Hway, Hstate, Hnext, Hsteps, Hwritten, Hstuffs, Htwins, Hworn, Hcells, Hkept, Bmarked, Kpg, Kway, Kstate, Knext, Ksteps, Kwritten, Kstuffs, Ktwins, Kworn, Kcells, Kkept), rfl, hw, by rw [ht]; exact hP, by rw [hAe]; exact hD⟩, by rw [hAe]; exact hS.F ht⟩) hS.2.2 dX7_mark_64) Hpg Hway Hstate Hnext Hsteps Hwritten Hstuffs Htwins Hworn Hcells Hkept Bmarked Kpg Kway Kstate Knext Ksteps Kwritten Kstuffs Ktwins Kworn Kcells Kkept _ _ _ hf hP hD hS hl

def wW_X7_mark1 (ak : Nat → ClassId) (ad : Nat → Nat) (h7 : Nat) (xa : Nat → Nat) (ma : Nat → Nat) (mk : Nat → Nat) (ka : Nat → Nat) (Hpg : Nat) (Hway : Int32) (Hstate : Int32) (Hnext : Int32) (Hsteps : Int32) (Hwritten : Int32) (Hstuffs : Nat → Int32) (Htwins : Nat → Int32) (Hworn : Nat → Int32) (Hcells : Nat → Int32) (Hkept : Nat → Int32) (Bmarked : Nat → Int32) (Kpg : Nat) (Kway : Int32) (Kstate : Int32) (Knext : Int32) (Ksteps : Int32) (Kwritten : Int32) (Kstuffs : Nat → Int32) (Ktwins : Nat → Int32) (Kworn : Nat → Int32) (Kcells : Nat → Int32) (Kkept : Nat → Int32) : va_W := [(h7, .inr (6, wob xa )), ((xa 3), .inr (1, xob ma (Hpg) (Hway) (Hstate) (Hnext) (Hsteps) (Hwritten))), ((ma 0), .inl (ak 0, 16, .inl (Hstuffs))), ((ma 1), .inl (ak 0, 16, .inl (Htwins))), ((ma 2), .inl (ak 0, 16, .inl (Hworn))), ((ma 3), .inl (ak 0, 6, .inl (Hcells))), ((ma 4), .inl (ak 0, 200, .inl (Hkept))), ((xa 6), .inl (ak 5, 4, .inr (.inr (.inr (.inr (mkA mk)))))), ((xa 7), .inl (ak 3, 4, .inl (Bmarked))), ((mk 1), .inr (1, xob ka (Kpg) (Kway) (Kstate) (Knext) (Ksteps) (Kwritten))), ((ka 0), .inl (ak 0, 16, .inl (Kstuffs))), ((ka 1), .inl (ak 0, 16, .inl (Ktwins))), ((ka 2), .inl (ak 0, 16, .inl (Kworn))), ((ka 3), .inl (ak 0, 6, .inl (Kcells))), ((ka 4), .inl (ak 0, 200, .inl (Kkept)))]
def kf_X7_mark1_23 (xb : Int32)  (Φ : Int32 → Nat → Int32 → Int32 → Int32 → Int32 → Int32 → (Nat → Int32) → (Nat → Int32) → (Nat → Int32) → (Nat → Int32) → (Nat → Int32) → (Nat → Int32) → Nat → Int32 → Int32 → Int32 → Int32 → Int32 → (Nat → Int32) → (Nat → Int32) → (Nat → Int32) → (Nat → Int32) → (Nat → Int32) → Prop) (Hpg : Nat) (Hway : Int32) (Hstate : Int32) (Hnext : Int32) (Hsteps : Int32) (Hwritten : Int32) (Hstuffs : Nat → Int32) (Htwins : Nat → Int32) (Hworn : Nat → Int32) (Hcells : Nat → Int32) (Hkept : Nat → Int32) (Bmarked : Nat → Int32) (Kpg : Nat) (Kway : Int32) (Kstate : Int32) (Knext : Int32) (Ksteps : Int32) (Kwritten : Int32) (Kstuffs : Nat → Int32) (Ktwins : Nat → Int32) (Kworn : Nat → Int32) (Kcells : Nat → Int32) (Kkept : Nat → Int32) : Prop := (xb = 0 → wp_X1_copy Hpg Hway Hstate Hnext Hsteps Hwritten Hstuffs Htwins Hworn Hcells Hkept 200 200 Kpg Kway Kstate Knext Ksteps Kwritten Kstuffs Ktwins Kworn Kcells Kkept (fun Mpg_7 Mway_8 Mstate_9 Mnext_10 Msteps_11 Mwritten_12 Mstuffs_13 Mtwins_14 Mworn_15 Mcells_16 Mkept_17 => Φ 1 Hpg Hway Hstate Hnext Hsteps Hwritten Hstuffs Htwins Hworn Hcells Hkept (upd Bmarked 1 (vp_nar .boolean 1)) Mpg_7 Mway_8 Mstate_9 Mnext_10 Msteps_11 Mwritten_12 Mstuffs_13 Mtwins_14 Mworn_15 Mcells_16 Mkept_17)) ∧ (¬ xb = 0 → wp_X1_copy Kpg Kway Kstate Knext Ksteps Kwritten Kstuffs Ktwins Kworn Kcells Kkept 200 200 Hpg Hway Hstate Hnext Hsteps Hwritten Hstuffs Htwins Hworn Hcells Hkept (fun Mpg_20 Mway_21 Mstate_22 Mnext_23 Msteps_24 Mwritten_25 Mstuffs_26 Mtwins_27 Mworn_28 Mcells_29 Mkept_30 => Φ 1 Mpg_20 Mway_21 Mstate_22 Mnext_23 Msteps_24 Mwritten_25 Mstuffs_26 Mtwins_27 Mworn_28 Mcells_29 Mkept_30 Bmarked Kpg Kway Kstate Knext Ksteps Kwritten Kstuffs Ktwins Kworn Kcells Kkept))
set_option maxHeartbeats 4000000 in
set_option maxRecDepth 100000 in
theorem kj_X7_mark1_23 {p : Program} {l : Launch} {e : Env} {R : Room} {s : State} {m : MethodId} {args : Array Value} {below : List Frame} {meth : Method} {c : Code} {cells slots : Nat} {Q : State → Prop} {A : Nat → Prop} {D : va_G} {ak : Nat → ClassId} {ad : Nat → Nat} (hx : p.tables.exec = Jvm.exec) (hb : c.code = cX7_mark) (hown : s.vm.findClass RX7 = some m.cls) (hts : ∀ w ∈ wsX7_mark, w.before args s = true) (hml : c.maxLocals = 3) (hE : EV D ak s) (hT : ST D ak ad A s s.heap) (hA : ∀ q, s.heap.size ≤ q → A q) (hRf : 3 ≤ R.frames) (hRl : 82 ≤ R.locals) (hRc : cells ≤ R.cells ∧ slots ≤ R.slots) (h7 : Nat) (xa : Nat → Nat) (ma : Nat → Nat) (mk : Nat → Nat) (ka : Nat → Nat) (xb : Int32)  (Φ : Int32 → Nat → Int32 → Int32 → Int32 → Int32 → Int32 → (Nat → Int32) → (Nat → Int32) → (Nat → Int32) → (Nat → Int32) → (Nat → Int32) → (Nat → Int32) → Nat → Int32 → Int32 → Int32 → Int32 → Int32 → (Nat → Int32) → (Nat → Int32) → (Nat → Int32) → (Nat → Int32) → (Nat → Int32) → Prop)
    (kR22 : ∀ (r : Int32) (Hpg : Nat) (Hway : Int32) (Hstate : Int32) (Hnext : Int32) (Hsteps : Int32) (Hwritten : Int32) (Hstuffs : Nat → Int32) (Htwins : Nat → Int32) (Hworn : Nat → Int32) (Hcells : Nat → Int32) (Hkept : Nat → Int32) (Bmarked : Nat → Int32) (Kpg : Nat) (Kway : Int32) (Kstate : Int32) (Knext : Int32) (Ksteps : Int32) (Kwritten : Int32) (Kstuffs : Nat → Int32) (Ktwins : Nat → Int32) (Kworn : Nat → Int32) (Kcells : Nat → Int32) (Kkept : Nat → Int32) (H : Heap) (locs : List Loc) (ls : Array Slot), (r = 0 ∨ r = 1) → Φ r Hpg Hway Hstate Hnext Hsteps Hwritten Hstuffs Htwins Hworn Hcells Hkept Bmarked Kpg Kway Kstate Knext Ksteps Kwritten Kstuffs Ktwins Kworn Kcells Kkept → va_P D vwCl (wW_X7_mark1 ak ad h7 xa ma mk ka Hpg Hway Hstate Hnext Hsteps Hwritten Hstuffs Htwins Hworn Hcells Hkept Bmarked Kpg Kway Kstate Knext Ksteps Kwritten Kstuffs Ktwins Kworn Kcells Kkept) H → va_D A (wW_X7_mark1 ak ad h7 xa ma mk ka Hpg Hway Hstate Hnext Hsteps Hwritten Hstuffs Htwins Hworn Hcells Hkept Bmarked Kpg Kway Kstate Knext Ksteps Kwritten Kstuffs Ktwins Kworn Kcells Kkept) → va_S A s.heap H locs → W p l e R s m args below meth c H locs cells slots Q (F0 m 22 ls [.int r]))
    (kR64 : ∀ (r : Int32) (Hpg : Nat) (Hway : Int32) (Hstate : Int32) (Hnext : Int32) (Hsteps : Int32) (Hwritten : Int32) (Hstuffs : Nat → Int32) (Htwins : Nat → Int32) (Hworn : Nat → Int32) (Hcells : Nat → Int32) (Hkept : Nat → Int32) (Bmarked : Nat → Int32) (Kpg : Nat) (Kway : Int32) (Kstate : Int32) (Knext : Int32) (Ksteps : Int32) (Kwritten : Int32) (Kstuffs : Nat → Int32) (Ktwins : Nat → Int32) (Kworn : Nat → Int32) (Kcells : Nat → Int32) (Kkept : Nat → Int32) (H : Heap) (locs : List Loc) (ls : Array Slot), (r = 0 ∨ r = 1) → Φ r Hpg Hway Hstate Hnext Hsteps Hwritten Hstuffs Htwins Hworn Hcells Hkept Bmarked Kpg Kway Kstate Knext Ksteps Kwritten Kstuffs Ktwins Kworn Kcells Kkept → va_P D vwCl (wW_X7_mark1 ak ad h7 xa ma mk ka Hpg Hway Hstate Hnext Hsteps Hwritten Hstuffs Htwins Hworn Hcells Hkept Bmarked Kpg Kway Kstate Knext Ksteps Kwritten Kstuffs Ktwins Kworn Kcells Kkept) H → va_D A (wW_X7_mark1 ak ad h7 xa ma mk ka Hpg Hway Hstate Hnext Hsteps Hwritten Hstuffs Htwins Hworn Hcells Hkept Bmarked Kpg Kway Kstate Knext Ksteps Kwritten Kstuffs Ktwins Kworn Kcells Kkept) → va_S A s.heap H locs → W p l e R s m args below meth c H locs cells slots Q (F0 m 64 ls [.int r]))
    : ∀ (Hpg : Nat) (Hway : Int32) (Hstate : Int32) (Hnext : Int32) (Hsteps : Int32) (Hwritten : Int32) (Hstuffs : Nat → Int32) (Htwins : Nat → Int32) (Hworn : Nat → Int32) (Hcells : Nat → Int32) (Hkept : Nat → Int32) (Bmarked : Nat → Int32) (Kpg : Nat) (Kway : Int32) (Kstate : Int32) (Knext : Int32) (Ksteps : Int32) (Kwritten : Int32) (Kstuffs : Nat → Int32) (Ktwins : Nat → Int32) (Kworn : Nat → Int32) (Kcells : Nat → Int32) (Kkept : Nat → Int32) (H : Heap) (locs : List Loc) (ls : Array Slot), kf_X7_mark1_23 xb  Φ Hpg Hway Hstate Hnext Hsteps Hwritten Hstuffs Htwins Hworn Hcells Hkept Bmarked Kpg Kway Kstate Knext Ksteps Kwritten Kstuffs Ktwins Kworn Kcells Kkept → va_P D vwCl (wW_X7_mark1 ak ad h7 xa ma mk ka Hpg Hway Hstate Hnext Hsteps Hwritten Hstuffs Htwins Hworn Hcells Hkept Bmarked Kpg Kway Kstate Knext Ksteps Kwritten Kstuffs Ktwins Kworn Kcells Kkept) H → va_D A (wW_X7_mark1 ak ad h7 xa ma mk ka Hpg Hway Hstate Hnext Hsteps Hwritten Hstuffs Htwins Hworn Hcells Hkept Bmarked Kpg Kway Kstate Knext Ksteps Kwritten Kstuffs Ktwins Kworn Kcells Kkept) → va_S A s.heap H locs → lv_has ls 3 [(0, .ref h7), (1, .int (1)), (2, .int (xb))] → W p l e R s m args below meth c H locs cells slots Q (F0 m 23 ls ([])) := by
  intro Hpg Hway Hstate Hnext Hsteps Hwritten Hstuffs Htwins Hworn Hcells Hkept Bmarked Kpg Kway Kstate Knext Ksteps Kwritten Kstuffs Ktwins Kworn Kcells Kkept H locs ls hw hP hD hS hl
  delta kf_X7_mark1_23 at hw
  refine lv_iload_n hx hb dX7_mark_23 rfl (lv_at hl 2 rfl) ?_
  refine lv_if_eq (tgt := 43) hx hb dX7_mark_24 (by decide) (fun c_5 => ?_) (fun c_5 => ?_)
  · replace hw := hw.1 c_5
    refine lv_aload_n hx hb dX7_mark_43 rfl (lv_at hl 0 rfl) ?_
    refine vt_get (D := D) (ci := 6) (v := .ref (xa 6)) (C := RX7) (T := TX7) (N := 10) hx hb hts (fun w h => wm_c (wc_X7 w h)) hown hE.1 hP 0 rfl rfl 6 (by decide) tX7_6 (hts (.fieldLink RX7 47 "WornLines" "marks" "[LWornLines$Machine;") (wm_c hw_601)) (fun _ h9 => h9) rfl dX7_mark_44 ?_
    refine lv_iload_n hx hb dX7_mark_47 rfl (lv_at hl 1 rfl) ?_
    refine va_aldq hx hb hE.1 hP 7 5 rfl rfl (by unfold vp_in; decide) dX7_mark_48 ?_
    refine W.eq (g2 := F0 m 49 ls (.ref (mk 1) :: [])) rfl ?_
    refine lv_aload_n hx hb dX7_mark_49 rfl (lv_at hl 0 rfl) ?_
    refine vt_get (D := D) (ci := 6) (v := .ref (xa 3)) (C := RX7) (T := TX7) (N := 10) hx hb hts (fun w h => wm_c (wc_X7 w h)) hown hE.1 hP 0 rfl rfl 3 (by decide) tX7_3 (hts (.fieldLink RX7 37 "WornLines" "hand" "LWornLines$Machine;") (wm_c hw_540)) (fun _ h9 => h9) rfl dX7_mark_50 ?_
    refine kc_v (wc := (wW_X1_copy ak ad (mk 1) ka (xa 3) ma 200 200 Kpg Kway Kstate Knext Ksteps Kwritten Kstuffs Ktwins Kworn Kcells Kkept Hpg Hway Hstate Hnext Hsteps Hwritten Hstuffs Htwins Hworn Hcells Hkept)) (wr := [(h7, .inr (6, wob xa )), ((xa 6), .inl (ak 5, 4, .inr (.inr (.inr (.inr (mkA mk)))))), ((xa 7), .inl (ak 3, 4, .inl (Bmarked)))]) hP hD hS hA [9, 10, 11, 12, 13, 14, 1, 2, 3, 4, 5, 6] [0, 7, 8] rfl rfl (by decide) (by decide) (va_runV (As := [.ref (xa 3)]) (rest := []) ⟨hx, hb, hml, hown, hts⟩ (c_X1_copy l D ak ad _ (mk 1) ka (xa 3) ma 200 200 Kpg Kway Kstate Knext Ksteps Kwritten Kstuffs Ktwins Kworn Kcells Kkept Hpg Hway Hstate Hnext Hsteps Hwritten Hstuffs Htwins Hworn Hcells Hkept _ hw) (cwV 1 hts gX7_mark_X1_copy rfl rfl rfl hv_X1_copy ⟨(Nat.le_trans (Nat.le_of_ble_eq_true rfl) hRf), (Nat.le_trans (Nat.le_of_ble_eq_true rfl) hRl)⟩) (kc_preV (As := [.ref (xa 3)]) (wc := (wW_X1_copy ak ad (mk 1) ka (xa 3) ma 200 200 Kpg Kway Kstate Knext Ksteps Kwritten Kstuffs Ktwins Kworn Kcells Kkept Hpg Hway Hstate Hnext Hsteps Hwritten Hstuffs Htwins Hworn Hcells Hkept)) hE hT hP hD hS hA [9, 10, 11, 12, 13, 14, 1, 2, 3, 4, 5, 6] (by decide) rfl rfl 9 1 rfl rfl rfl) rfl rfl hl.1 rfl (lv_room (Nat.le_of_ble_eq_true rfl)) dX7_mark_53 ⟨hRc.1, hRc.2⟩) (fun u_6 H locs hw hP hD hS => ?_)
    obtain ⟨Mpg_7, Mway_8, Mstate_9, Mnext_10, Msteps_11, Mwritten_12, Mstuffs_13, Mtwins_14, Mworn_15, Mcells_16, Mkept_17⟩ := u_6
    try dsimp -zeta only at hw
    have hP : va_P D vwCl (wW_X7_mark1 ak ad h7 xa ma mk ka Hpg Hway Hstate Hnext Hsteps Hwritten Hstuffs Htwins Hworn Hcells Hkept Bmarked Mpg_7 Mway_8 Mstate_9 Mnext_10 Msteps_11 Mwritten_12 Mstuffs_13 Mtwins_14 Mworn_15 Mcells_16 Mkept_17) H := hP.sub [0, 9, 10, 11, 12, 13, 14, 1, 2, 3, 4, 5, 6, 7, 8] rfl
    have hD : va_D A (wW_X7_mark1 ak ad h7 xa ma mk ka Hpg Hway Hstate Hnext Hsteps Hwritten Hstuffs Htwins Hworn Hcells Hkept Bmarked Mpg_7 Mway_8 Mstate_9 Mnext_10 Msteps_11 Mwritten_12 Mstuffs_13 Mtwins_14 Mworn_15 Mcells_16 Mkept_17) := hD.sub [0, 9, 10, 11, 12, 13, 14, 1, 2, 3, 4, 5, 6, 7, 8] (by decide) rfl
    refine lv_aload_n hx hb dX7_mark_56 rfl (lv_at hl 0 rfl) ?_
    refine vt_get (D := D) (ci := 6) (v := .ref (xa 7)) (C := RX7) (T := TX7) (N := 10) hx hb hts (fun w h => wm_c (wc_X7 w h)) hown hE.1 hP 0 rfl rfl 7 (by decide) tX7_7 (hts (.fieldLink RX7 51 "WornLines" "marked" "[Z") (wm_c hw_602)) (fun _ h9 => h9) rfl dX7_mark_57 ?_
    refine lv_iload_n hx hb dX7_mark_60 rfl (lv_at hl 1 rfl) ?_
    refine lv_iconst (v := 1) hx hb dX7_mark_61 (by decide) ?_
    refine va_zast hx hb hE.1 hP hD hS 8 3 rfl rfl (by unfold vp_in; decide) dX7_mark_62 (fun H locs hP hD hS => ?_)
    have hP : va_P D vwCl (wW_X7_mark1 ak ad h7 xa ma mk ka Hpg Hway Hstate Hnext Hsteps Hwritten Hstuffs Htwins Hworn Hcells Hkept (upd Bmarked 1 (vp_nar .boolean 1)) Mpg_7 Mway_8 Mstate_9 Mnext_10 Msteps_11 Mwritten_12 Mstuffs_13 Mtwins_14 Mworn_15 Mcells_16 Mkept_17) H := hP
    have hD : va_D A (wW_X7_mark1 ak ad h7 xa ma mk ka Hpg Hway Hstate Hnext Hsteps Hwritten Hstuffs Htwins Hworn Hcells Hkept (upd Bmarked 1 (vp_nar .boolean 1)) Mpg_7 Mway_8 Mstate_9 Mnext_10 Msteps_11 Mwritten_12 Mstuffs_13 Mtwins_14 Mworn_15 Mcells_16 Mkept_17) := hD
    refine lv_iconst (v := 1) hx hb dX7_mark_63 (by decide) ?_
    exact kR64 1 Hpg Hway Hstate Hnext Hsteps Hwritten Hstuffs Htwins Hworn Hcells Hkept (upd Bmarked 1 (vp_nar .boolean 1)) Mpg_7 Mway_8 Mstate_9 Mnext_10 Msteps_11 Mwritten_12 Mstuffs_13 Mtwins_14 Mworn_15 Mcells_16 Mkept_17 _ _ _ (Or.inr rfl) hw hP hD hS
  · replace hw := hw.2 c_5
    refine lv_aload_n hx hb dX7_mark_27 rfl (lv_at hl 0 rfl) ?_
    refine vt_get (D := D) (ci := 6) (v := .ref (xa 3)) (C := RX7) (T := TX7) (N := 10) hx hb hts (fun w h => wm_c (wc_X7 w h)) hown hE.1 hP 0 rfl rfl 3 (by decide) tX7_3 (hts (.fieldLink RX7 37 "WornLines" "hand" "LWornLines$Machine;") (wm_c hw_540)) (fun _ h9 => h9) rfl dX7_mark_28 ?_
    refine lv_aload_n hx hb dX7_mark_31 rfl (lv_at hl 0 rfl) ?_
    refine vt_get (D := D) (ci := 6) (v := .ref (xa 6)) (C := RX7) (T := TX7) (N := 10) hx hb hts (fun w h => wm_c (wc_X7 w h)) hown hE.1 hP 0 rfl rfl 6 (by decide) tX7_6 (hts (.fieldLink RX7 47 "WornLines" "marks" "[LWornLines$Machine;") (wm_c hw_601)) (fun _ h9 => h9) rfl dX7_mark_32 ?_
    refine lv_iload_n hx hb dX7_mark_35 rfl (lv_at hl 1 rfl) ?_
    refine va_aldq hx hb hE.1 hP 7 5 rfl rfl (by unfold vp_in; decide) dX7_mark_36 ?_
    refine W.eq (g2 := F0 m 37 ls (.ref (mk 1) :: .ref (xa 3) :: [])) rfl ?_
    refine kc_v (wc := (wW_X1_copy ak ad (xa 3) ma (mk 1) ka 200 200 Hpg Hway Hstate Hnext Hsteps Hwritten Hstuffs Htwins Hworn Hcells Hkept Kpg Kway Kstate Knext Ksteps Kwritten Kstuffs Ktwins Kworn Kcells Kkept)) (wr := [(h7, .inr (6, wob xa )), ((xa 6), .inl (ak 5, 4, .inr (.inr (.inr (.inr (mkA mk)))))), ((xa 7), .inl (ak 3, 4, .inl (Bmarked)))]) hP hD hS hA [1, 2, 3, 4, 5, 6, 9, 10, 11, 12, 13, 14] [0, 7, 8] rfl rfl (by decide) (by decide) (va_runV (As := [.ref (mk 1)]) (rest := []) ⟨hx, hb, hml, hown, hts⟩ (c_X1_copy l D ak ad _ (xa 3) ma (mk 1) ka 200 200 Hpg Hway Hstate Hnext Hsteps Hwritten Hstuffs Htwins Hworn Hcells Hkept Kpg Kway Kstate Knext Ksteps Kwritten Kstuffs Ktwins Kworn Kcells Kkept _ hw) (cwV 1 hts gX7_mark_X1_copy rfl rfl rfl hv_X1_copy ⟨(Nat.le_trans (Nat.le_of_ble_eq_true rfl) hRf), (Nat.le_trans (Nat.le_of_ble_eq_true rfl) hRl)⟩) (kc_preV (As := [.ref (mk 1)]) (wc := (wW_X1_copy ak ad (xa 3) ma (mk 1) ka 200 200 Hpg Hway Hstate Hnext Hsteps Hwritten Hstuffs Htwins Hworn Hcells Hkept Kpg Kway Kstate Knext Ksteps Kwritten Kstuffs Ktwins Kworn Kcells Kkept)) hE hT hP hD hS hA [1, 2, 3, 4, 5, 6, 9, 10, 11, 12, 13, 14] (by decide) rfl rfl 1 1 rfl rfl rfl) rfl rfl hl.1 rfl (lv_room (Nat.le_of_ble_eq_true rfl)) dX7_mark_37 ⟨hRc.1, hRc.2⟩) (fun u_19 H locs hw hP hD hS => ?_)
    obtain ⟨Mpg_20, Mway_21, Mstate_22, Mnext_23, Msteps_24, Mwritten_25, Mstuffs_26, Mtwins_27, Mworn_28, Mcells_29, Mkept_30⟩ := u_19
    try dsimp -zeta only at hw
    have hP : va_P D vwCl (wW_X7_mark1 ak ad h7 xa ma mk ka Mpg_20 Mway_21 Mstate_22 Mnext_23 Msteps_24 Mwritten_25 Mstuffs_26 Mtwins_27 Mworn_28 Mcells_29 Mkept_30 Bmarked Kpg Kway Kstate Knext Ksteps Kwritten Kstuffs Ktwins Kworn Kcells Kkept) H := hP.sub [0, 3, 4, 5, 6, 7, 8, 1, 2, 9, 10, 11, 12, 13, 14] rfl
    have hD : va_D A (wW_X7_mark1 ak ad h7 xa ma mk ka Mpg_20 Mway_21 Mstate_22 Mnext_23 Msteps_24 Mwritten_25 Mstuffs_26 Mtwins_27 Mworn_28 Mcells_29 Mkept_30 Bmarked Kpg Kway Kstate Knext Ksteps Kwritten Kstuffs Ktwins Kworn Kcells Kkept) := hD.sub [0, 3, 4, 5, 6, 7, 8, 1, 2, 9, 10, 11, 12, 13, 14] (by decide) rfl
    refine lv_goto (tgt := 63) hx hb dX7_mark_40 (by decide) ?_
    refine lv_iconst (v := 1) hx hb dX7_mark_63 (by decide) ?_
    exact kR64 1 Mpg_20 Mway_21 Mstate_22 Mnext_23 Msteps_24 Mwritten_25 Mstuffs_26 Mtwins_27 Mworn_28 Mcells_29 Mkept_30 Bmarked Kpg Kway Kstate Knext Ksteps Kwritten Kstuffs Ktwins Kworn Kcells Kkept _ _ _ (Or.inr rfl) hw hP hD hS

def wp_X7_mark1 (xb : Int32) (Hpg : Nat) (Hway : Int32) (Hstate : Int32) (Hnext : Int32) (Hsteps : Int32) (Hwritten : Int32) (Hstuffs : Nat → Int32) (Htwins : Nat → Int32) (Hworn : Nat → Int32) (Hcells : Nat → Int32) (Hkept : Nat → Int32) (Bmarked : Nat → Int32) (Kpg : Nat) (Kway : Int32) (Kstate : Int32) (Knext : Int32) (Ksteps : Int32) (Kwritten : Int32) (Kstuffs : Nat → Int32) (Ktwins : Nat → Int32) (Kworn : Nat → Int32) (Kcells : Nat → Int32) (Kkept : Nat → Int32) (Φ : Int32 → Nat → Int32 → Int32 → Int32 → Int32 → Int32 → (Nat → Int32) → (Nat → Int32) → (Nat → Int32) → (Nat → Int32) → (Nat → Int32) → (Nat → Int32) → Nat → Int32 → Int32 → Int32 → Int32 → Int32 → (Nat → Int32) → (Nat → Int32) → (Nat → Int32) → (Nat → Int32) → (Nat → Int32) → Prop) : Prop := wp_X7_within 1 4 (fun r_2 => (r_2 = 0 → Φ 0 Hpg Hway Hstate Hnext Hsteps Hwritten Hstuffs Htwins Hworn Hcells Hkept Bmarked Kpg Kway Kstate Knext Ksteps Kwritten Kstuffs Ktwins Kworn Kcells Kkept) ∧ (¬ r_2 = 0 → (xb = 0 → kf_X7_mark1_23 xb  Φ Hpg Hway Hstate Hnext Hsteps Hwritten Hstuffs Htwins Hworn Hcells Hkept Bmarked Kpg Kway Kstate Knext Ksteps Kwritten Kstuffs Ktwins Kworn Kcells Kkept) ∧ (¬ xb = 0 → (¬ (Bmarked 1) = 0 → kf_X7_mark1_23 xb  Φ Hpg Hway Hstate Hnext Hsteps Hwritten Hstuffs Htwins Hworn Hcells Hkept Bmarked Kpg Kway Kstate Knext Ksteps Kwritten Kstuffs Ktwins Kworn Kcells Kkept) ∧ ((Bmarked 1) = 0 → Φ 0 Hpg Hway Hstate Hnext Hsteps Hwritten Hstuffs Htwins Hworn Hcells Hkept Bmarked Kpg Kway Kstate Knext Ksteps Kwritten Kstuffs Ktwins Kworn Kcells Kkept))))
set_option maxHeartbeats 4000000 in
set_option maxRecDepth 100000 in
theorem kj_X7_mark1_e {p : Program} {l : Launch} {e : Env} {R : Room} {s : State} {m : MethodId} {args : Array Value} {below : List Frame} {meth : Method} {c : Code} {cells slots : Nat} {Q : State → Prop} {A : Nat → Prop} {D : va_G} {ak : Nat → ClassId} {ad : Nat → Nat} (hx : p.tables.exec = Jvm.exec) (hb : c.code = cX7_mark) (hown : s.vm.findClass RX7 = some m.cls) (hts : ∀ w ∈ wsX7_mark, w.before args s = true) (hml : c.maxLocals = 3) (hE : EV D ak s) (hT : ST D ak ad A s s.heap) (hA : ∀ q, s.heap.size ≤ q → A q) (hRf : 3 ≤ R.frames) (hRl : 82 ≤ R.locals) (hRc : cells ≤ R.cells ∧ slots ≤ R.slots) (h7 : Nat) (xa : Nat → Nat) (ma : Nat → Nat) (mk : Nat → Nat) (ka : Nat → Nat) (xb : Int32)  (Φ : Int32 → Nat → Int32 → Int32 → Int32 → Int32 → Int32 → (Nat → Int32) → (Nat → Int32) → (Nat → Int32) → (Nat → Int32) → (Nat → Int32) → (Nat → Int32) → Nat → Int32 → Int32 → Int32 → Int32 → Int32 → (Nat → Int32) → (Nat → Int32) → (Nat → Int32) → (Nat → Int32) → (Nat → Int32) → Prop)
    (kR22 : ∀ (r : Int32) (Hpg : Nat) (Hway : Int32) (Hstate : Int32) (Hnext : Int32) (Hsteps : Int32) (Hwritten : Int32) (Hstuffs : Nat → Int32) (Htwins : Nat → Int32) (Hworn : Nat → Int32) (Hcells : Nat → Int32) (Hkept : Nat → Int32) (Bmarked : Nat → Int32) (Kpg : Nat) (Kway : Int32) (Kstate : Int32) (Knext : Int32) (Ksteps : Int32) (Kwritten : Int32) (Kstuffs : Nat → Int32) (Ktwins : Nat → Int32) (Kworn : Nat → Int32) (Kcells : Nat → Int32) (Kkept : Nat → Int32) (H : Heap) (locs : List Loc) (ls : Array Slot), (r = 0 ∨ r = 1) → Φ r Hpg Hway Hstate Hnext Hsteps Hwritten Hstuffs Htwins Hworn Hcells Hkept Bmarked Kpg Kway Kstate Knext Ksteps Kwritten Kstuffs Ktwins Kworn Kcells Kkept → va_P D vwCl (wW_X7_mark1 ak ad h7 xa ma mk ka Hpg Hway Hstate Hnext Hsteps Hwritten Hstuffs Htwins Hworn Hcells Hkept Bmarked Kpg Kway Kstate Knext Ksteps Kwritten Kstuffs Ktwins Kworn Kcells Kkept) H → va_D A (wW_X7_mark1 ak ad h7 xa ma mk ka Hpg Hway Hstate Hnext Hsteps Hwritten Hstuffs Htwins Hworn Hcells Hkept Bmarked Kpg Kway Kstate Knext Ksteps Kwritten Kstuffs Ktwins Kworn Kcells Kkept) → va_S A s.heap H locs → W p l e R s m args below meth c H locs cells slots Q (F0 m 22 ls [.int r]))
    (kR64 : ∀ (r : Int32) (Hpg : Nat) (Hway : Int32) (Hstate : Int32) (Hnext : Int32) (Hsteps : Int32) (Hwritten : Int32) (Hstuffs : Nat → Int32) (Htwins : Nat → Int32) (Hworn : Nat → Int32) (Hcells : Nat → Int32) (Hkept : Nat → Int32) (Bmarked : Nat → Int32) (Kpg : Nat) (Kway : Int32) (Kstate : Int32) (Knext : Int32) (Ksteps : Int32) (Kwritten : Int32) (Kstuffs : Nat → Int32) (Ktwins : Nat → Int32) (Kworn : Nat → Int32) (Kcells : Nat → Int32) (Kkept : Nat → Int32) (H : Heap) (locs : List Loc) (ls : Array Slot), (r = 0 ∨ r = 1) → Φ r Hpg Hway Hstate Hnext Hsteps Hwritten Hstuffs Htwins Hworn Hcells Hkept Bmarked Kpg Kway Kstate Knext Ksteps Kwritten Kstuffs Ktwins Kworn Kcells Kkept → va_P D vwCl (wW_X7_mark1 ak ad h7 xa ma mk ka Hpg Hway Hstate Hnext Hsteps Hwritten Hstuffs Htwins Hworn Hcells Hkept Bmarked Kpg Kway Kstate Knext Ksteps Kwritten Kstuffs Ktwins Kworn Kcells Kkept) H → va_D A (wW_X7_mark1 ak ad h7 xa ma mk ka Hpg Hway Hstate Hnext Hsteps Hwritten Hstuffs Htwins Hworn Hcells Hkept Bmarked Kpg Kway Kstate Knext Ksteps Kwritten Kstuffs Ktwins Kworn Kcells Kkept) → va_S A s.heap H locs → W p l e R s m args below meth c H locs cells slots Q (F0 m 64 ls [.int r]))
    : ∀ (Hpg : Nat) (Hway : Int32) (Hstate : Int32) (Hnext : Int32) (Hsteps : Int32) (Hwritten : Int32) (Hstuffs : Nat → Int32) (Htwins : Nat → Int32) (Hworn : Nat → Int32) (Hcells : Nat → Int32) (Hkept : Nat → Int32) (Bmarked : Nat → Int32) (Kpg : Nat) (Kway : Int32) (Kstate : Int32) (Knext : Int32) (Ksteps : Int32) (Kwritten : Int32) (Kstuffs : Nat → Int32) (Ktwins : Nat → Int32) (Kworn : Nat → Int32) (Kcells : Nat → Int32) (Kkept : Nat → Int32) (H : Heap) (locs : List Loc) (ls : Array Slot), wp_X7_mark1 xb Hpg Hway Hstate Hnext Hsteps Hwritten Hstuffs Htwins Hworn Hcells Hkept Bmarked Kpg Kway Kstate Knext Ksteps Kwritten Kstuffs Ktwins Kworn Kcells Kkept Φ → va_P D vwCl (wW_X7_mark1 ak ad h7 xa ma mk ka Hpg Hway Hstate Hnext Hsteps Hwritten Hstuffs Htwins Hworn Hcells Hkept Bmarked Kpg Kway Kstate Knext Ksteps Kwritten Kstuffs Ktwins Kworn Kcells Kkept) H → va_D A (wW_X7_mark1 ak ad h7 xa ma mk ka Hpg Hway Hstate Hnext Hsteps Hwritten Hstuffs Htwins Hworn Hcells Hkept Bmarked Kpg Kway Kstate Knext Ksteps Kwritten Kstuffs Ktwins Kworn Kcells Kkept) → va_S A s.heap H locs → lv_has ls 3 [(0, .ref h7), (1, .int (1)), (2, .int (xb))] → W p l e R s m args below meth c H locs cells slots Q (F0 m 0 ls ([])) := by
  intro Hpg Hway Hstate Hnext Hsteps Hwritten Hstuffs Htwins Hworn Hcells Hkept Bmarked Kpg Kway Kstate Knext Ksteps Kwritten Kstuffs Ktwins Kworn Kcells Kkept H locs ls hw hP hD hS hl
  delta wp_X7_mark1 at hw
  refine lv_iload_n hx hb dX7_mark_0 rfl (lv_at hl 1 rfl) ?_
  refine lv_iconst (v := 4) hx hb dX7_mark_1 (by decide) ?_
  refine kc_i (wc := []) (wr := [(h7, .inr (6, wob xa )), ((xa 3), .inr (1, xob ma (Hpg) (Hway) (Hstate) (Hnext) (Hsteps) (Hwritten))), ((ma 0), .inl (ak 0, 16, .inl (Hstuffs))), ((ma 1), .inl (ak 0, 16, .inl (Htwins))), ((ma 2), .inl (ak 0, 16, .inl (Hworn))), ((ma 3), .inl (ak 0, 6, .inl (Hcells))), ((ma 4), .inl (ak 0, 200, .inl (Hkept))), ((xa 6), .inl (ak 5, 4, .inr (.inr (.inr (.inr (mkA mk)))))), ((xa 7), .inl (ak 3, 4, .inl (Bmarked))), ((mk 1), .inr (1, xob ka (Kpg) (Kway) (Kstate) (Knext) (Ksteps) (Kwritten))), ((ka 0), .inl (ak 0, 16, .inl (Kstuffs))), ((ka 1), .inl (ak 0, 16, .inl (Ktwins))), ((ka 2), .inl (ak 0, 16, .inl (Kworn))), ((ka 3), .inl (ak 0, 6, .inl (Kcells))), ((ka 4), .inl (ak 0, 200, .inl (Kkept)))]) hP hD hS hA [] [0, 1, 2, 3, 4, 5, 6, 7, 8, 9, 10, 11, 12, 13, 14] rfl rfl (by decide) (by decide) (va_runS (As := [.int (1), .int (4)]) (rest := []) ⟨hx, hb, hml, hown, hts⟩ (c_X7_within l D ak ad _ 1 4 _ hw) (va_cwS 2 hts gX7_mark_X7_within rfl rfl rfl hz_X7_within ⟨(Nat.le_trans (Nat.le_of_ble_eq_true rfl) hRf), (Nat.le_trans (Nat.le_of_ble_eq_true rfl) hRl)⟩) (kc_pre (As := [.int (1), .int (4)]) (wc := []) hE hT hP hD hS hA [] (by decide) rfl rfl) rfl rfl hl.1 rfl (lv_room (Nat.le_of_ble_eq_true rfl)) dX7_mark_2 ⟨hRc.1, hRc.2⟩) (fun r_2 u_1 H locs hw hP hD hS => ?_)
  try dsimp -zeta only at hw
  have hP : va_P D vwCl (wW_X7_mark1 ak ad h7 xa ma mk ka Hpg Hway Hstate Hnext Hsteps Hwritten Hstuffs Htwins Hworn Hcells Hkept Bmarked Kpg Kway Kstate Knext Ksteps Kwritten Kstuffs Ktwins Kworn Kcells Kkept) H := hP.sub [0, 1, 2, 3, 4, 5, 6, 7, 8, 9, 10, 11, 12, 13, 14] rfl
  have hD : va_D A (wW_X7_mark1 ak ad h7 xa ma mk ka Hpg Hway Hstate Hnext Hsteps Hwritten Hstuffs Htwins Hworn Hcells Hkept Bmarked Kpg Kway Kstate Knext Ksteps Kwritten Kstuffs Ktwins Kworn Kcells Kkept) := hD.sub [0, 1, 2, 3, 4, 5, 6, 7, 8, 9, 10, 11, 12, 13, 14] (by decide) rfl
  refine lv_if_eq (tgt := 21) hx hb dX7_mark_5 (by decide) (fun c_3 => ?_) (fun c_3 => ?_)
  · replace hw := hw.1 c_3
    refine lv_iconst (v := 0) hx hb dX7_mark_21 (by decide) ?_
    exact kR22 0 Hpg Hway Hstate Hnext Hsteps Hwritten Hstuffs Htwins Hworn Hcells Hkept Bmarked Kpg Kway Kstate Knext Ksteps Kwritten Kstuffs Ktwins Kworn Kcells Kkept _ _ _ (Or.inl rfl) hw hP hD hS
  · replace hw := hw.2 c_3
    refine lv_iload_n hx hb dX7_mark_8 rfl (lv_at hl 2 rfl) ?_
    refine lv_if_eq (tgt := 23) hx hb dX7_mark_9 (by decide) (fun c_4 => ?_) (fun c_4 => ?_)
    · replace hw := hw.1 c_4
      exact kj_X7_mark1_23 hx hb hown hts hml hE hT hA hRf hRl hRc h7 xa ma mk ka xb  Φ  kR22 kR64 Hpg Hway Hstate Hnext Hsteps Hwritten Hstuffs Htwins Hworn Hcells Hkept Bmarked Kpg Kway Kstate Knext Ksteps Kwritten Kstuffs Ktwins Kworn Kcells Kkept _ _ _ hw hP hD hS (lv_sub hl [0, 1, 2] rfl)
    · replace hw := hw.2 c_4
      refine lv_aload_n hx hb dX7_mark_12 rfl (lv_at hl 0 rfl) ?_
      refine vt_get (D := D) (ci := 6) (v := .ref (xa 7)) (C := RX7) (T := TX7) (N := 10) hx hb hts (fun w h => wm_c (wc_X7 w h)) hown hE.1 hP 0 rfl rfl 7 (by decide) tX7_7 (hts (.fieldLink RX7 51 "WornLines" "marked" "[Z") (wm_c hw_602)) (fun _ h9 => h9) rfl dX7_mark_13 ?_
      refine lv_iload_n hx hb dX7_mark_16 rfl (lv_at hl 1 rfl) ?_
      refine va_zald hx hb hE.1 hP 8 3 rfl rfl (by unfold vp_in; decide) dX7_mark_17 ?_
      refine W.eq (g2 := F0 m 18 ls (.int (Bmarked 1) :: [])) rfl ?_
      refine lv_if_ne (tgt := 23) hx hb dX7_mark_18 (by decide) (fun c_32 => ?_) (fun c_32 => ?_)
      · replace hw := hw.1 c_32
        exact kj_X7_mark1_23 hx hb hown hts hml hE hT hA hRf hRl hRc h7 xa ma mk ka xb  Φ  kR22 kR64 Hpg Hway Hstate Hnext Hsteps Hwritten Hstuffs Htwins Hworn Hcells Hkept Bmarked Kpg Kway Kstate Knext Ksteps Kwritten Kstuffs Ktwins Kworn Kcells Kkept _ _ _ hw hP hD hS (lv_sub hl [0, 1, 2] rfl)
      · replace hw := hw.2 c_32
        refine lv_iconst (v := 0) hx hb dX7_mark_21 (by decide) ?_
        exact kR22 0 Hpg Hway Hstate Hnext Hsteps Hwritten Hstuffs Htwins Hworn Hcells Hkept Bmarked Kpg Kway Kstate Knext Ksteps Kwritten Kstuffs Ktwins Kworn Kcells Kkept _ _ _ (Or.inl rfl) hw hP hD hS
set_option maxHeartbeats 4000000 in
set_option maxRecDepth 100000 in
theorem c_X7_mark1 (l : Launch) (D : va_G) (ak : Nat → ClassId) (ad : Nat → Nat) (sz : Nat) (h7 : Nat) (xa : Nat → Nat) (ma : Nat → Nat) (mk : Nat → Nat) (ka : Nat → Nat) (Hpg : Nat) (Hway : Int32) (Hstate : Int32) (Hnext : Int32) (Hsteps : Int32) (Hwritten : Int32) (Hstuffs : Nat → Int32) (Htwins : Nat → Int32) (Hworn : Nat → Int32) (Hcells : Nat → Int32) (Hkept : Nat → Int32) (Bmarked : Nat → Int32) (Kpg : Nat) (Kway : Int32) (Kstate : Int32) (Knext : Int32) (Ksteps : Int32) (Kwritten : Int32) (Kstuffs : Nat → Int32) (Ktwins : Nat → Int32) (Kworn : Nat → Int32) (Kcells : Nat → Int32) (Kkept : Nat → Int32) (xb : Int32) (Φ : Int32 → Nat → Int32 → Int32 → Int32 → Int32 → Int32 → (Nat → Int32) → (Nat → Int32) → (Nat → Int32) → (Nat → Int32) → (Nat → Int32) → (Nat → Int32) → Nat → Int32 → Int32 → Int32 → Int32 → Int32 → (Nat → Int32) → (Nat → Int32) → (Nat → Int32) → (Nat → Int32) → (Nat → Int32) → Prop) (hf : wp_X7_mark1 xb Hpg Hway Hstate Hnext Hsteps Hwritten Hstuffs Htwins Hworn Hcells Hkept Bmarked Kpg Kway Kstate Knext Ksteps Kwritten Kstuffs Ktwins Kworn Kcells Kkept Φ) : Met l yX7_mark wsX7_mark ({ frames := 3, cells := 0, slots := 0, locals := 82 }) (cPre D ak ad [.ref h7, .int (1), .int (xb)] ((wW_X7_mark1 ak ad h7 xa ma mk ka Hpg Hway Hstate Hnext Hsteps Hwritten Hstuffs Htwins Hworn Hcells Hkept Bmarked Kpg Kway Kstate Knext Ksteps Kwritten Kstuffs Ktwins Kworn Kcells Kkept)) sz) (cI D (S := (Nat) × (Int32) × (Int32) × (Int32) × (Int32) × (Int32) × (Nat → Int32) × (Nat → Int32) × (Nat → Int32) × (Nat → Int32) × (Nat → Int32) × (Nat → Int32) × (Nat) × (Int32) × (Int32) × (Int32) × (Int32) × (Int32) × (Nat → Int32) × (Nat → Int32) × (Nat → Int32) × (Nat → Int32) × (Nat → Int32)) (fun (r : Int32) (u : (Nat) × (Int32) × (Int32) × (Int32) × (Int32) × (Int32) × (Nat → Int32) × (Nat → Int32) × (Nat → Int32) × (Nat → Int32) × (Nat → Int32) × (Nat → Int32) × (Nat) × (Int32) × (Int32) × (Int32) × (Int32) × (Int32) × (Nat → Int32) × (Nat → Int32) × (Nat → Int32) × (Nat → Int32) × (Nat → Int32)) => Φ r u.1 u.2.1 u.2.2.1 u.2.2.2.1 u.2.2.2.2.1 u.2.2.2.2.2.1 u.2.2.2.2.2.2.1 u.2.2.2.2.2.2.2.1 u.2.2.2.2.2.2.2.2.1 u.2.2.2.2.2.2.2.2.2.1 u.2.2.2.2.2.2.2.2.2.2.1 u.2.2.2.2.2.2.2.2.2.2.2.1 u.2.2.2.2.2.2.2.2.2.2.2.2.1 u.2.2.2.2.2.2.2.2.2.2.2.2.2.1 u.2.2.2.2.2.2.2.2.2.2.2.2.2.2.1 u.2.2.2.2.2.2.2.2.2.2.2.2.2.2.2.1 u.2.2.2.2.2.2.2.2.2.2.2.2.2.2.2.2.1 u.2.2.2.2.2.2.2.2.2.2.2.2.2.2.2.2.2.1 u.2.2.2.2.2.2.2.2.2.2.2.2.2.2.2.2.2.2.1 u.2.2.2.2.2.2.2.2.2.2.2.2.2.2.2.2.2.2.2.1 u.2.2.2.2.2.2.2.2.2.2.2.2.2.2.2.2.2.2.2.2.1 u.2.2.2.2.2.2.2.2.2.2.2.2.2.2.2.2.2.2.2.2.2.1 u.2.2.2.2.2.2.2.2.2.2.2.2.2.2.2.2.2.2.2.2.2.2) (fun u => (wW_X7_mark1 ak ad h7 xa ma mk ka u.1 u.2.1 u.2.2.1 u.2.2.2.1 u.2.2.2.2.1 u.2.2.2.2.2.1 u.2.2.2.2.2.2.1 u.2.2.2.2.2.2.2.1 u.2.2.2.2.2.2.2.2.1 u.2.2.2.2.2.2.2.2.2.1 u.2.2.2.2.2.2.2.2.2.2.1 u.2.2.2.2.2.2.2.2.2.2.2.1 u.2.2.2.2.2.2.2.2.2.2.2.2.1 u.2.2.2.2.2.2.2.2.2.2.2.2.2.1 u.2.2.2.2.2.2.2.2.2.2.2.2.2.2.1 u.2.2.2.2.2.2.2.2.2.2.2.2.2.2.2.1 u.2.2.2.2.2.2.2.2.2.2.2.2.2.2.2.2.1 u.2.2.2.2.2.2.2.2.2.2.2.2.2.2.2.2.2.1 u.2.2.2.2.2.2.2.2.2.2.2.2.2.2.2.2.2.2.1 u.2.2.2.2.2.2.2.2.2.2.2.2.2.2.2.2.2.2.2.1 u.2.2.2.2.2.2.2.2.2.2.2.2.2.2.2.2.2.2.2.2.1 u.2.2.2.2.2.2.2.2.2.2.2.2.2.2.2.2.2.2.2.2.2.1 u.2.2.2.2.2.2.2.2.2.2.2.2.2.2.2.2.2.2.2.2.2.2)) ((wW_X7_mark1 ak ad h7 xa ma mk ka Hpg Hway Hstate Hnext Hsteps Hwritten Hstuffs Htwins Hworn Hcells Hkept Bmarked Kpg Kway Kstate Knext Ksteps Kwritten Kstuffs Ktwins Kworn Kcells Kkept)) sz) 0 0 (va_A ((wW_X7_mark1 ak ad h7 xa ma mk ka Hpg Hway Hstate Hnext Hsteps Hwritten Hstuffs Htwins Hworn Hcells Hkept Bmarked Kpg Kway Kstate Knext Ksteps Kwritten Kstuffs Ktwins Kworn Kcells Kkept)) sz) := by
  refine Met.ofW (cc := cX7_mark) (maxL := 3) (ret := (some .boolean)) (by decide) rfl ?_
  intro p e s m args below meth c s₁ B hml hv
  obtain ⟨rfl, hsz, hP, hE, hD0, hT⟩ := hv
  have hx := B.exec
  have hb := B.bytes
  have hr := B.returns
  have hts := atoms_spec (ws := wsX7_mark) B.pre
  have hown : s.vm.findClass RX7 = some m.cls := findClass_of_methodNamed B.named
  have hlocks := B.notSynchronized
  subst hsz
  have hD := hD0.self (sz := s.heap.size)
  generalize hAe : va_A ((wW_X7_mark1 ak ad h7 xa ma mk ka Hpg Hway Hstate Hnext Hsteps Hwritten Hstuffs Htwins Hworn Hcells Hkept Bmarked Kpg Kway Kstate Knext Ksteps Kwritten Kstuffs Ktwins Kworn Kcells Kkept)) s.heap.size = A at hD hT ⊢
  have hA : ∀ q : Nat, s.heap.size ≤ q → A q := fun q h => by rw [← hAe]; exact Or.inr h
  have hS : va_S A s.heap s.heap [] := va_S.rf
  have hl := lv_entry ([.ref h7, .int (1), .int (xb)]) (n := 3) (Nat.le_of_ble_eq_true rfl)
  rw [lg_entry_eq]
  generalize (lg_sl ([.ref h7, .int (1), .int (xb)]) ++ List.replicate (3 - (lg_sl ([.ref h7, .int (1), .int (xb)])).length) Slot.unset).toArray = ls at hl ⊢
  have hl : lv_has ls 3 [(0, .ref h7), (1, .int (1)), (2, .int (xb))] := hl
  exact kj_X7_mark1_e hx hb hown hts hml hE hT hA (Nat.le_of_ble_eq_true rfl) (Nat.le_of_ble_eq_true rfl) ⟨Nat.le_of_ble_eq_true rfl, Nat.le_of_ble_eq_true rfl⟩ h7 xa ma mk ka xb Φ (fun r Hpg Hway Hstate Hnext Hsteps Hwritten Hstuffs Htwins Hworn Hcells Hkept Bmarked Kpg Kway Kstate Knext Ksteps Kwritten Kstuffs Ktwins Kworn Kcells Kkept H locs ls hz hw hP hD hS => W.zret (v := r) hx hb hr (bl_zn hz) (fun t ht hW => ⟨⟨r, (Hpg, Hway, Hstate, Hnext, Hsteps, Hwritten, Hstuffs, Htwins, Hworn, Hcells, Hkept, Bmarked, Kpg, Kway, Kstate, Knext, Ksteps, Kwritten, Kstuffs, Ktwins, Kworn, Kcells, Kkept), rfl, hw, by rw [ht]; exact hP, by rw [hAe]; exact hD⟩, by rw [hAe]; exact hS.F ht⟩) hS.2.2 dX7_mark_22) (fun r Hpg Hway Hstate Hnext Hsteps Hwritten Hstuffs Htwins Hworn Hcells Hkept Bmarked Kpg Kway Kstate Knext Ksteps Kwritten Kstuffs Ktwins Kworn Kcells Kkept H locs ls hz hw hP hD hS => W.zret (v := r) hx hb hr (bl_zn hz) (fun t ht hW => ⟨⟨r, (Hpg, Hway, Hstate, Hnext, Hsteps, Hwritten, Hstuffs, Htwins, Hworn, Hcells, Hkept, Bmarked, Kpg, Kway, Kstate, Knext, Ksteps, Kwritten, Kstuffs, Ktwins, Kworn, Kcells, Kkept), rfl, hw, by rw [ht]; exact hP, by rw [hAe]; exact hD⟩, by rw [hAe]; exact hS.F ht⟩) hS.2.2 dX7_mark_64) Hpg Hway Hstate Hnext Hsteps Hwritten Hstuffs Htwins Hworn Hcells Hkept Bmarked Kpg Kway Kstate Knext Ksteps Kwritten Kstuffs Ktwins Kworn Kcells Kkept _ _ _ hf hP hD hS hl

def wW_X7_mark2 (ak : Nat → ClassId) (ad : Nat → Nat) (h7 : Nat) (xa : Nat → Nat) (ma : Nat → Nat) (mk : Nat → Nat) (ka : Nat → Nat) (Hpg : Nat) (Hway : Int32) (Hstate : Int32) (Hnext : Int32) (Hsteps : Int32) (Hwritten : Int32) (Hstuffs : Nat → Int32) (Htwins : Nat → Int32) (Hworn : Nat → Int32) (Hcells : Nat → Int32) (Hkept : Nat → Int32) (Bmarked : Nat → Int32) (Kpg : Nat) (Kway : Int32) (Kstate : Int32) (Knext : Int32) (Ksteps : Int32) (Kwritten : Int32) (Kstuffs : Nat → Int32) (Ktwins : Nat → Int32) (Kworn : Nat → Int32) (Kcells : Nat → Int32) (Kkept : Nat → Int32) : va_W := [(h7, .inr (6, wob xa )), ((xa 3), .inr (1, xob ma (Hpg) (Hway) (Hstate) (Hnext) (Hsteps) (Hwritten))), ((ma 0), .inl (ak 0, 16, .inl (Hstuffs))), ((ma 1), .inl (ak 0, 16, .inl (Htwins))), ((ma 2), .inl (ak 0, 16, .inl (Hworn))), ((ma 3), .inl (ak 0, 6, .inl (Hcells))), ((ma 4), .inl (ak 0, 200, .inl (Hkept))), ((xa 6), .inl (ak 5, 4, .inr (.inr (.inr (.inr (mkA mk)))))), ((xa 7), .inl (ak 3, 4, .inl (Bmarked))), ((mk 2), .inr (1, xob ka (Kpg) (Kway) (Kstate) (Knext) (Ksteps) (Kwritten))), ((ka 0), .inl (ak 0, 16, .inl (Kstuffs))), ((ka 1), .inl (ak 0, 16, .inl (Ktwins))), ((ka 2), .inl (ak 0, 16, .inl (Kworn))), ((ka 3), .inl (ak 0, 6, .inl (Kcells))), ((ka 4), .inl (ak 0, 200, .inl (Kkept)))]
def kf_X7_mark2_23 (xb : Int32)  (Φ : Int32 → Nat → Int32 → Int32 → Int32 → Int32 → Int32 → (Nat → Int32) → (Nat → Int32) → (Nat → Int32) → (Nat → Int32) → (Nat → Int32) → (Nat → Int32) → Nat → Int32 → Int32 → Int32 → Int32 → Int32 → (Nat → Int32) → (Nat → Int32) → (Nat → Int32) → (Nat → Int32) → (Nat → Int32) → Prop) (Hpg : Nat) (Hway : Int32) (Hstate : Int32) (Hnext : Int32) (Hsteps : Int32) (Hwritten : Int32) (Hstuffs : Nat → Int32) (Htwins : Nat → Int32) (Hworn : Nat → Int32) (Hcells : Nat → Int32) (Hkept : Nat → Int32) (Bmarked : Nat → Int32) (Kpg : Nat) (Kway : Int32) (Kstate : Int32) (Knext : Int32) (Ksteps : Int32) (Kwritten : Int32) (Kstuffs : Nat → Int32) (Ktwins : Nat → Int32) (Kworn : Nat → Int32) (Kcells : Nat → Int32) (Kkept : Nat → Int32) : Prop := (xb = 0 → wp_X1_copy Hpg Hway Hstate Hnext Hsteps Hwritten Hstuffs Htwins Hworn Hcells Hkept 200 200 Kpg Kway Kstate Knext Ksteps Kwritten Kstuffs Ktwins Kworn Kcells Kkept (fun Mpg_7 Mway_8 Mstate_9 Mnext_10 Msteps_11 Mwritten_12 Mstuffs_13 Mtwins_14 Mworn_15 Mcells_16 Mkept_17 => Φ 1 Hpg Hway Hstate Hnext Hsteps Hwritten Hstuffs Htwins Hworn Hcells Hkept (upd Bmarked 2 (vp_nar .boolean 1)) Mpg_7 Mway_8 Mstate_9 Mnext_10 Msteps_11 Mwritten_12 Mstuffs_13 Mtwins_14 Mworn_15 Mcells_16 Mkept_17)) ∧ (¬ xb = 0 → wp_X1_copy Kpg Kway Kstate Knext Ksteps Kwritten Kstuffs Ktwins Kworn Kcells Kkept 200 200 Hpg Hway Hstate Hnext Hsteps Hwritten Hstuffs Htwins Hworn Hcells Hkept (fun Mpg_20 Mway_21 Mstate_22 Mnext_23 Msteps_24 Mwritten_25 Mstuffs_26 Mtwins_27 Mworn_28 Mcells_29 Mkept_30 => Φ 1 Mpg_20 Mway_21 Mstate_22 Mnext_23 Msteps_24 Mwritten_25 Mstuffs_26 Mtwins_27 Mworn_28 Mcells_29 Mkept_30 Bmarked Kpg Kway Kstate Knext Ksteps Kwritten Kstuffs Ktwins Kworn Kcells Kkept))
set_option maxHeartbeats 4000000 in
set_option maxRecDepth 100000 in
theorem kj_X7_mark2_23 {p : Program} {l : Launch} {e : Env} {R : Room} {s : State} {m : MethodId} {args : Array Value} {below : List Frame} {meth : Method} {c : Code} {cells slots : Nat} {Q : State → Prop} {A : Nat → Prop} {D : va_G} {ak : Nat → ClassId} {ad : Nat → Nat} (hx : p.tables.exec = Jvm.exec) (hb : c.code = cX7_mark) (hown : s.vm.findClass RX7 = some m.cls) (hts : ∀ w ∈ wsX7_mark, w.before args s = true) (hml : c.maxLocals = 3) (hE : EV D ak s) (hT : ST D ak ad A s s.heap) (hA : ∀ q, s.heap.size ≤ q → A q) (hRf : 3 ≤ R.frames) (hRl : 82 ≤ R.locals) (hRc : cells ≤ R.cells ∧ slots ≤ R.slots) (h7 : Nat) (xa : Nat → Nat) (ma : Nat → Nat) (mk : Nat → Nat) (ka : Nat → Nat) (xb : Int32)  (Φ : Int32 → Nat → Int32 → Int32 → Int32 → Int32 → Int32 → (Nat → Int32) → (Nat → Int32) → (Nat → Int32) → (Nat → Int32) → (Nat → Int32) → (Nat → Int32) → Nat → Int32 → Int32 → Int32 → Int32 → Int32 → (Nat → Int32) → (Nat → Int32) → (Nat → Int32) → (Nat → Int32) → (Nat → Int32) → Prop)
    (kR22 : ∀ (r : Int32) (Hpg : Nat) (Hway : Int32) (Hstate : Int32) (Hnext : Int32) (Hsteps : Int32) (Hwritten : Int32) (Hstuffs : Nat → Int32) (Htwins : Nat → Int32) (Hworn : Nat → Int32) (Hcells : Nat → Int32) (Hkept : Nat → Int32) (Bmarked : Nat → Int32) (Kpg : Nat) (Kway : Int32) (Kstate : Int32) (Knext : Int32) (Ksteps : Int32) (Kwritten : Int32) (Kstuffs : Nat → Int32) (Ktwins : Nat → Int32) (Kworn : Nat → Int32) (Kcells : Nat → Int32) (Kkept : Nat → Int32) (H : Heap) (locs : List Loc) (ls : Array Slot), (r = 0 ∨ r = 1) → Φ r Hpg Hway Hstate Hnext Hsteps Hwritten Hstuffs Htwins Hworn Hcells Hkept Bmarked Kpg Kway Kstate Knext Ksteps Kwritten Kstuffs Ktwins Kworn Kcells Kkept → va_P D vwCl (wW_X7_mark2 ak ad h7 xa ma mk ka Hpg Hway Hstate Hnext Hsteps Hwritten Hstuffs Htwins Hworn Hcells Hkept Bmarked Kpg Kway Kstate Knext Ksteps Kwritten Kstuffs Ktwins Kworn Kcells Kkept) H → va_D A (wW_X7_mark2 ak ad h7 xa ma mk ka Hpg Hway Hstate Hnext Hsteps Hwritten Hstuffs Htwins Hworn Hcells Hkept Bmarked Kpg Kway Kstate Knext Ksteps Kwritten Kstuffs Ktwins Kworn Kcells Kkept) → va_S A s.heap H locs → W p l e R s m args below meth c H locs cells slots Q (F0 m 22 ls [.int r]))
    (kR64 : ∀ (r : Int32) (Hpg : Nat) (Hway : Int32) (Hstate : Int32) (Hnext : Int32) (Hsteps : Int32) (Hwritten : Int32) (Hstuffs : Nat → Int32) (Htwins : Nat → Int32) (Hworn : Nat → Int32) (Hcells : Nat → Int32) (Hkept : Nat → Int32) (Bmarked : Nat → Int32) (Kpg : Nat) (Kway : Int32) (Kstate : Int32) (Knext : Int32) (Ksteps : Int32) (Kwritten : Int32) (Kstuffs : Nat → Int32) (Ktwins : Nat → Int32) (Kworn : Nat → Int32) (Kcells : Nat → Int32) (Kkept : Nat → Int32) (H : Heap) (locs : List Loc) (ls : Array Slot), (r = 0 ∨ r = 1) → Φ r Hpg Hway Hstate Hnext Hsteps Hwritten Hstuffs Htwins Hworn Hcells Hkept Bmarked Kpg Kway Kstate Knext Ksteps Kwritten Kstuffs Ktwins Kworn Kcells Kkept → va_P D vwCl (wW_X7_mark2 ak ad h7 xa ma mk ka Hpg Hway Hstate Hnext Hsteps Hwritten Hstuffs Htwins Hworn Hcells Hkept Bmarked Kpg Kway Kstate Knext Ksteps Kwritten Kstuffs Ktwins Kworn Kcells Kkept) H → va_D A (wW_X7_mark2 ak ad h7 xa ma mk ka Hpg Hway Hstate Hnext Hsteps Hwritten Hstuffs Htwins Hworn Hcells Hkept Bmarked Kpg Kway Kstate Knext Ksteps Kwritten Kstuffs Ktwins Kworn Kcells Kkept) → va_S A s.heap H locs → W p l e R s m args below meth c H locs cells slots Q (F0 m 64 ls [.int r]))
    : ∀ (Hpg : Nat) (Hway : Int32) (Hstate : Int32) (Hnext : Int32) (Hsteps : Int32) (Hwritten : Int32) (Hstuffs : Nat → Int32) (Htwins : Nat → Int32) (Hworn : Nat → Int32) (Hcells : Nat → Int32) (Hkept : Nat → Int32) (Bmarked : Nat → Int32) (Kpg : Nat) (Kway : Int32) (Kstate : Int32) (Knext : Int32) (Ksteps : Int32) (Kwritten : Int32) (Kstuffs : Nat → Int32) (Ktwins : Nat → Int32) (Kworn : Nat → Int32) (Kcells : Nat → Int32) (Kkept : Nat → Int32) (H : Heap) (locs : List Loc) (ls : Array Slot), kf_X7_mark2_23 xb  Φ Hpg Hway Hstate Hnext Hsteps Hwritten Hstuffs Htwins Hworn Hcells Hkept Bmarked Kpg Kway Kstate Knext Ksteps Kwritten Kstuffs Ktwins Kworn Kcells Kkept → va_P D vwCl (wW_X7_mark2 ak ad h7 xa ma mk ka Hpg Hway Hstate Hnext Hsteps Hwritten Hstuffs Htwins Hworn Hcells Hkept Bmarked Kpg Kway Kstate Knext Ksteps Kwritten Kstuffs Ktwins Kworn Kcells Kkept) H → va_D A (wW_X7_mark2 ak ad h7 xa ma mk ka Hpg Hway Hstate Hnext Hsteps Hwritten Hstuffs Htwins Hworn Hcells Hkept Bmarked Kpg Kway Kstate Knext Ksteps Kwritten Kstuffs Ktwins Kworn Kcells Kkept) → va_S A s.heap H locs → lv_has ls 3 [(0, .ref h7), (1, .int (2)), (2, .int (xb))] → W p l e R s m args below meth c H locs cells slots Q (F0 m 23 ls ([])) := by
  intro Hpg Hway Hstate Hnext Hsteps Hwritten Hstuffs Htwins Hworn Hcells Hkept Bmarked Kpg Kway Kstate Knext Ksteps Kwritten Kstuffs Ktwins Kworn Kcells Kkept H locs ls hw hP hD hS hl
  delta kf_X7_mark2_23 at hw
  refine lv_iload_n hx hb dX7_mark_23 rfl (lv_at hl 2 rfl) ?_
  refine lv_if_eq (tgt := 43) hx hb dX7_mark_24 (by decide) (fun c_5 => ?_) (fun c_5 => ?_)
  · replace hw := hw.1 c_5
    refine lv_aload_n hx hb dX7_mark_43 rfl (lv_at hl 0 rfl) ?_
    refine vt_get (D := D) (ci := 6) (v := .ref (xa 6)) (C := RX7) (T := TX7) (N := 10) hx hb hts (fun w h => wm_c (wc_X7 w h)) hown hE.1 hP 0 rfl rfl 6 (by decide) tX7_6 (hts (.fieldLink RX7 47 "WornLines" "marks" "[LWornLines$Machine;") (wm_c hw_601)) (fun _ h9 => h9) rfl dX7_mark_44 ?_
    refine lv_iload_n hx hb dX7_mark_47 rfl (lv_at hl 1 rfl) ?_
    refine va_aldq hx hb hE.1 hP 7 5 rfl rfl (by unfold vp_in; decide) dX7_mark_48 ?_
    refine W.eq (g2 := F0 m 49 ls (.ref (mk 2) :: [])) rfl ?_
    refine lv_aload_n hx hb dX7_mark_49 rfl (lv_at hl 0 rfl) ?_
    refine vt_get (D := D) (ci := 6) (v := .ref (xa 3)) (C := RX7) (T := TX7) (N := 10) hx hb hts (fun w h => wm_c (wc_X7 w h)) hown hE.1 hP 0 rfl rfl 3 (by decide) tX7_3 (hts (.fieldLink RX7 37 "WornLines" "hand" "LWornLines$Machine;") (wm_c hw_540)) (fun _ h9 => h9) rfl dX7_mark_50 ?_
    refine kc_v (wc := (wW_X1_copy ak ad (mk 2) ka (xa 3) ma 200 200 Kpg Kway Kstate Knext Ksteps Kwritten Kstuffs Ktwins Kworn Kcells Kkept Hpg Hway Hstate Hnext Hsteps Hwritten Hstuffs Htwins Hworn Hcells Hkept)) (wr := [(h7, .inr (6, wob xa )), ((xa 6), .inl (ak 5, 4, .inr (.inr (.inr (.inr (mkA mk)))))), ((xa 7), .inl (ak 3, 4, .inl (Bmarked)))]) hP hD hS hA [9, 10, 11, 12, 13, 14, 1, 2, 3, 4, 5, 6] [0, 7, 8] rfl rfl (by decide) (by decide) (va_runV (As := [.ref (xa 3)]) (rest := []) ⟨hx, hb, hml, hown, hts⟩ (c_X1_copy l D ak ad _ (mk 2) ka (xa 3) ma 200 200 Kpg Kway Kstate Knext Ksteps Kwritten Kstuffs Ktwins Kworn Kcells Kkept Hpg Hway Hstate Hnext Hsteps Hwritten Hstuffs Htwins Hworn Hcells Hkept _ hw) (cwV 1 hts gX7_mark_X1_copy rfl rfl rfl hv_X1_copy ⟨(Nat.le_trans (Nat.le_of_ble_eq_true rfl) hRf), (Nat.le_trans (Nat.le_of_ble_eq_true rfl) hRl)⟩) (kc_preV (As := [.ref (xa 3)]) (wc := (wW_X1_copy ak ad (mk 2) ka (xa 3) ma 200 200 Kpg Kway Kstate Knext Ksteps Kwritten Kstuffs Ktwins Kworn Kcells Kkept Hpg Hway Hstate Hnext Hsteps Hwritten Hstuffs Htwins Hworn Hcells Hkept)) hE hT hP hD hS hA [9, 10, 11, 12, 13, 14, 1, 2, 3, 4, 5, 6] (by decide) rfl rfl 9 1 rfl rfl rfl) rfl rfl hl.1 rfl (lv_room (Nat.le_of_ble_eq_true rfl)) dX7_mark_53 ⟨hRc.1, hRc.2⟩) (fun u_6 H locs hw hP hD hS => ?_)
    obtain ⟨Mpg_7, Mway_8, Mstate_9, Mnext_10, Msteps_11, Mwritten_12, Mstuffs_13, Mtwins_14, Mworn_15, Mcells_16, Mkept_17⟩ := u_6
    try dsimp -zeta only at hw
    have hP : va_P D vwCl (wW_X7_mark2 ak ad h7 xa ma mk ka Hpg Hway Hstate Hnext Hsteps Hwritten Hstuffs Htwins Hworn Hcells Hkept Bmarked Mpg_7 Mway_8 Mstate_9 Mnext_10 Msteps_11 Mwritten_12 Mstuffs_13 Mtwins_14 Mworn_15 Mcells_16 Mkept_17) H := hP.sub [0, 9, 10, 11, 12, 13, 14, 1, 2, 3, 4, 5, 6, 7, 8] rfl
    have hD : va_D A (wW_X7_mark2 ak ad h7 xa ma mk ka Hpg Hway Hstate Hnext Hsteps Hwritten Hstuffs Htwins Hworn Hcells Hkept Bmarked Mpg_7 Mway_8 Mstate_9 Mnext_10 Msteps_11 Mwritten_12 Mstuffs_13 Mtwins_14 Mworn_15 Mcells_16 Mkept_17) := hD.sub [0, 9, 10, 11, 12, 13, 14, 1, 2, 3, 4, 5, 6, 7, 8] (by decide) rfl
    refine lv_aload_n hx hb dX7_mark_56 rfl (lv_at hl 0 rfl) ?_
    refine vt_get (D := D) (ci := 6) (v := .ref (xa 7)) (C := RX7) (T := TX7) (N := 10) hx hb hts (fun w h => wm_c (wc_X7 w h)) hown hE.1 hP 0 rfl rfl 7 (by decide) tX7_7 (hts (.fieldLink RX7 51 "WornLines" "marked" "[Z") (wm_c hw_602)) (fun _ h9 => h9) rfl dX7_mark_57 ?_
    refine lv_iload_n hx hb dX7_mark_60 rfl (lv_at hl 1 rfl) ?_
    refine lv_iconst (v := 1) hx hb dX7_mark_61 (by decide) ?_
    refine va_zast hx hb hE.1 hP hD hS 8 3 rfl rfl (by unfold vp_in; decide) dX7_mark_62 (fun H locs hP hD hS => ?_)
    have hP : va_P D vwCl (wW_X7_mark2 ak ad h7 xa ma mk ka Hpg Hway Hstate Hnext Hsteps Hwritten Hstuffs Htwins Hworn Hcells Hkept (upd Bmarked 2 (vp_nar .boolean 1)) Mpg_7 Mway_8 Mstate_9 Mnext_10 Msteps_11 Mwritten_12 Mstuffs_13 Mtwins_14 Mworn_15 Mcells_16 Mkept_17) H := hP
    have hD : va_D A (wW_X7_mark2 ak ad h7 xa ma mk ka Hpg Hway Hstate Hnext Hsteps Hwritten Hstuffs Htwins Hworn Hcells Hkept (upd Bmarked 2 (vp_nar .boolean 1)) Mpg_7 Mway_8 Mstate_9 Mnext_10 Msteps_11 Mwritten_12 Mstuffs_13 Mtwins_14 Mworn_15 Mcells_16 Mkept_17) := hD
    refine lv_iconst (v := 1) hx hb dX7_mark_63 (by decide) ?_
    exact kR64 1 Hpg Hway Hstate Hnext Hsteps Hwritten Hstuffs Htwins Hworn Hcells Hkept (upd Bmarked 2 (vp_nar .boolean 1)) Mpg_7 Mway_8 Mstate_9 Mnext_10 Msteps_11 Mwritten_12 Mstuffs_13 Mtwins_14 Mworn_15 Mcells_16 Mkept_17 _ _ _ (Or.inr rfl) hw hP hD hS
  · replace hw := hw.2 c_5
    refine lv_aload_n hx hb dX7_mark_27 rfl (lv_at hl 0 rfl) ?_
    refine vt_get (D := D) (ci := 6) (v := .ref (xa 3)) (C := RX7) (T := TX7) (N := 10) hx hb hts (fun w h => wm_c (wc_X7 w h)) hown hE.1 hP 0 rfl rfl 3 (by decide) tX7_3 (hts (.fieldLink RX7 37 "WornLines" "hand" "LWornLines$Machine;") (wm_c hw_540)) (fun _ h9 => h9) rfl dX7_mark_28 ?_
    refine lv_aload_n hx hb dX7_mark_31 rfl (lv_at hl 0 rfl) ?_
    refine vt_get (D := D) (ci := 6) (v := .ref (xa 6)) (C := RX7) (T := TX7) (N := 10) hx hb hts (fun w h => wm_c (wc_X7 w h)) hown hE.1 hP 0 rfl rfl 6 (by decide) tX7_6 (hts (.fieldLink RX7 47 "WornLines" "marks" "[LWornLines$Machine;") (wm_c hw_601)) (fun _ h9 => h9) rfl dX7_mark_32 ?_
    refine lv_iload_n hx hb dX7_mark_35 rfl (lv_at hl 1 rfl) ?_
    refine va_aldq hx hb hE.1 hP 7 5 rfl rfl (by unfold vp_in; decide) dX7_mark_36 ?_
    refine W.eq (g2 := F0 m 37 ls (.ref (mk 2) :: .ref (xa 3) :: [])) rfl ?_
    refine kc_v (wc := (wW_X1_copy ak ad (xa 3) ma (mk 2) ka 200 200 Hpg Hway Hstate Hnext Hsteps Hwritten Hstuffs Htwins Hworn Hcells Hkept Kpg Kway Kstate Knext Ksteps Kwritten Kstuffs Ktwins Kworn Kcells Kkept)) (wr := [(h7, .inr (6, wob xa )), ((xa 6), .inl (ak 5, 4, .inr (.inr (.inr (.inr (mkA mk)))))), ((xa 7), .inl (ak 3, 4, .inl (Bmarked)))]) hP hD hS hA [1, 2, 3, 4, 5, 6, 9, 10, 11, 12, 13, 14] [0, 7, 8] rfl rfl (by decide) (by decide) (va_runV (As := [.ref (mk 2)]) (rest := []) ⟨hx, hb, hml, hown, hts⟩ (c_X1_copy l D ak ad _ (xa 3) ma (mk 2) ka 200 200 Hpg Hway Hstate Hnext Hsteps Hwritten Hstuffs Htwins Hworn Hcells Hkept Kpg Kway Kstate Knext Ksteps Kwritten Kstuffs Ktwins Kworn Kcells Kkept _ hw) (cwV 1 hts gX7_mark_X1_copy rfl rfl rfl hv_X1_copy ⟨(Nat.le_trans (Nat.le_of_ble_eq_true rfl) hRf), (Nat.le_trans (Nat.le_of_ble_eq_true rfl) hRl)⟩) (kc_preV (As := [.ref (mk 2)]) (wc := (wW_X1_copy ak ad (xa 3) ma (mk 2) ka 200 200 Hpg Hway Hstate Hnext Hsteps Hwritten Hstuffs Htwins Hworn Hcells Hkept Kpg Kway Kstate Knext Ksteps Kwritten Kstuffs Ktwins Kworn Kcells Kkept)) hE hT hP hD hS hA [1, 2, 3, 4, 5, 6, 9, 10, 11, 12, 13, 14] (by decide) rfl rfl 1 1 rfl rfl rfl) rfl rfl hl.1 rfl (lv_room (Nat.le_of_ble_eq_true rfl)) dX7_mark_37 ⟨hRc.1, hRc.2⟩) (fun u_19 H locs hw hP hD hS => ?_)
    obtain ⟨Mpg_20, Mway_21, Mstate_22, Mnext_23, Msteps_24, Mwritten_25, Mstuffs_26, Mtwins_27, Mworn_28, Mcells_29, Mkept_30⟩ := u_19
    try dsimp -zeta only at hw
    have hP : va_P D vwCl (wW_X7_mark2 ak ad h7 xa ma mk ka Mpg_20 Mway_21 Mstate_22 Mnext_23 Msteps_24 Mwritten_25 Mstuffs_26 Mtwins_27 Mworn_28 Mcells_29 Mkept_30 Bmarked Kpg Kway Kstate Knext Ksteps Kwritten Kstuffs Ktwins Kworn Kcells Kkept) H := hP.sub [0, 3, 4, 5, 6, 7, 8, 1, 2, 9, 10, 11, 12, 13, 14] rfl
    have hD : va_D A (wW_X7_mark2 ak ad h7 xa ma mk ka Mpg_20 Mway_21 Mstate_22 Mnext_23 Msteps_24 Mwritten_25 Mstuffs_26 Mtwins_27 Mworn_28 Mcells_29 Mkept_30 Bmarked Kpg Kway Kstate Knext Ksteps Kwritten Kstuffs Ktwins Kworn Kcells Kkept) := hD.sub [0, 3, 4, 5, 6, 7, 8, 1, 2, 9, 10, 11, 12, 13, 14] (by decide) rfl
    refine lv_goto (tgt := 63) hx hb dX7_mark_40 (by decide) ?_
    refine lv_iconst (v := 1) hx hb dX7_mark_63 (by decide) ?_
    exact kR64 1 Mpg_20 Mway_21 Mstate_22 Mnext_23 Msteps_24 Mwritten_25 Mstuffs_26 Mtwins_27 Mworn_28 Mcells_29 Mkept_30 Bmarked Kpg Kway Kstate Knext Ksteps Kwritten Kstuffs Ktwins Kworn Kcells Kkept _ _ _ (Or.inr rfl) hw hP hD hS

def wp_X7_mark2 (xb : Int32) (Hpg : Nat) (Hway : Int32) (Hstate : Int32) (Hnext : Int32) (Hsteps : Int32) (Hwritten : Int32) (Hstuffs : Nat → Int32) (Htwins : Nat → Int32) (Hworn : Nat → Int32) (Hcells : Nat → Int32) (Hkept : Nat → Int32) (Bmarked : Nat → Int32) (Kpg : Nat) (Kway : Int32) (Kstate : Int32) (Knext : Int32) (Ksteps : Int32) (Kwritten : Int32) (Kstuffs : Nat → Int32) (Ktwins : Nat → Int32) (Kworn : Nat → Int32) (Kcells : Nat → Int32) (Kkept : Nat → Int32) (Φ : Int32 → Nat → Int32 → Int32 → Int32 → Int32 → Int32 → (Nat → Int32) → (Nat → Int32) → (Nat → Int32) → (Nat → Int32) → (Nat → Int32) → (Nat → Int32) → Nat → Int32 → Int32 → Int32 → Int32 → Int32 → (Nat → Int32) → (Nat → Int32) → (Nat → Int32) → (Nat → Int32) → (Nat → Int32) → Prop) : Prop := wp_X7_within 2 4 (fun r_2 => (r_2 = 0 → Φ 0 Hpg Hway Hstate Hnext Hsteps Hwritten Hstuffs Htwins Hworn Hcells Hkept Bmarked Kpg Kway Kstate Knext Ksteps Kwritten Kstuffs Ktwins Kworn Kcells Kkept) ∧ (¬ r_2 = 0 → (xb = 0 → kf_X7_mark2_23 xb  Φ Hpg Hway Hstate Hnext Hsteps Hwritten Hstuffs Htwins Hworn Hcells Hkept Bmarked Kpg Kway Kstate Knext Ksteps Kwritten Kstuffs Ktwins Kworn Kcells Kkept) ∧ (¬ xb = 0 → (¬ (Bmarked 2) = 0 → kf_X7_mark2_23 xb  Φ Hpg Hway Hstate Hnext Hsteps Hwritten Hstuffs Htwins Hworn Hcells Hkept Bmarked Kpg Kway Kstate Knext Ksteps Kwritten Kstuffs Ktwins Kworn Kcells Kkept) ∧ ((Bmarked 2) = 0 → Φ 0 Hpg Hway Hstate Hnext Hsteps Hwritten Hstuffs Htwins Hworn Hcells Hkept Bmarked Kpg Kway Kstate Knext Ksteps Kwritten Kstuffs Ktwins Kworn Kcells Kkept))))
set_option maxHeartbeats 4000000 in
set_option maxRecDepth 100000 in
theorem kj_X7_mark2_e {p : Program} {l : Launch} {e : Env} {R : Room} {s : State} {m : MethodId} {args : Array Value} {below : List Frame} {meth : Method} {c : Code} {cells slots : Nat} {Q : State → Prop} {A : Nat → Prop} {D : va_G} {ak : Nat → ClassId} {ad : Nat → Nat} (hx : p.tables.exec = Jvm.exec) (hb : c.code = cX7_mark) (hown : s.vm.findClass RX7 = some m.cls) (hts : ∀ w ∈ wsX7_mark, w.before args s = true) (hml : c.maxLocals = 3) (hE : EV D ak s) (hT : ST D ak ad A s s.heap) (hA : ∀ q, s.heap.size ≤ q → A q) (hRf : 3 ≤ R.frames) (hRl : 82 ≤ R.locals) (hRc : cells ≤ R.cells ∧ slots ≤ R.slots) (h7 : Nat) (xa : Nat → Nat) (ma : Nat → Nat) (mk : Nat → Nat) (ka : Nat → Nat) (xb : Int32)  (Φ : Int32 → Nat → Int32 → Int32 → Int32 → Int32 → Int32 → (Nat → Int32) → (Nat → Int32) → (Nat → Int32) → (Nat → Int32) → (Nat → Int32) → (Nat → Int32) → Nat → Int32 → Int32 → Int32 → Int32 → Int32 → (Nat → Int32) → (Nat → Int32) → (Nat → Int32) → (Nat → Int32) → (Nat → Int32) → Prop)
    (kR22 : ∀ (r : Int32) (Hpg : Nat) (Hway : Int32) (Hstate : Int32) (Hnext : Int32) (Hsteps : Int32) (Hwritten : Int32) (Hstuffs : Nat → Int32) (Htwins : Nat → Int32) (Hworn : Nat → Int32) (Hcells : Nat → Int32) (Hkept : Nat → Int32) (Bmarked : Nat → Int32) (Kpg : Nat) (Kway : Int32) (Kstate : Int32) (Knext : Int32) (Ksteps : Int32) (Kwritten : Int32) (Kstuffs : Nat → Int32) (Ktwins : Nat → Int32) (Kworn : Nat → Int32) (Kcells : Nat → Int32) (Kkept : Nat → Int32) (H : Heap) (locs : List Loc) (ls : Array Slot), (r = 0 ∨ r = 1) → Φ r Hpg Hway Hstate Hnext Hsteps Hwritten Hstuffs Htwins Hworn Hcells Hkept Bmarked Kpg Kway Kstate Knext Ksteps Kwritten Kstuffs Ktwins Kworn Kcells Kkept → va_P D vwCl (wW_X7_mark2 ak ad h7 xa ma mk ka Hpg Hway Hstate Hnext Hsteps Hwritten Hstuffs Htwins Hworn Hcells Hkept Bmarked Kpg Kway Kstate Knext Ksteps Kwritten Kstuffs Ktwins Kworn Kcells Kkept) H → va_D A (wW_X7_mark2 ak ad h7 xa ma mk ka Hpg Hway Hstate Hnext Hsteps Hwritten Hstuffs Htwins Hworn Hcells Hkept Bmarked Kpg Kway Kstate Knext Ksteps Kwritten Kstuffs Ktwins Kworn Kcells Kkept) → va_S A s.heap H locs → W p l e R s m args below meth c H locs cells slots Q (F0 m 22 ls [.int r]))
    (kR64 : ∀ (r : Int32) (Hpg : Nat) (Hway : Int32) (Hstate : Int32) (Hnext : Int32) (Hsteps : Int32) (Hwritten : Int32) (Hstuffs : Nat → Int32) (Htwins : Nat → Int32) (Hworn : Nat → Int32) (Hcells : Nat → Int32) (Hkept : Nat → Int32) (Bmarked : Nat → Int32) (Kpg : Nat) (Kway : Int32) (Kstate : Int32) (Knext : Int32) (Ksteps : Int32) (Kwritten : Int32) (Kstuffs : Nat → Int32) (Ktwins : Nat → Int32) (Kworn : Nat → Int32) (Kcells : Nat → Int32) (Kkept : Nat → Int32) (H : Heap) (locs : List Loc) (ls : Array Slot), (r = 0 ∨ r = 1) → Φ r Hpg Hway Hstate Hnext Hsteps Hwritten Hstuffs Htwins Hworn Hcells Hkept Bmarked Kpg Kway Kstate Knext Ksteps Kwritten Kstuffs Ktwins Kworn Kcells Kkept → va_P D vwCl (wW_X7_mark2 ak ad h7 xa ma mk ka Hpg Hway Hstate Hnext Hsteps Hwritten Hstuffs Htwins Hworn Hcells Hkept Bmarked Kpg Kway Kstate Knext Ksteps Kwritten Kstuffs Ktwins Kworn Kcells Kkept) H → va_D A (wW_X7_mark2 ak ad h7 xa ma mk ka Hpg Hway Hstate Hnext Hsteps Hwritten Hstuffs Htwins Hworn Hcells Hkept Bmarked Kpg Kway Kstate Knext Ksteps Kwritten Kstuffs Ktwins Kworn Kcells Kkept) → va_S A s.heap H locs → W p l e R s m args below meth c H locs cells slots Q (F0 m 64 ls [.int r]))
    : ∀ (Hpg : Nat) (Hway : Int32) (Hstate : Int32) (Hnext : Int32) (Hsteps : Int32) (Hwritten : Int32) (Hstuffs : Nat → Int32) (Htwins : Nat → Int32) (Hworn : Nat → Int32) (Hcells : Nat → Int32) (Hkept : Nat → Int32) (Bmarked : Nat → Int32) (Kpg : Nat) (Kway : Int32) (Kstate : Int32) (Knext : Int32) (Ksteps : Int32) (Kwritten : Int32) (Kstuffs : Nat → Int32) (Ktwins : Nat → Int32) (Kworn : Nat → Int32) (Kcells : Nat → Int32) (Kkept : Nat → Int32) (H : Heap) (locs : List Loc) (ls : Array Slot), wp_X7_mark2 xb Hpg Hway Hstate Hnext Hsteps Hwritten Hstuffs Htwins Hworn Hcells Hkept Bmarked Kpg Kway Kstate Knext Ksteps Kwritten Kstuffs Ktwins Kworn Kcells Kkept Φ → va_P D vwCl (wW_X7_mark2 ak ad h7 xa ma mk ka Hpg Hway Hstate Hnext Hsteps Hwritten Hstuffs Htwins Hworn Hcells Hkept Bmarked Kpg Kway Kstate Knext Ksteps Kwritten Kstuffs Ktwins Kworn Kcells Kkept) H → va_D A (wW_X7_mark2 ak ad h7 xa ma mk ka Hpg Hway Hstate Hnext Hsteps Hwritten Hstuffs Htwins Hworn Hcells Hkept Bmarked Kpg Kway Kstate Knext Ksteps Kwritten Kstuffs Ktwins Kworn Kcells Kkept) → va_S A s.heap H locs → lv_has ls 3 [(0, .ref h7), (1, .int (2)), (2, .int (xb))] → W p l e R s m args below meth c H locs cells slots Q (F0 m 0 ls ([])) := by
  intro Hpg Hway Hstate Hnext Hsteps Hwritten Hstuffs Htwins Hworn Hcells Hkept Bmarked Kpg Kway Kstate Knext Ksteps Kwritten Kstuffs Ktwins Kworn Kcells Kkept H locs ls hw hP hD hS hl
  delta wp_X7_mark2 at hw
  refine lv_iload_n hx hb dX7_mark_0 rfl (lv_at hl 1 rfl) ?_
  refine lv_iconst (v := 4) hx hb dX7_mark_1 (by decide) ?_
  refine kc_i (wc := []) (wr := [(h7, .inr (6, wob xa )), ((xa 3), .inr (1, xob ma (Hpg) (Hway) (Hstate) (Hnext) (Hsteps) (Hwritten))), ((ma 0), .inl (ak 0, 16, .inl (Hstuffs))), ((ma 1), .inl (ak 0, 16, .inl (Htwins))), ((ma 2), .inl (ak 0, 16, .inl (Hworn))), ((ma 3), .inl (ak 0, 6, .inl (Hcells))), ((ma 4), .inl (ak 0, 200, .inl (Hkept))), ((xa 6), .inl (ak 5, 4, .inr (.inr (.inr (.inr (mkA mk)))))), ((xa 7), .inl (ak 3, 4, .inl (Bmarked))), ((mk 2), .inr (1, xob ka (Kpg) (Kway) (Kstate) (Knext) (Ksteps) (Kwritten))), ((ka 0), .inl (ak 0, 16, .inl (Kstuffs))), ((ka 1), .inl (ak 0, 16, .inl (Ktwins))), ((ka 2), .inl (ak 0, 16, .inl (Kworn))), ((ka 3), .inl (ak 0, 6, .inl (Kcells))), ((ka 4), .inl (ak 0, 200, .inl (Kkept)))]) hP hD hS hA [] [0, 1, 2, 3, 4, 5, 6, 7, 8, 9, 10, 11, 12, 13, 14] rfl rfl (by decide) (by decide) (va_runS (As := [.int (2), .int (4)]) (rest := []) ⟨hx, hb, hml, hown, hts⟩ (c_X7_within l D ak ad _ 2 4 _ hw) (va_cwS 2 hts gX7_mark_X7_within rfl rfl rfl hz_X7_within ⟨(Nat.le_trans (Nat.le_of_ble_eq_true rfl) hRf), (Nat.le_trans (Nat.le_of_ble_eq_true rfl) hRl)⟩) (kc_pre (As := [.int (2), .int (4)]) (wc := []) hE hT hP hD hS hA [] (by decide) rfl rfl) rfl rfl hl.1 rfl (lv_room (Nat.le_of_ble_eq_true rfl)) dX7_mark_2 ⟨hRc.1, hRc.2⟩) (fun r_2 u_1 H locs hw hP hD hS => ?_)
  try dsimp -zeta only at hw
  have hP : va_P D vwCl (wW_X7_mark2 ak ad h7 xa ma mk ka Hpg Hway Hstate Hnext Hsteps Hwritten Hstuffs Htwins Hworn Hcells Hkept Bmarked Kpg Kway Kstate Knext Ksteps Kwritten Kstuffs Ktwins Kworn Kcells Kkept) H := hP.sub [0, 1, 2, 3, 4, 5, 6, 7, 8, 9, 10, 11, 12, 13, 14] rfl
  have hD : va_D A (wW_X7_mark2 ak ad h7 xa ma mk ka Hpg Hway Hstate Hnext Hsteps Hwritten Hstuffs Htwins Hworn Hcells Hkept Bmarked Kpg Kway Kstate Knext Ksteps Kwritten Kstuffs Ktwins Kworn Kcells Kkept) := hD.sub [0, 1, 2, 3, 4, 5, 6, 7, 8, 9, 10, 11, 12, 13, 14] (by decide) rfl
  refine lv_if_eq (tgt := 21) hx hb dX7_mark_5 (by decide) (fun c_3 => ?_) (fun c_3 => ?_)
  · replace hw := hw.1 c_3
    refine lv_iconst (v := 0) hx hb dX7_mark_21 (by decide) ?_
    exact kR22 0 Hpg Hway Hstate Hnext Hsteps Hwritten Hstuffs Htwins Hworn Hcells Hkept Bmarked Kpg Kway Kstate Knext Ksteps Kwritten Kstuffs Ktwins Kworn Kcells Kkept _ _ _ (Or.inl rfl) hw hP hD hS
  · replace hw := hw.2 c_3
    refine lv_iload_n hx hb dX7_mark_8 rfl (lv_at hl 2 rfl) ?_
    refine lv_if_eq (tgt := 23) hx hb dX7_mark_9 (by decide) (fun c_4 => ?_) (fun c_4 => ?_)
    · replace hw := hw.1 c_4
      exact kj_X7_mark2_23 hx hb hown hts hml hE hT hA hRf hRl hRc h7 xa ma mk ka xb  Φ  kR22 kR64 Hpg Hway Hstate Hnext Hsteps Hwritten Hstuffs Htwins Hworn Hcells Hkept Bmarked Kpg Kway Kstate Knext Ksteps Kwritten Kstuffs Ktwins Kworn Kcells Kkept _ _ _ hw hP hD hS (lv_sub hl [0, 1, 2] rfl)
    · replace hw := hw.2 c_4
      refine lv_aload_n hx hb dX7_mark_12 rfl (lv_at hl 0 rfl) ?_
      refine vt_get (D := D) (ci := 6) (v := .ref (xa 7)) (C := RX7) (T := TX7) (N := 10) hx hb hts (fun w h => wm_c (wc_X7 w h)) hown hE.1 hP 0 rfl rfl 7 (by decide) tX7_7 (hts (.fieldLink RX7 51 "WornLines" "marked" "[Z") (wm_c hw_602)) (fun _ h9 => h9) rfl dX7_mark_13 ?_
      refine lv_iload_n hx hb dX7_mark_16 rfl (lv_at hl 1 rfl) ?_
      refine va_zald hx hb hE.1 hP 8 3 rfl rfl (by unfold vp_in; decide) dX7_mark_17 ?_
      refine W.eq (g2 := F0 m 18 ls (.int (Bmarked 2) :: [])) rfl ?_
      refine lv_if_ne (tgt := 23) hx hb dX7_mark_18 (by decide) (fun c_32 => ?_) (fun c_32 => ?_)
      · replace hw := hw.1 c_32
        exact kj_X7_mark2_23 hx hb hown hts hml hE hT hA hRf hRl hRc h7 xa ma mk ka xb  Φ  kR22 kR64 Hpg Hway Hstate Hnext Hsteps Hwritten Hstuffs Htwins Hworn Hcells Hkept Bmarked Kpg Kway Kstate Knext Ksteps Kwritten Kstuffs Ktwins Kworn Kcells Kkept _ _ _ hw hP hD hS (lv_sub hl [0, 1, 2] rfl)
      · replace hw := hw.2 c_32
        refine lv_iconst (v := 0) hx hb dX7_mark_21 (by decide) ?_
        exact kR22 0 Hpg Hway Hstate Hnext Hsteps Hwritten Hstuffs Htwins Hworn Hcells Hkept Bmarked Kpg Kway Kstate Knext Ksteps Kwritten Kstuffs Ktwins Kworn Kcells Kkept _ _ _ (Or.inl rfl) hw hP hD hS
set_option maxHeartbeats 4000000 in
set_option maxRecDepth 100000 in
theorem c_X7_mark2 (l : Launch) (D : va_G) (ak : Nat → ClassId) (ad : Nat → Nat) (sz : Nat) (h7 : Nat) (xa : Nat → Nat) (ma : Nat → Nat) (mk : Nat → Nat) (ka : Nat → Nat) (Hpg : Nat) (Hway : Int32) (Hstate : Int32) (Hnext : Int32) (Hsteps : Int32) (Hwritten : Int32) (Hstuffs : Nat → Int32) (Htwins : Nat → Int32) (Hworn : Nat → Int32) (Hcells : Nat → Int32) (Hkept : Nat → Int32) (Bmarked : Nat → Int32) (Kpg : Nat) (Kway : Int32) (Kstate : Int32) (Knext : Int32) (Ksteps : Int32) (Kwritten : Int32) (Kstuffs : Nat → Int32) (Ktwins : Nat → Int32) (Kworn : Nat → Int32) (Kcells : Nat → Int32) (Kkept : Nat → Int32) (xb : Int32) (Φ : Int32 → Nat → Int32 → Int32 → Int32 → Int32 → Int32 → (Nat → Int32) → (Nat → Int32) → (Nat → Int32) → (Nat → Int32) → (Nat → Int32) → (Nat → Int32) → Nat → Int32 → Int32 → Int32 → Int32 → Int32 → (Nat → Int32) → (Nat → Int32) → (Nat → Int32) → (Nat → Int32) → (Nat → Int32) → Prop) (hf : wp_X7_mark2 xb Hpg Hway Hstate Hnext Hsteps Hwritten Hstuffs Htwins Hworn Hcells Hkept Bmarked Kpg Kway Kstate Knext Ksteps Kwritten Kstuffs Ktwins Kworn Kcells Kkept Φ) : Met l yX7_mark wsX7_mark ({ frames := 3, cells := 0, slots := 0, locals := 82 }) (cPre D ak ad [.ref h7, .int (2), .int (xb)] ((wW_X7_mark2 ak ad h7 xa ma mk ka Hpg Hway Hstate Hnext Hsteps Hwritten Hstuffs Htwins Hworn Hcells Hkept Bmarked Kpg Kway Kstate Knext Ksteps Kwritten Kstuffs Ktwins Kworn Kcells Kkept)) sz) (cI D (S := (Nat) × (Int32) × (Int32) × (Int32) × (Int32) × (Int32) × (Nat → Int32) × (Nat → Int32) × (Nat → Int32) × (Nat → Int32) × (Nat → Int32) × (Nat → Int32) × (Nat) × (Int32) × (Int32) × (Int32) × (Int32) × (Int32) × (Nat → Int32) × (Nat → Int32) × (Nat → Int32) × (Nat → Int32) × (Nat → Int32)) (fun (r : Int32) (u : (Nat) × (Int32) × (Int32) × (Int32) × (Int32) × (Int32) × (Nat → Int32) × (Nat → Int32) × (Nat → Int32) × (Nat → Int32) × (Nat → Int32) × (Nat → Int32) × (Nat) × (Int32) × (Int32) × (Int32) × (Int32) × (Int32) × (Nat → Int32) × (Nat → Int32) × (Nat → Int32) × (Nat → Int32) × (Nat → Int32)) => Φ r u.1 u.2.1 u.2.2.1 u.2.2.2.1 u.2.2.2.2.1 u.2.2.2.2.2.1 u.2.2.2.2.2.2.1 u.2.2.2.2.2.2.2.1 u.2.2.2.2.2.2.2.2.1 u.2.2.2.2.2.2.2.2.2.1 u.2.2.2.2.2.2.2.2.2.2.1 u.2.2.2.2.2.2.2.2.2.2.2.1 u.2.2.2.2.2.2.2.2.2.2.2.2.1 u.2.2.2.2.2.2.2.2.2.2.2.2.2.1 u.2.2.2.2.2.2.2.2.2.2.2.2.2.2.1 u.2.2.2.2.2.2.2.2.2.2.2.2.2.2.2.1 u.2.2.2.2.2.2.2.2.2.2.2.2.2.2.2.2.1 u.2.2.2.2.2.2.2.2.2.2.2.2.2.2.2.2.2.1 u.2.2.2.2.2.2.2.2.2.2.2.2.2.2.2.2.2.2.1 u.2.2.2.2.2.2.2.2.2.2.2.2.2.2.2.2.2.2.2.1 u.2.2.2.2.2.2.2.2.2.2.2.2.2.2.2.2.2.2.2.2.1 u.2.2.2.2.2.2.2.2.2.2.2.2.2.2.2.2.2.2.2.2.2.1 u.2.2.2.2.2.2.2.2.2.2.2.2.2.2.2.2.2.2.2.2.2.2) (fun u => (wW_X7_mark2 ak ad h7 xa ma mk ka u.1 u.2.1 u.2.2.1 u.2.2.2.1 u.2.2.2.2.1 u.2.2.2.2.2.1 u.2.2.2.2.2.2.1 u.2.2.2.2.2.2.2.1 u.2.2.2.2.2.2.2.2.1 u.2.2.2.2.2.2.2.2.2.1 u.2.2.2.2.2.2.2.2.2.2.1 u.2.2.2.2.2.2.2.2.2.2.2.1 u.2.2.2.2.2.2.2.2.2.2.2.2.1 u.2.2.2.2.2.2.2.2.2.2.2.2.2.1 u.2.2.2.2.2.2.2.2.2.2.2.2.2.2.1 u.2.2.2.2.2.2.2.2.2.2.2.2.2.2.2.1 u.2.2.2.2.2.2.2.2.2.2.2.2.2.2.2.2.1 u.2.2.2.2.2.2.2.2.2.2.2.2.2.2.2.2.2.1 u.2.2.2.2.2.2.2.2.2.2.2.2.2.2.2.2.2.2.1 u.2.2.2.2.2.2.2.2.2.2.2.2.2.2.2.2.2.2.2.1 u.2.2.2.2.2.2.2.2.2.2.2.2.2.2.2.2.2.2.2.2.1 u.2.2.2.2.2.2.2.2.2.2.2.2.2.2.2.2.2.2.2.2.2.1 u.2.2.2.2.2.2.2.2.2.2.2.2.2.2.2.2.2.2.2.2.2.2)) ((wW_X7_mark2 ak ad h7 xa ma mk ka Hpg Hway Hstate Hnext Hsteps Hwritten Hstuffs Htwins Hworn Hcells Hkept Bmarked Kpg Kway Kstate Knext Ksteps Kwritten Kstuffs Ktwins Kworn Kcells Kkept)) sz) 0 0 (va_A ((wW_X7_mark2 ak ad h7 xa ma mk ka Hpg Hway Hstate Hnext Hsteps Hwritten Hstuffs Htwins Hworn Hcells Hkept Bmarked Kpg Kway Kstate Knext Ksteps Kwritten Kstuffs Ktwins Kworn Kcells Kkept)) sz) := by
  refine Met.ofW (cc := cX7_mark) (maxL := 3) (ret := (some .boolean)) (by decide) rfl ?_
  intro p e s m args below meth c s₁ B hml hv
  obtain ⟨rfl, hsz, hP, hE, hD0, hT⟩ := hv
  have hx := B.exec
  have hb := B.bytes
  have hr := B.returns
  have hts := atoms_spec (ws := wsX7_mark) B.pre
  have hown : s.vm.findClass RX7 = some m.cls := findClass_of_methodNamed B.named
  have hlocks := B.notSynchronized
  subst hsz
  have hD := hD0.self (sz := s.heap.size)
  generalize hAe : va_A ((wW_X7_mark2 ak ad h7 xa ma mk ka Hpg Hway Hstate Hnext Hsteps Hwritten Hstuffs Htwins Hworn Hcells Hkept Bmarked Kpg Kway Kstate Knext Ksteps Kwritten Kstuffs Ktwins Kworn Kcells Kkept)) s.heap.size = A at hD hT ⊢
  have hA : ∀ q : Nat, s.heap.size ≤ q → A q := fun q h => by rw [← hAe]; exact Or.inr h
  have hS : va_S A s.heap s.heap [] := va_S.rf
  have hl := lv_entry ([.ref h7, .int (2), .int (xb)]) (n := 3) (Nat.le_of_ble_eq_true rfl)
  rw [lg_entry_eq]
  generalize (lg_sl ([.ref h7, .int (2), .int (xb)]) ++ List.replicate (3 - (lg_sl ([.ref h7, .int (2), .int (xb)])).length) Slot.unset).toArray = ls at hl ⊢
  have hl : lv_has ls 3 [(0, .ref h7), (1, .int (2)), (2, .int (xb))] := hl
  exact kj_X7_mark2_e hx hb hown hts hml hE hT hA (Nat.le_of_ble_eq_true rfl) (Nat.le_of_ble_eq_true rfl) ⟨Nat.le_of_ble_eq_true rfl, Nat.le_of_ble_eq_true rfl⟩ h7 xa ma mk ka xb Φ (fun r Hpg Hway Hstate Hnext Hsteps Hwritten Hstuffs Htwins Hworn Hcells Hkept Bmarked Kpg Kway Kstate Knext Ksteps Kwritten Kstuffs Ktwins Kworn Kcells Kkept H locs ls hz hw hP hD hS => W.zret (v := r) hx hb hr (bl_zn hz) (fun t ht hW => ⟨⟨r, (Hpg, Hway, Hstate, Hnext, Hsteps, Hwritten, Hstuffs, Htwins, Hworn, Hcells, Hkept, Bmarked, Kpg, Kway, Kstate, Knext, Ksteps, Kwritten, Kstuffs, Ktwins, Kworn, Kcells, Kkept), rfl, hw, by rw [ht]; exact hP, by rw [hAe]; exact hD⟩, by rw [hAe]; exact hS.F ht⟩) hS.2.2 dX7_mark_22) (fun r Hpg Hway Hstate Hnext Hsteps Hwritten Hstuffs Htwins Hworn Hcells Hkept Bmarked Kpg Kway Kstate Knext Ksteps Kwritten Kstuffs Ktwins Kworn Kcells Kkept H locs ls hz hw hP hD hS => W.zret (v := r) hx hb hr (bl_zn hz) (fun t ht hW => ⟨⟨r, (Hpg, Hway, Hstate, Hnext, Hsteps, Hwritten, Hstuffs, Htwins, Hworn, Hcells, Hkept, Bmarked, Kpg, Kway, Kstate, Knext, Ksteps, Kwritten, Kstuffs, Ktwins, Kworn, Kcells, Kkept), rfl, hw, by rw [ht]; exact hP, by rw [hAe]; exact hD⟩, by rw [hAe]; exact hS.F ht⟩) hS.2.2 dX7_mark_64) Hpg Hway Hstate Hnext Hsteps Hwritten Hstuffs Htwins Hworn Hcells Hkept Bmarked Kpg Kway Kstate Knext Ksteps Kwritten Kstuffs Ktwins Kworn Kcells Kkept _ _ _ hf hP hD hS hl

def wW_X7_mark3 (ak : Nat → ClassId) (ad : Nat → Nat) (h7 : Nat) (xa : Nat → Nat) (ma : Nat → Nat) (mk : Nat → Nat) (ka : Nat → Nat) (Hpg : Nat) (Hway : Int32) (Hstate : Int32) (Hnext : Int32) (Hsteps : Int32) (Hwritten : Int32) (Hstuffs : Nat → Int32) (Htwins : Nat → Int32) (Hworn : Nat → Int32) (Hcells : Nat → Int32) (Hkept : Nat → Int32) (Bmarked : Nat → Int32) (Kpg : Nat) (Kway : Int32) (Kstate : Int32) (Knext : Int32) (Ksteps : Int32) (Kwritten : Int32) (Kstuffs : Nat → Int32) (Ktwins : Nat → Int32) (Kworn : Nat → Int32) (Kcells : Nat → Int32) (Kkept : Nat → Int32) : va_W := [(h7, .inr (6, wob xa )), ((xa 3), .inr (1, xob ma (Hpg) (Hway) (Hstate) (Hnext) (Hsteps) (Hwritten))), ((ma 0), .inl (ak 0, 16, .inl (Hstuffs))), ((ma 1), .inl (ak 0, 16, .inl (Htwins))), ((ma 2), .inl (ak 0, 16, .inl (Hworn))), ((ma 3), .inl (ak 0, 6, .inl (Hcells))), ((ma 4), .inl (ak 0, 200, .inl (Hkept))), ((xa 6), .inl (ak 5, 4, .inr (.inr (.inr (.inr (mkA mk)))))), ((xa 7), .inl (ak 3, 4, .inl (Bmarked))), ((mk 3), .inr (1, xob ka (Kpg) (Kway) (Kstate) (Knext) (Ksteps) (Kwritten))), ((ka 0), .inl (ak 0, 16, .inl (Kstuffs))), ((ka 1), .inl (ak 0, 16, .inl (Ktwins))), ((ka 2), .inl (ak 0, 16, .inl (Kworn))), ((ka 3), .inl (ak 0, 6, .inl (Kcells))), ((ka 4), .inl (ak 0, 200, .inl (Kkept)))]
def kf_X7_mark3_23 (xb : Int32)  (Φ : Int32 → Nat → Int32 → Int32 → Int32 → Int32 → Int32 → (Nat → Int32) → (Nat → Int32) → (Nat → Int32) → (Nat → Int32) → (Nat → Int32) → (Nat → Int32) → Nat → Int32 → Int32 → Int32 → Int32 → Int32 → (Nat → Int32) → (Nat → Int32) → (Nat → Int32) → (Nat → Int32) → (Nat → Int32) → Prop) (Hpg : Nat) (Hway : Int32) (Hstate : Int32) (Hnext : Int32) (Hsteps : Int32) (Hwritten : Int32) (Hstuffs : Nat → Int32) (Htwins : Nat → Int32) (Hworn : Nat → Int32) (Hcells : Nat → Int32) (Hkept : Nat → Int32) (Bmarked : Nat → Int32) (Kpg : Nat) (Kway : Int32) (Kstate : Int32) (Knext : Int32) (Ksteps : Int32) (Kwritten : Int32) (Kstuffs : Nat → Int32) (Ktwins : Nat → Int32) (Kworn : Nat → Int32) (Kcells : Nat → Int32) (Kkept : Nat → Int32) : Prop := (xb = 0 → wp_X1_copy Hpg Hway Hstate Hnext Hsteps Hwritten Hstuffs Htwins Hworn Hcells Hkept 200 200 Kpg Kway Kstate Knext Ksteps Kwritten Kstuffs Ktwins Kworn Kcells Kkept (fun Mpg_7 Mway_8 Mstate_9 Mnext_10 Msteps_11 Mwritten_12 Mstuffs_13 Mtwins_14 Mworn_15 Mcells_16 Mkept_17 => Φ 1 Hpg Hway Hstate Hnext Hsteps Hwritten Hstuffs Htwins Hworn Hcells Hkept (upd Bmarked 3 (vp_nar .boolean 1)) Mpg_7 Mway_8 Mstate_9 Mnext_10 Msteps_11 Mwritten_12 Mstuffs_13 Mtwins_14 Mworn_15 Mcells_16 Mkept_17)) ∧ (¬ xb = 0 → wp_X1_copy Kpg Kway Kstate Knext Ksteps Kwritten Kstuffs Ktwins Kworn Kcells Kkept 200 200 Hpg Hway Hstate Hnext Hsteps Hwritten Hstuffs Htwins Hworn Hcells Hkept (fun Mpg_20 Mway_21 Mstate_22 Mnext_23 Msteps_24 Mwritten_25 Mstuffs_26 Mtwins_27 Mworn_28 Mcells_29 Mkept_30 => Φ 1 Mpg_20 Mway_21 Mstate_22 Mnext_23 Msteps_24 Mwritten_25 Mstuffs_26 Mtwins_27 Mworn_28 Mcells_29 Mkept_30 Bmarked Kpg Kway Kstate Knext Ksteps Kwritten Kstuffs Ktwins Kworn Kcells Kkept))
set_option maxHeartbeats 4000000 in
set_option maxRecDepth 100000 in
theorem kj_X7_mark3_23 {p : Program} {l : Launch} {e : Env} {R : Room} {s : State} {m : MethodId} {args : Array Value} {below : List Frame} {meth : Method} {c : Code} {cells slots : Nat} {Q : State → Prop} {A : Nat → Prop} {D : va_G} {ak : Nat → ClassId} {ad : Nat → Nat} (hx : p.tables.exec = Jvm.exec) (hb : c.code = cX7_mark) (hown : s.vm.findClass RX7 = some m.cls) (hts : ∀ w ∈ wsX7_mark, w.before args s = true) (hml : c.maxLocals = 3) (hE : EV D ak s) (hT : ST D ak ad A s s.heap) (hA : ∀ q, s.heap.size ≤ q → A q) (hRf : 3 ≤ R.frames) (hRl : 82 ≤ R.locals) (hRc : cells ≤ R.cells ∧ slots ≤ R.slots) (h7 : Nat) (xa : Nat → Nat) (ma : Nat → Nat) (mk : Nat → Nat) (ka : Nat → Nat) (xb : Int32)  (Φ : Int32 → Nat → Int32 → Int32 → Int32 → Int32 → Int32 → (Nat → Int32) → (Nat → Int32) → (Nat → Int32) → (Nat → Int32) → (Nat → Int32) → (Nat → Int32) → Nat → Int32 → Int32 → Int32 → Int32 → Int32 → (Nat → Int32) → (Nat → Int32) → (Nat → Int32) → (Nat → Int32) → (Nat → Int32) → Prop)
    (kR22 : ∀ (r : Int32) (Hpg : Nat) (Hway : Int32) (Hstate : Int32) (Hnext : Int32) (Hsteps : Int32) (Hwritten : Int32) (Hstuffs : Nat → Int32) (Htwins : Nat → Int32) (Hworn : Nat → Int32) (Hcells : Nat → Int32) (Hkept : Nat → Int32) (Bmarked : Nat → Int32) (Kpg : Nat) (Kway : Int32) (Kstate : Int32) (Knext : Int32) (Ksteps : Int32) (Kwritten : Int32) (Kstuffs : Nat → Int32) (Ktwins : Nat → Int32) (Kworn : Nat → Int32) (Kcells : Nat → Int32) (Kkept : Nat → Int32) (H : Heap) (locs : List Loc) (ls : Array Slot), (r = 0 ∨ r = 1) → Φ r Hpg Hway Hstate Hnext Hsteps Hwritten Hstuffs Htwins Hworn Hcells Hkept Bmarked Kpg Kway Kstate Knext Ksteps Kwritten Kstuffs Ktwins Kworn Kcells Kkept → va_P D vwCl (wW_X7_mark3 ak ad h7 xa ma mk ka Hpg Hway Hstate Hnext Hsteps Hwritten Hstuffs Htwins Hworn Hcells Hkept Bmarked Kpg Kway Kstate Knext Ksteps Kwritten Kstuffs Ktwins Kworn Kcells Kkept) H → va_D A (wW_X7_mark3 ak ad h7 xa ma mk ka Hpg Hway Hstate Hnext Hsteps Hwritten Hstuffs Htwins Hworn Hcells Hkept Bmarked Kpg Kway Kstate Knext Ksteps Kwritten Kstuffs Ktwins Kworn Kcells Kkept) → va_S A s.heap H locs → W p l e R s m args below meth c H locs cells slots Q (F0 m 22 ls [.int r]))
    (kR64 : ∀ (r : Int32) (Hpg : Nat) (Hway : Int32) (Hstate : Int32) (Hnext : Int32) (Hsteps : Int32) (Hwritten : Int32) (Hstuffs : Nat → Int32) (Htwins : Nat → Int32) (Hworn : Nat → Int32) (Hcells : Nat → Int32) (Hkept : Nat → Int32) (Bmarked : Nat → Int32) (Kpg : Nat) (Kway : Int32) (Kstate : Int32) (Knext : Int32) (Ksteps : Int32) (Kwritten : Int32) (Kstuffs : Nat → Int32) (Ktwins : Nat → Int32) (Kworn : Nat → Int32) (Kcells : Nat → Int32) (Kkept : Nat → Int32) (H : Heap) (locs : List Loc) (ls : Array Slot), (r = 0 ∨ r = 1) → Φ r Hpg Hway Hstate Hnext Hsteps Hwritten Hstuffs Htwins Hworn Hcells Hkept Bmarked Kpg Kway Kstate Knext Ksteps Kwritten Kstuffs Ktwins Kworn Kcells Kkept → va_P D vwCl (wW_X7_mark3 ak ad h7 xa ma mk ka Hpg Hway Hstate Hnext Hsteps Hwritten Hstuffs Htwins Hworn Hcells Hkept Bmarked Kpg Kway Kstate Knext Ksteps Kwritten Kstuffs Ktwins Kworn Kcells Kkept) H → va_D A (wW_X7_mark3 ak ad h7 xa ma mk ka Hpg Hway Hstate Hnext Hsteps Hwritten Hstuffs Htwins Hworn Hcells Hkept Bmarked Kpg Kway Kstate Knext Ksteps Kwritten Kstuffs Ktwins Kworn Kcells Kkept) → va_S A s.heap H locs → W p l e R s m args below meth c H locs cells slots Q (F0 m 64 ls [.int r]))
    : ∀ (Hpg : Nat) (Hway : Int32) (Hstate : Int32) (Hnext : Int32) (Hsteps : Int32) (Hwritten : Int32) (Hstuffs : Nat → Int32) (Htwins : Nat → Int32) (Hworn : Nat → Int32) (Hcells : Nat → Int32) (Hkept : Nat → Int32) (Bmarked : Nat → Int32) (Kpg : Nat) (Kway : Int32) (Kstate : Int32) (Knext : Int32) (Ksteps : Int32) (Kwritten : Int32) (Kstuffs : Nat → Int32) (Ktwins : Nat → Int32) (Kworn : Nat → Int32) (Kcells : Nat → Int32) (Kkept : Nat → Int32) (H : Heap) (locs : List Loc) (ls : Array Slot), kf_X7_mark3_23 xb  Φ Hpg Hway Hstate Hnext Hsteps Hwritten Hstuffs Htwins Hworn Hcells Hkept Bmarked Kpg Kway Kstate Knext Ksteps Kwritten Kstuffs Ktwins Kworn Kcells Kkept → va_P D vwCl (wW_X7_mark3 ak ad h7 xa ma mk ka Hpg Hway Hstate Hnext Hsteps Hwritten Hstuffs Htwins Hworn Hcells Hkept Bmarked Kpg Kway Kstate Knext Ksteps Kwritten Kstuffs Ktwins Kworn Kcells Kkept) H → va_D A (wW_X7_mark3 ak ad h7 xa ma mk ka Hpg Hway Hstate Hnext Hsteps Hwritten Hstuffs Htwins Hworn Hcells Hkept Bmarked Kpg Kway Kstate Knext Ksteps Kwritten Kstuffs Ktwins Kworn Kcells Kkept) → va_S A s.heap H locs → lv_has ls 3 [(0, .ref h7), (1, .int (3)), (2, .int (xb))] → W p l e R s m args below meth c H locs cells slots Q (F0 m 23 ls ([])) := by
  intro Hpg Hway Hstate Hnext Hsteps Hwritten Hstuffs Htwins Hworn Hcells Hkept Bmarked Kpg Kway Kstate Knext Ksteps Kwritten Kstuffs Ktwins Kworn Kcells Kkept H locs ls hw hP hD hS hl
  delta kf_X7_mark3_23 at hw
  refine lv_iload_n hx hb dX7_mark_23 rfl (lv_at hl 2 rfl) ?_
  refine lv_if_eq (tgt := 43) hx hb dX7_mark_24 (by decide) (fun c_5 => ?_) (fun c_5 => ?_)
  · replace hw := hw.1 c_5
    refine lv_aload_n hx hb dX7_mark_43 rfl (lv_at hl 0 rfl) ?_
    refine vt_get (D := D) (ci := 6) (v := .ref (xa 6)) (C := RX7) (T := TX7) (N := 10) hx hb hts (fun w h => wm_c (wc_X7 w h)) hown hE.1 hP 0 rfl rfl 6 (by decide) tX7_6 (hts (.fieldLink RX7 47 "WornLines" "marks" "[LWornLines$Machine;") (wm_c hw_601)) (fun _ h9 => h9) rfl dX7_mark_44 ?_
    refine lv_iload_n hx hb dX7_mark_47 rfl (lv_at hl 1 rfl) ?_
    refine va_aldq hx hb hE.1 hP 7 5 rfl rfl (by unfold vp_in; decide) dX7_mark_48 ?_
    refine W.eq (g2 := F0 m 49 ls (.ref (mk 3) :: [])) rfl ?_
    refine lv_aload_n hx hb dX7_mark_49 rfl (lv_at hl 0 rfl) ?_
    refine vt_get (D := D) (ci := 6) (v := .ref (xa 3)) (C := RX7) (T := TX7) (N := 10) hx hb hts (fun w h => wm_c (wc_X7 w h)) hown hE.1 hP 0 rfl rfl 3 (by decide) tX7_3 (hts (.fieldLink RX7 37 "WornLines" "hand" "LWornLines$Machine;") (wm_c hw_540)) (fun _ h9 => h9) rfl dX7_mark_50 ?_
    refine kc_v (wc := (wW_X1_copy ak ad (mk 3) ka (xa 3) ma 200 200 Kpg Kway Kstate Knext Ksteps Kwritten Kstuffs Ktwins Kworn Kcells Kkept Hpg Hway Hstate Hnext Hsteps Hwritten Hstuffs Htwins Hworn Hcells Hkept)) (wr := [(h7, .inr (6, wob xa )), ((xa 6), .inl (ak 5, 4, .inr (.inr (.inr (.inr (mkA mk)))))), ((xa 7), .inl (ak 3, 4, .inl (Bmarked)))]) hP hD hS hA [9, 10, 11, 12, 13, 14, 1, 2, 3, 4, 5, 6] [0, 7, 8] rfl rfl (by decide) (by decide) (va_runV (As := [.ref (xa 3)]) (rest := []) ⟨hx, hb, hml, hown, hts⟩ (c_X1_copy l D ak ad _ (mk 3) ka (xa 3) ma 200 200 Kpg Kway Kstate Knext Ksteps Kwritten Kstuffs Ktwins Kworn Kcells Kkept Hpg Hway Hstate Hnext Hsteps Hwritten Hstuffs Htwins Hworn Hcells Hkept _ hw) (cwV 1 hts gX7_mark_X1_copy rfl rfl rfl hv_X1_copy ⟨(Nat.le_trans (Nat.le_of_ble_eq_true rfl) hRf), (Nat.le_trans (Nat.le_of_ble_eq_true rfl) hRl)⟩) (kc_preV (As := [.ref (xa 3)]) (wc := (wW_X1_copy ak ad (mk 3) ka (xa 3) ma 200 200 Kpg Kway Kstate Knext Ksteps Kwritten Kstuffs Ktwins Kworn Kcells Kkept Hpg Hway Hstate Hnext Hsteps Hwritten Hstuffs Htwins Hworn Hcells Hkept)) hE hT hP hD hS hA [9, 10, 11, 12, 13, 14, 1, 2, 3, 4, 5, 6] (by decide) rfl rfl 9 1 rfl rfl rfl) rfl rfl hl.1 rfl (lv_room (Nat.le_of_ble_eq_true rfl)) dX7_mark_53 ⟨hRc.1, hRc.2⟩) (fun u_6 H locs hw hP hD hS => ?_)
    obtain ⟨Mpg_7, Mway_8, Mstate_9, Mnext_10, Msteps_11, Mwritten_12, Mstuffs_13, Mtwins_14, Mworn_15, Mcells_16, Mkept_17⟩ := u_6
    try dsimp -zeta only at hw
    have hP : va_P D vwCl (wW_X7_mark3 ak ad h7 xa ma mk ka Hpg Hway Hstate Hnext Hsteps Hwritten Hstuffs Htwins Hworn Hcells Hkept Bmarked Mpg_7 Mway_8 Mstate_9 Mnext_10 Msteps_11 Mwritten_12 Mstuffs_13 Mtwins_14 Mworn_15 Mcells_16 Mkept_17) H := hP.sub [0, 9, 10, 11, 12, 13, 14, 1, 2, 3, 4, 5, 6, 7, 8] rfl
    have hD : va_D A (wW_X7_mark3 ak ad h7 xa ma mk ka Hpg Hway Hstate Hnext Hsteps Hwritten Hstuffs Htwins Hworn Hcells Hkept Bmarked Mpg_7 Mway_8 Mstate_9 Mnext_10 Msteps_11 Mwritten_12 Mstuffs_13 Mtwins_14 Mworn_15 Mcells_16 Mkept_17) := hD.sub [0, 9, 10, 11, 12, 13, 14, 1, 2, 3, 4, 5, 6, 7, 8] (by decide) rfl
    refine lv_aload_n hx hb dX7_mark_56 rfl (lv_at hl 0 rfl) ?_
    refine vt_get (D := D) (ci := 6) (v := .ref (xa 7)) (C := RX7) (T := TX7) (N := 10) hx hb hts (fun w h => wm_c (wc_X7 w h)) hown hE.1 hP 0 rfl rfl 7 (by decide) tX7_7 (hts (.fieldLink RX7 51 "WornLines" "marked" "[Z") (wm_c hw_602)) (fun _ h9 => h9) rfl dX7_mark_57 ?_
    refine lv_iload_n hx hb dX7_mark_60 rfl (lv_at hl 1 rfl) ?_
    refine lv_iconst (v := 1) hx hb dX7_mark_61 (by decide) ?_
    refine va_zast hx hb hE.1 hP hD hS 8 3 rfl rfl (by unfold vp_in; decide) dX7_mark_62 (fun H locs hP hD hS => ?_)
    have hP : va_P D vwCl (wW_X7_mark3 ak ad h7 xa ma mk ka Hpg Hway Hstate Hnext Hsteps Hwritten Hstuffs Htwins Hworn Hcells Hkept (upd Bmarked 3 (vp_nar .boolean 1)) Mpg_7 Mway_8 Mstate_9 Mnext_10 Msteps_11 Mwritten_12 Mstuffs_13 Mtwins_14 Mworn_15 Mcells_16 Mkept_17) H := hP
    have hD : va_D A (wW_X7_mark3 ak ad h7 xa ma mk ka Hpg Hway Hstate Hnext Hsteps Hwritten Hstuffs Htwins Hworn Hcells Hkept (upd Bmarked 3 (vp_nar .boolean 1)) Mpg_7 Mway_8 Mstate_9 Mnext_10 Msteps_11 Mwritten_12 Mstuffs_13 Mtwins_14 Mworn_15 Mcells_16 Mkept_17) := hD
    refine lv_iconst (v := 1) hx hb dX7_mark_63 (by decide) ?_
    exact kR64 1 Hpg Hway Hstate Hnext Hsteps Hwritten Hstuffs Htwins Hworn Hcells Hkept (upd Bmarked 3 (vp_nar .boolean 1)) Mpg_7 Mway_8 Mstate_9 Mnext_10 Msteps_11 Mwritten_12 Mstuffs_13 Mtwins_14 Mworn_15 Mcells_16 Mkept_17 _ _ _ (Or.inr rfl) hw hP hD hS
  · replace hw := hw.2 c_5
    refine lv_aload_n hx hb dX7_mark_27 rfl (lv_at hl 0 rfl) ?_
    refine vt_get (D := D) (ci := 6) (v := .ref (xa 3)) (C := RX7) (T := TX7) (N := 10) hx hb hts (fun w h => wm_c (wc_X7 w h)) hown hE.1 hP 0 rfl rfl 3 (by decide) tX7_3 (hts (.fieldLink RX7 37 "WornLines" "hand" "LWornLines$Machine;") (wm_c hw_540)) (fun _ h9 => h9) rfl dX7_mark_28 ?_
    refine lv_aload_n hx hb dX7_mark_31 rfl (lv_at hl 0 rfl) ?_
    refine vt_get (D := D) (ci := 6) (v := .ref (xa 6)) (C := RX7) (T := TX7) (N := 10) hx hb hts (fun w h => wm_c (wc_X7 w h)) hown hE.1 hP 0 rfl rfl 6 (by decide) tX7_6 (hts (.fieldLink RX7 47 "WornLines" "marks" "[LWornLines$Machine;") (wm_c hw_601)) (fun _ h9 => h9) rfl dX7_mark_32 ?_
    refine lv_iload_n hx hb dX7_mark_35 rfl (lv_at hl 1 rfl) ?_
    refine va_aldq hx hb hE.1 hP 7 5 rfl rfl (by unfold vp_in; decide) dX7_mark_36 ?_
    refine W.eq (g2 := F0 m 37 ls (.ref (mk 3) :: .ref (xa 3) :: [])) rfl ?_
    refine kc_v (wc := (wW_X1_copy ak ad (xa 3) ma (mk 3) ka 200 200 Hpg Hway Hstate Hnext Hsteps Hwritten Hstuffs Htwins Hworn Hcells Hkept Kpg Kway Kstate Knext Ksteps Kwritten Kstuffs Ktwins Kworn Kcells Kkept)) (wr := [(h7, .inr (6, wob xa )), ((xa 6), .inl (ak 5, 4, .inr (.inr (.inr (.inr (mkA mk)))))), ((xa 7), .inl (ak 3, 4, .inl (Bmarked)))]) hP hD hS hA [1, 2, 3, 4, 5, 6, 9, 10, 11, 12, 13, 14] [0, 7, 8] rfl rfl (by decide) (by decide) (va_runV (As := [.ref (mk 3)]) (rest := []) ⟨hx, hb, hml, hown, hts⟩ (c_X1_copy l D ak ad _ (xa 3) ma (mk 3) ka 200 200 Hpg Hway Hstate Hnext Hsteps Hwritten Hstuffs Htwins Hworn Hcells Hkept Kpg Kway Kstate Knext Ksteps Kwritten Kstuffs Ktwins Kworn Kcells Kkept _ hw) (cwV 1 hts gX7_mark_X1_copy rfl rfl rfl hv_X1_copy ⟨(Nat.le_trans (Nat.le_of_ble_eq_true rfl) hRf), (Nat.le_trans (Nat.le_of_ble_eq_true rfl) hRl)⟩) (kc_preV (As := [.ref (mk 3)]) (wc := (wW_X1_copy ak ad (xa 3) ma (mk 3) ka 200 200 Hpg Hway Hstate Hnext Hsteps Hwritten Hstuffs Htwins Hworn Hcells Hkept Kpg Kway Kstate Knext Ksteps Kwritten Kstuffs Ktwins Kworn Kcells Kkept)) hE hT hP hD hS hA [1, 2, 3, 4, 5, 6, 9, 10, 11, 12, 13, 14] (by decide) rfl rfl 1 1 rfl rfl rfl) rfl rfl hl.1 rfl (lv_room (Nat.le_of_ble_eq_true rfl)) dX7_mark_37 ⟨hRc.1, hRc.2⟩) (fun u_19 H locs hw hP hD hS => ?_)
    obtain ⟨Mpg_20, Mway_21, Mstate_22, Mnext_23, Msteps_24, Mwritten_25, Mstuffs_26, Mtwins_27, Mworn_28, Mcells_29, Mkept_30⟩ := u_19
    try dsimp -zeta only at hw
    have hP : va_P D vwCl (wW_X7_mark3 ak ad h7 xa ma mk ka Mpg_20 Mway_21 Mstate_22 Mnext_23 Msteps_24 Mwritten_25 Mstuffs_26 Mtwins_27 Mworn_28 Mcells_29 Mkept_30 Bmarked Kpg Kway Kstate Knext Ksteps Kwritten Kstuffs Ktwins Kworn Kcells Kkept) H := hP.sub [0, 3, 4, 5, 6, 7, 8, 1, 2, 9, 10, 11, 12, 13, 14] rfl
    have hD : va_D A (wW_X7_mark3 ak ad h7 xa ma mk ka Mpg_20 Mway_21 Mstate_22 Mnext_23 Msteps_24 Mwritten_25 Mstuffs_26 Mtwins_27 Mworn_28 Mcells_29 Mkept_30 Bmarked Kpg Kway Kstate Knext Ksteps Kwritten Kstuffs Ktwins Kworn Kcells Kkept) := hD.sub [0, 3, 4, 5, 6, 7, 8, 1, 2, 9, 10, 11, 12, 13, 14] (by decide) rfl
    refine lv_goto (tgt := 63) hx hb dX7_mark_40 (by decide) ?_
    refine lv_iconst (v := 1) hx hb dX7_mark_63 (by decide) ?_
    exact kR64 1 Mpg_20 Mway_21 Mstate_22 Mnext_23 Msteps_24 Mwritten_25 Mstuffs_26 Mtwins_27 Mworn_28 Mcells_29 Mkept_30 Bmarked Kpg Kway Kstate Knext Ksteps Kwritten Kstuffs Ktwins Kworn Kcells Kkept _ _ _ (Or.inr rfl) hw hP hD hS

def wp_X7_mark3 (xb : Int32) (Hpg : Nat) (Hway : Int32) (Hstate : Int32) (Hnext : Int32) (Hsteps : Int32) (Hwritten : Int32) (Hstuffs : Nat → Int32) (Htwins : Nat → Int32) (Hworn : Nat → Int32) (Hcells : Nat → Int32) (Hkept : Nat → Int32) (Bmarked : Nat → Int32) (Kpg : Nat) (Kway : Int32) (Kstate : Int32) (Knext : Int32) (Ksteps : Int32) (Kwritten : Int32) (Kstuffs : Nat → Int32) (Ktwins : Nat → Int32) (Kworn : Nat → Int32) (Kcells : Nat → Int32) (Kkept : Nat → Int32) (Φ : Int32 → Nat → Int32 → Int32 → Int32 → Int32 → Int32 → (Nat → Int32) → (Nat → Int32) → (Nat → Int32) → (Nat → Int32) → (Nat → Int32) → (Nat → Int32) → Nat → Int32 → Int32 → Int32 → Int32 → Int32 → (Nat → Int32) → (Nat → Int32) → (Nat → Int32) → (Nat → Int32) → (Nat → Int32) → Prop) : Prop := wp_X7_within 3 4 (fun r_2 => (r_2 = 0 → Φ 0 Hpg Hway Hstate Hnext Hsteps Hwritten Hstuffs Htwins Hworn Hcells Hkept Bmarked Kpg Kway Kstate Knext Ksteps Kwritten Kstuffs Ktwins Kworn Kcells Kkept) ∧ (¬ r_2 = 0 → (xb = 0 → kf_X7_mark3_23 xb  Φ Hpg Hway Hstate Hnext Hsteps Hwritten Hstuffs Htwins Hworn Hcells Hkept Bmarked Kpg Kway Kstate Knext Ksteps Kwritten Kstuffs Ktwins Kworn Kcells Kkept) ∧ (¬ xb = 0 → (¬ (Bmarked 3) = 0 → kf_X7_mark3_23 xb  Φ Hpg Hway Hstate Hnext Hsteps Hwritten Hstuffs Htwins Hworn Hcells Hkept Bmarked Kpg Kway Kstate Knext Ksteps Kwritten Kstuffs Ktwins Kworn Kcells Kkept) ∧ ((Bmarked 3) = 0 → Φ 0 Hpg Hway Hstate Hnext Hsteps Hwritten Hstuffs Htwins Hworn Hcells Hkept Bmarked Kpg Kway Kstate Knext Ksteps Kwritten Kstuffs Ktwins Kworn Kcells Kkept))))
set_option maxHeartbeats 4000000 in
set_option maxRecDepth 100000 in
theorem kj_X7_mark3_e {p : Program} {l : Launch} {e : Env} {R : Room} {s : State} {m : MethodId} {args : Array Value} {below : List Frame} {meth : Method} {c : Code} {cells slots : Nat} {Q : State → Prop} {A : Nat → Prop} {D : va_G} {ak : Nat → ClassId} {ad : Nat → Nat} (hx : p.tables.exec = Jvm.exec) (hb : c.code = cX7_mark) (hown : s.vm.findClass RX7 = some m.cls) (hts : ∀ w ∈ wsX7_mark, w.before args s = true) (hml : c.maxLocals = 3) (hE : EV D ak s) (hT : ST D ak ad A s s.heap) (hA : ∀ q, s.heap.size ≤ q → A q) (hRf : 3 ≤ R.frames) (hRl : 82 ≤ R.locals) (hRc : cells ≤ R.cells ∧ slots ≤ R.slots) (h7 : Nat) (xa : Nat → Nat) (ma : Nat → Nat) (mk : Nat → Nat) (ka : Nat → Nat) (xb : Int32)  (Φ : Int32 → Nat → Int32 → Int32 → Int32 → Int32 → Int32 → (Nat → Int32) → (Nat → Int32) → (Nat → Int32) → (Nat → Int32) → (Nat → Int32) → (Nat → Int32) → Nat → Int32 → Int32 → Int32 → Int32 → Int32 → (Nat → Int32) → (Nat → Int32) → (Nat → Int32) → (Nat → Int32) → (Nat → Int32) → Prop)
    (kR22 : ∀ (r : Int32) (Hpg : Nat) (Hway : Int32) (Hstate : Int32) (Hnext : Int32) (Hsteps : Int32) (Hwritten : Int32) (Hstuffs : Nat → Int32) (Htwins : Nat → Int32) (Hworn : Nat → Int32) (Hcells : Nat → Int32) (Hkept : Nat → Int32) (Bmarked : Nat → Int32) (Kpg : Nat) (Kway : Int32) (Kstate : Int32) (Knext : Int32) (Ksteps : Int32) (Kwritten : Int32) (Kstuffs : Nat → Int32) (Ktwins : Nat → Int32) (Kworn : Nat → Int32) (Kcells : Nat → Int32) (Kkept : Nat → Int32) (H : Heap) (locs : List Loc) (ls : Array Slot), (r = 0 ∨ r = 1) → Φ r Hpg Hway Hstate Hnext Hsteps Hwritten Hstuffs Htwins Hworn Hcells Hkept Bmarked Kpg Kway Kstate Knext Ksteps Kwritten Kstuffs Ktwins Kworn Kcells Kkept → va_P D vwCl (wW_X7_mark3 ak ad h7 xa ma mk ka Hpg Hway Hstate Hnext Hsteps Hwritten Hstuffs Htwins Hworn Hcells Hkept Bmarked Kpg Kway Kstate Knext Ksteps Kwritten Kstuffs Ktwins Kworn Kcells Kkept) H → va_D A (wW_X7_mark3 ak ad h7 xa ma mk ka Hpg Hway Hstate Hnext Hsteps Hwritten Hstuffs Htwins Hworn Hcells Hkept Bmarked Kpg Kway Kstate Knext Ksteps Kwritten Kstuffs Ktwins Kworn Kcells Kkept) → va_S A s.heap H locs → W p l e R s m args below meth c H locs cells slots Q (F0 m 22 ls [.int r]))
    (kR64 : ∀ (r : Int32) (Hpg : Nat) (Hway : Int32) (Hstate : Int32) (Hnext : Int32) (Hsteps : Int32) (Hwritten : Int32) (Hstuffs : Nat → Int32) (Htwins : Nat → Int32) (Hworn : Nat → Int32) (Hcells : Nat → Int32) (Hkept : Nat → Int32) (Bmarked : Nat → Int32) (Kpg : Nat) (Kway : Int32) (Kstate : Int32) (Knext : Int32) (Ksteps : Int32) (Kwritten : Int32) (Kstuffs : Nat → Int32) (Ktwins : Nat → Int32) (Kworn : Nat → Int32) (Kcells : Nat → Int32) (Kkept : Nat → Int32) (H : Heap) (locs : List Loc) (ls : Array Slot), (r = 0 ∨ r = 1) → Φ r Hpg Hway Hstate Hnext Hsteps Hwritten Hstuffs Htwins Hworn Hcells Hkept Bmarked Kpg Kway Kstate Knext Ksteps Kwritten Kstuffs Ktwins Kworn Kcells Kkept → va_P D vwCl (wW_X7_mark3 ak ad h7 xa ma mk ka Hpg Hway Hstate Hnext Hsteps Hwritten Hstuffs Htwins Hworn Hcells Hkept Bmarked Kpg Kway Kstate Knext Ksteps Kwritten Kstuffs Ktwins Kworn Kcells Kkept) H → va_D A (wW_X7_mark3 ak ad h7 xa ma mk ka Hpg Hway Hstate Hnext Hsteps Hwritten Hstuffs Htwins Hworn Hcells Hkept Bmarked Kpg Kway Kstate Knext Ksteps Kwritten Kstuffs Ktwins Kworn Kcells Kkept) → va_S A s.heap H locs → W p l e R s m args below meth c H locs cells slots Q (F0 m 64 ls [.int r]))
    : ∀ (Hpg : Nat) (Hway : Int32) (Hstate : Int32) (Hnext : Int32) (Hsteps : Int32) (Hwritten : Int32) (Hstuffs : Nat → Int32) (Htwins : Nat → Int32) (Hworn : Nat → Int32) (Hcells : Nat → Int32) (Hkept : Nat → Int32) (Bmarked : Nat → Int32) (Kpg : Nat) (Kway : Int32) (Kstate : Int32) (Knext : Int32) (Ksteps : Int32) (Kwritten : Int32) (Kstuffs : Nat → Int32) (Ktwins : Nat → Int32) (Kworn : Nat → Int32) (Kcells : Nat → Int32) (Kkept : Nat → Int32) (H : Heap) (locs : List Loc) (ls : Array Slot), wp_X7_mark3 xb Hpg Hway Hstate Hnext Hsteps Hwritten Hstuffs Htwins Hworn Hcells Hkept Bmarked Kpg Kway Kstate Knext Ksteps Kwritten Kstuffs Ktwins Kworn Kcells Kkept Φ → va_P D vwCl (wW_X7_mark3 ak ad h7 xa ma mk ka Hpg Hway Hstate Hnext Hsteps Hwritten Hstuffs Htwins Hworn Hcells Hkept Bmarked Kpg Kway Kstate Knext Ksteps Kwritten Kstuffs Ktwins Kworn Kcells Kkept) H → va_D A (wW_X7_mark3 ak ad h7 xa ma mk ka Hpg Hway Hstate Hnext Hsteps Hwritten Hstuffs Htwins Hworn Hcells Hkept Bmarked Kpg Kway Kstate Knext Ksteps Kwritten Kstuffs Ktwins Kworn Kcells Kkept) → va_S A s.heap H locs → lv_has ls 3 [(0, .ref h7), (1, .int (3)), (2, .int (xb))] → W p l e R s m args below meth c H locs cells slots Q (F0 m 0 ls ([])) := by
  intro Hpg Hway Hstate Hnext Hsteps Hwritten Hstuffs Htwins Hworn Hcells Hkept Bmarked Kpg Kway Kstate Knext Ksteps Kwritten Kstuffs Ktwins Kworn Kcells Kkept H locs ls hw hP hD hS hl
  delta wp_X7_mark3 at hw
  refine lv_iload_n hx hb dX7_mark_0 rfl (lv_at hl 1 rfl) ?_
  refine lv_iconst (v := 4) hx hb dX7_mark_1 (by decide) ?_
  refine kc_i (wc := []) (wr := [(h7, .inr (6, wob xa )), ((xa 3), .inr (1, xob ma (Hpg) (Hway) (Hstate) (Hnext) (Hsteps) (Hwritten))), ((ma 0), .inl (ak 0, 16, .inl (Hstuffs))), ((ma 1), .inl (ak 0, 16, .inl (Htwins))), ((ma 2), .inl (ak 0, 16, .inl (Hworn))), ((ma 3), .inl (ak 0, 6, .inl (Hcells))), ((ma 4), .inl (ak 0, 200, .inl (Hkept))), ((xa 6), .inl (ak 5, 4, .inr (.inr (.inr (.inr (mkA mk)))))), ((xa 7), .inl (ak 3, 4, .inl (Bmarked))), ((mk 3), .inr (1, xob ka (Kpg) (Kway) (Kstate) (Knext) (Ksteps) (Kwritten))), ((ka 0), .inl (ak 0, 16, .inl (Kstuffs))), ((ka 1), .inl (ak 0, 16, .inl (Ktwins))), ((ka 2), .inl (ak 0, 16, .inl (Kworn))), ((ka 3), .inl (ak 0, 6, .inl (Kcells))), ((ka 4), .inl (ak 0, 200, .inl (Kkept)))]) hP hD hS hA [] [0, 1, 2, 3, 4, 5, 6, 7, 8, 9, 10, 11, 12, 13, 14] rfl rfl (by decide) (by decide) (va_runS (As := [.int (3), .int (4)]) (rest := []) ⟨hx, hb, hml, hown, hts⟩ (c_X7_within l D ak ad _ 3 4 _ hw) (va_cwS 2 hts gX7_mark_X7_within rfl rfl rfl hz_X7_within ⟨(Nat.le_trans (Nat.le_of_ble_eq_true rfl) hRf), (Nat.le_trans (Nat.le_of_ble_eq_true rfl) hRl)⟩) (kc_pre (As := [.int (3), .int (4)]) (wc := []) hE hT hP hD hS hA [] (by decide) rfl rfl) rfl rfl hl.1 rfl (lv_room (Nat.le_of_ble_eq_true rfl)) dX7_mark_2 ⟨hRc.1, hRc.2⟩) (fun r_2 u_1 H locs hw hP hD hS => ?_)
  try dsimp -zeta only at hw
  have hP : va_P D vwCl (wW_X7_mark3 ak ad h7 xa ma mk ka Hpg Hway Hstate Hnext Hsteps Hwritten Hstuffs Htwins Hworn Hcells Hkept Bmarked Kpg Kway Kstate Knext Ksteps Kwritten Kstuffs Ktwins Kworn Kcells Kkept) H := hP.sub [0, 1, 2, 3, 4, 5, 6, 7, 8, 9, 10, 11, 12, 13, 14] rfl
  have hD : va_D A (wW_X7_mark3 ak ad h7 xa ma mk ka Hpg Hway Hstate Hnext Hsteps Hwritten Hstuffs Htwins Hworn Hcells Hkept Bmarked Kpg Kway Kstate Knext Ksteps Kwritten Kstuffs Ktwins Kworn Kcells Kkept) := hD.sub [0, 1, 2, 3, 4, 5, 6, 7, 8, 9, 10, 11, 12, 13, 14] (by decide) rfl
  refine lv_if_eq (tgt := 21) hx hb dX7_mark_5 (by decide) (fun c_3 => ?_) (fun c_3 => ?_)
  · replace hw := hw.1 c_3
    refine lv_iconst (v := 0) hx hb dX7_mark_21 (by decide) ?_
    exact kR22 0 Hpg Hway Hstate Hnext Hsteps Hwritten Hstuffs Htwins Hworn Hcells Hkept Bmarked Kpg Kway Kstate Knext Ksteps Kwritten Kstuffs Ktwins Kworn Kcells Kkept _ _ _ (Or.inl rfl) hw hP hD hS
  · replace hw := hw.2 c_3
    refine lv_iload_n hx hb dX7_mark_8 rfl (lv_at hl 2 rfl) ?_
    refine lv_if_eq (tgt := 23) hx hb dX7_mark_9 (by decide) (fun c_4 => ?_) (fun c_4 => ?_)
    · replace hw := hw.1 c_4
      exact kj_X7_mark3_23 hx hb hown hts hml hE hT hA hRf hRl hRc h7 xa ma mk ka xb  Φ  kR22 kR64 Hpg Hway Hstate Hnext Hsteps Hwritten Hstuffs Htwins Hworn Hcells Hkept Bmarked Kpg Kway Kstate Knext Ksteps Kwritten Kstuffs Ktwins Kworn Kcells Kkept _ _ _ hw hP hD hS (lv_sub hl [0, 1, 2] rfl)
    · replace hw := hw.2 c_4
      refine lv_aload_n hx hb dX7_mark_12 rfl (lv_at hl 0 rfl) ?_
      refine vt_get (D := D) (ci := 6) (v := .ref (xa 7)) (C := RX7) (T := TX7) (N := 10) hx hb hts (fun w h => wm_c (wc_X7 w h)) hown hE.1 hP 0 rfl rfl 7 (by decide) tX7_7 (hts (.fieldLink RX7 51 "WornLines" "marked" "[Z") (wm_c hw_602)) (fun _ h9 => h9) rfl dX7_mark_13 ?_
      refine lv_iload_n hx hb dX7_mark_16 rfl (lv_at hl 1 rfl) ?_
      refine va_zald hx hb hE.1 hP 8 3 rfl rfl (by unfold vp_in; decide) dX7_mark_17 ?_
      refine W.eq (g2 := F0 m 18 ls (.int (Bmarked 3) :: [])) rfl ?_
      refine lv_if_ne (tgt := 23) hx hb dX7_mark_18 (by decide) (fun c_32 => ?_) (fun c_32 => ?_)
      · replace hw := hw.1 c_32
        exact kj_X7_mark3_23 hx hb hown hts hml hE hT hA hRf hRl hRc h7 xa ma mk ka xb  Φ  kR22 kR64 Hpg Hway Hstate Hnext Hsteps Hwritten Hstuffs Htwins Hworn Hcells Hkept Bmarked Kpg Kway Kstate Knext Ksteps Kwritten Kstuffs Ktwins Kworn Kcells Kkept _ _ _ hw hP hD hS (lv_sub hl [0, 1, 2] rfl)
      · replace hw := hw.2 c_32
        refine lv_iconst (v := 0) hx hb dX7_mark_21 (by decide) ?_
        exact kR22 0 Hpg Hway Hstate Hnext Hsteps Hwritten Hstuffs Htwins Hworn Hcells Hkept Bmarked Kpg Kway Kstate Knext Ksteps Kwritten Kstuffs Ktwins Kworn Kcells Kkept _ _ _ (Or.inl rfl) hw hP hD hS
set_option maxHeartbeats 4000000 in
set_option maxRecDepth 100000 in
theorem c_X7_mark3 (l : Launch) (D : va_G) (ak : Nat → ClassId) (ad : Nat → Nat) (sz : Nat) (h7 : Nat) (xa : Nat → Nat) (ma : Nat → Nat) (mk : Nat → Nat) (ka : Nat → Nat) (Hpg : Nat) (Hway : Int32) (Hstate : Int32) (Hnext : Int32) (Hsteps : Int32) (Hwritten : Int32) (Hstuffs : Nat → Int32) (Htwins : Nat → Int32) (Hworn : Nat → Int32) (Hcells : Nat → Int32) (Hkept : Nat → Int32) (Bmarked : Nat → Int32) (Kpg : Nat) (Kway : Int32) (Kstate : Int32) (Knext : Int32) (Ksteps : Int32) (Kwritten : Int32) (Kstuffs : Nat → Int32) (Ktwins : Nat → Int32) (Kworn : Nat → Int32) (Kcells : Nat → Int32) (Kkept : Nat → Int32) (xb : Int32) (Φ : Int32 → Nat → Int32 → Int32 → Int32 → Int32 → Int32 → (Nat → Int32) → (Nat → Int32) → (Nat → Int32) → (Nat → Int32) → (Nat → Int32) → (Nat → Int32) → Nat → Int32 → Int32 → Int32 → Int32 → Int32 → (Nat → Int32) → (Nat → Int32) → (Nat → Int32) → (Nat → Int32) → (Nat → Int32) → Prop) (hf : wp_X7_mark3 xb Hpg Hway Hstate Hnext Hsteps Hwritten Hstuffs Htwins Hworn Hcells Hkept Bmarked Kpg Kway Kstate Knext Ksteps Kwritten Kstuffs Ktwins Kworn Kcells Kkept Φ) : Met l yX7_mark wsX7_mark ({ frames := 3, cells := 0, slots := 0, locals := 82 }) (cPre D ak ad [.ref h7, .int (3), .int (xb)] ((wW_X7_mark3 ak ad h7 xa ma mk ka Hpg Hway Hstate Hnext Hsteps Hwritten Hstuffs Htwins Hworn Hcells Hkept Bmarked Kpg Kway Kstate Knext Ksteps Kwritten Kstuffs Ktwins Kworn Kcells Kkept)) sz) (cI D (S := (Nat) × (Int32) × (Int32) × (Int32) × (Int32) × (Int32) × (Nat → Int32) × (Nat → Int32) × (Nat → Int32) × (Nat → Int32) × (Nat → Int32) × (Nat → Int32) × (Nat) × (Int32) × (Int32) × (Int32) × (Int32) × (Int32) × (Nat → Int32) × (Nat → Int32) × (Nat → Int32) × (Nat → Int32) × (Nat → Int32)) (fun (r : Int32) (u : (Nat) × (Int32) × (Int32) × (Int32) × (Int32) × (Int32) × (Nat → Int32) × (Nat → Int32) × (Nat → Int32) × (Nat → Int32) × (Nat → Int32) × (Nat → Int32) × (Nat) × (Int32) × (Int32) × (Int32) × (Int32) × (Int32) × (Nat → Int32) × (Nat → Int32) × (Nat → Int32) × (Nat → Int32) × (Nat → Int32)) => Φ r u.1 u.2.1 u.2.2.1 u.2.2.2.1 u.2.2.2.2.1 u.2.2.2.2.2.1 u.2.2.2.2.2.2.1 u.2.2.2.2.2.2.2.1 u.2.2.2.2.2.2.2.2.1 u.2.2.2.2.2.2.2.2.2.1 u.2.2.2.2.2.2.2.2.2.2.1 u.2.2.2.2.2.2.2.2.2.2.2.1 u.2.2.2.2.2.2.2.2.2.2.2.2.1 u.2.2.2.2.2.2.2.2.2.2.2.2.2.1 u.2.2.2.2.2.2.2.2.2.2.2.2.2.2.1 u.2.2.2.2.2.2.2.2.2.2.2.2.2.2.2.1 u.2.2.2.2.2.2.2.2.2.2.2.2.2.2.2.2.1 u.2.2.2.2.2.2.2.2.2.2.2.2.2.2.2.2.2.1 u.2.2.2.2.2.2.2.2.2.2.2.2.2.2.2.2.2.2.1 u.2.2.2.2.2.2.2.2.2.2.2.2.2.2.2.2.2.2.2.1 u.2.2.2.2.2.2.2.2.2.2.2.2.2.2.2.2.2.2.2.2.1 u.2.2.2.2.2.2.2.2.2.2.2.2.2.2.2.2.2.2.2.2.2.1 u.2.2.2.2.2.2.2.2.2.2.2.2.2.2.2.2.2.2.2.2.2.2) (fun u => (wW_X7_mark3 ak ad h7 xa ma mk ka u.1 u.2.1 u.2.2.1 u.2.2.2.1 u.2.2.2.2.1 u.2.2.2.2.2.1 u.2.2.2.2.2.2.1 u.2.2.2.2.2.2.2.1 u.2.2.2.2.2.2.2.2.1 u.2.2.2.2.2.2.2.2.2.1 u.2.2.2.2.2.2.2.2.2.2.1 u.2.2.2.2.2.2.2.2.2.2.2.1 u.2.2.2.2.2.2.2.2.2.2.2.2.1 u.2.2.2.2.2.2.2.2.2.2.2.2.2.1 u.2.2.2.2.2.2.2.2.2.2.2.2.2.2.1 u.2.2.2.2.2.2.2.2.2.2.2.2.2.2.2.1 u.2.2.2.2.2.2.2.2.2.2.2.2.2.2.2.2.1 u.2.2.2.2.2.2.2.2.2.2.2.2.2.2.2.2.2.1 u.2.2.2.2.2.2.2.2.2.2.2.2.2.2.2.2.2.2.1 u.2.2.2.2.2.2.2.2.2.2.2.2.2.2.2.2.2.2.2.1 u.2.2.2.2.2.2.2.2.2.2.2.2.2.2.2.2.2.2.2.2.1 u.2.2.2.2.2.2.2.2.2.2.2.2.2.2.2.2.2.2.2.2.2.1 u.2.2.2.2.2.2.2.2.2.2.2.2.2.2.2.2.2.2.2.2.2.2)) ((wW_X7_mark3 ak ad h7 xa ma mk ka Hpg Hway Hstate Hnext Hsteps Hwritten Hstuffs Htwins Hworn Hcells Hkept Bmarked Kpg Kway Kstate Knext Ksteps Kwritten Kstuffs Ktwins Kworn Kcells Kkept)) sz) 0 0 (va_A ((wW_X7_mark3 ak ad h7 xa ma mk ka Hpg Hway Hstate Hnext Hsteps Hwritten Hstuffs Htwins Hworn Hcells Hkept Bmarked Kpg Kway Kstate Knext Ksteps Kwritten Kstuffs Ktwins Kworn Kcells Kkept)) sz) := by
  refine Met.ofW (cc := cX7_mark) (maxL := 3) (ret := (some .boolean)) (by decide) rfl ?_
  intro p e s m args below meth c s₁ B hml hv
  obtain ⟨rfl, hsz, hP, hE, hD0, hT⟩ := hv
  have hx := B.exec
  have hb := B.bytes
  have hr := B.returns
  have hts := atoms_spec (ws := wsX7_mark) B.pre
  have hown : s.vm.findClass RX7 = some m.cls := findClass_of_methodNamed B.named
  have hlocks := B.notSynchronized
  subst hsz
  have hD := hD0.self (sz := s.heap.size)
  generalize hAe : va_A ((wW_X7_mark3 ak ad h7 xa ma mk ka Hpg Hway Hstate Hnext Hsteps Hwritten Hstuffs Htwins Hworn Hcells Hkept Bmarked Kpg Kway Kstate Knext Ksteps Kwritten Kstuffs Ktwins Kworn Kcells Kkept)) s.heap.size = A at hD hT ⊢
  have hA : ∀ q : Nat, s.heap.size ≤ q → A q := fun q h => by rw [← hAe]; exact Or.inr h
  have hS : va_S A s.heap s.heap [] := va_S.rf
  have hl := lv_entry ([.ref h7, .int (3), .int (xb)]) (n := 3) (Nat.le_of_ble_eq_true rfl)
  rw [lg_entry_eq]
  generalize (lg_sl ([.ref h7, .int (3), .int (xb)]) ++ List.replicate (3 - (lg_sl ([.ref h7, .int (3), .int (xb)])).length) Slot.unset).toArray = ls at hl ⊢
  have hl : lv_has ls 3 [(0, .ref h7), (1, .int (3)), (2, .int (xb))] := hl
  exact kj_X7_mark3_e hx hb hown hts hml hE hT hA (Nat.le_of_ble_eq_true rfl) (Nat.le_of_ble_eq_true rfl) ⟨Nat.le_of_ble_eq_true rfl, Nat.le_of_ble_eq_true rfl⟩ h7 xa ma mk ka xb Φ (fun r Hpg Hway Hstate Hnext Hsteps Hwritten Hstuffs Htwins Hworn Hcells Hkept Bmarked Kpg Kway Kstate Knext Ksteps Kwritten Kstuffs Ktwins Kworn Kcells Kkept H locs ls hz hw hP hD hS => W.zret (v := r) hx hb hr (bl_zn hz) (fun t ht hW => ⟨⟨r, (Hpg, Hway, Hstate, Hnext, Hsteps, Hwritten, Hstuffs, Htwins, Hworn, Hcells, Hkept, Bmarked, Kpg, Kway, Kstate, Knext, Ksteps, Kwritten, Kstuffs, Ktwins, Kworn, Kcells, Kkept), rfl, hw, by rw [ht]; exact hP, by rw [hAe]; exact hD⟩, by rw [hAe]; exact hS.F ht⟩) hS.2.2 dX7_mark_22) (fun r Hpg Hway Hstate Hnext Hsteps Hwritten Hstuffs Htwins Hworn Hcells Hkept Bmarked Kpg Kway Kstate Knext Ksteps Kwritten Kstuffs Ktwins Kworn Kcells Kkept H locs ls hz hw hP hD hS => W.zret (v := r) hx hb hr (bl_zn hz) (fun t ht hW => ⟨⟨r, (Hpg, Hway, Hstate, Hnext, Hsteps, Hwritten, Hstuffs, Htwins, Hworn, Hcells, Hkept, Bmarked, Kpg, Kway, Kstate, Knext, Ksteps, Kwritten, Kstuffs, Ktwins, Kworn, Kcells, Kkept), rfl, hw, by rw [ht]; exact hP, by rw [hAe]; exact hD⟩, by rw [hAe]; exact hS.F ht⟩) hS.2.2 dX7_mark_64) Hpg Hway Hstate Hnext Hsteps Hwritten Hstuffs Htwins Hworn Hcells Hkept Bmarked Kpg Kway Kstate Knext Ksteps Kwritten Kstuffs Ktwins Kworn Kcells Kkept _ _ _ hf hP hD hS hl

def wW_X7_markx (ak : Nat → ClassId) (ad : Nat → Nat) (h7 : Nat) (xa : Nat → Nat) (mk : Nat → Nat) (Bmarked : Nat → Int32) : va_W := [(h7, .inr (6, wob xa )), ((xa 6), .inl (ak 5, 4, .inr (.inr (.inr (.inr (mkA mk)))))), ((xa 7), .inl (ak 3, 4, .inl (Bmarked)))]
def kf_X7_markx_23 (Bmarked : Nat → Int32) (xm : Int32) (xb : Int32)  (Φ : Int32 → Prop)  : Prop := (xb = 0 → False) ∧ (¬ xb = 0 → False)
set_option maxHeartbeats 4000000 in
set_option maxRecDepth 100000 in
theorem kj_X7_markx_23 {p : Program} {l : Launch} {e : Env} {R : Room} {s : State} {m : MethodId} {args : Array Value} {below : List Frame} {meth : Method} {c : Code} {cells slots : Nat} {Q : State → Prop} {A : Nat → Prop} {D : va_G} {ak : Nat → ClassId} {ad : Nat → Nat} (hx : p.tables.exec = Jvm.exec) (hb : c.code = cX7_mark) (hown : s.vm.findClass RX7 = some m.cls) (hts : ∀ w ∈ wsX7_mark, w.before args s = true) (hml : c.maxLocals = 3) (hE : EV D ak s) (hT : ST D ak ad A s s.heap) (hA : ∀ q, s.heap.size ≤ q → A q) (hRf : 1 ≤ R.frames) (hRl : 21 ≤ R.locals) (hRc : cells ≤ R.cells ∧ slots ≤ R.slots) (h7 : Nat) (xa : Nat → Nat) (mk : Nat → Nat) (Bmarked : Nat → Int32) (xm : Int32) (xb : Int32)  (Φ : Int32 → Prop)
    (kR22 : ∀ (r : Int32)  (H : Heap) (locs : List Loc) (ls : Array Slot), (r = 0 ∨ r = 1) → Φ r  → va_P D vwCl (wW_X7_markx ak ad h7 xa mk Bmarked) H → va_D A (wW_X7_markx ak ad h7 xa mk Bmarked) → va_S A s.heap H locs → W p l e R s m args below meth c H locs cells slots Q (F0 m 22 ls [.int r]))
    (kR64 : ∀ (r : Int32)  (H : Heap) (locs : List Loc) (ls : Array Slot), (r = 0 ∨ r = 1) → Φ r  → va_P D vwCl (wW_X7_markx ak ad h7 xa mk Bmarked) H → va_D A (wW_X7_markx ak ad h7 xa mk Bmarked) → va_S A s.heap H locs → W p l e R s m args below meth c H locs cells slots Q (F0 m 64 ls [.int r]))
    : ∀  (H : Heap) (locs : List Loc) (ls : Array Slot), kf_X7_markx_23 Bmarked xm xb  Φ  → va_P D vwCl (wW_X7_markx ak ad h7 xa mk Bmarked) H → va_D A (wW_X7_markx ak ad h7 xa mk Bmarked) → va_S A s.heap H locs → lv_has ls 3 [(0, .ref h7), (1, .int (xm)), (2, .int (xb))] → W p l e R s m args below meth c H locs cells slots Q (F0 m 23 ls ([])) := by
  intro  H locs ls hw hP hD hS hl
  delta kf_X7_markx_23 at hw
  refine lv_iload_n hx hb dX7_mark_23 rfl (lv_at hl 2 rfl) ?_
  refine lv_if_eq (tgt := 43) hx hb dX7_mark_24 (by decide) (fun c_5 => ?_) (fun c_5 => ?_)
  · replace hw := hw.1 c_5
    refine lv_aload_n hx hb dX7_mark_43 rfl (lv_at hl 0 rfl) ?_
    refine vt_get (D := D) (ci := 6) (v := .ref (xa 6)) (C := RX7) (T := TX7) (N := 10) hx hb hts (fun w h => wm_c (wc_X7 w h)) hown hE.1 hP 0 rfl rfl 6 (by decide) tX7_6 (hts (.fieldLink RX7 47 "WornLines" "marks" "[LWornLines$Machine;") (wm_c hw_601)) (fun _ h9 => h9) rfl dX7_mark_44 ?_
    refine lv_iload_n hx hb dX7_mark_47 rfl (lv_at hl 1 rfl) ?_
    exact hw.elim
  · replace hw := hw.2 c_5
    refine lv_aload_n hx hb dX7_mark_27 rfl (lv_at hl 0 rfl) ?_
    refine vt_get (D := D) (ci := 6) (v := .ref (xa 3)) (C := RX7) (T := TX7) (N := 10) hx hb hts (fun w h => wm_c (wc_X7 w h)) hown hE.1 hP 0 rfl rfl 3 (by decide) tX7_3 (hts (.fieldLink RX7 37 "WornLines" "hand" "LWornLines$Machine;") (wm_c hw_540)) (fun _ h9 => h9) rfl dX7_mark_28 ?_
    refine lv_aload_n hx hb dX7_mark_31 rfl (lv_at hl 0 rfl) ?_
    refine vt_get (D := D) (ci := 6) (v := .ref (xa 6)) (C := RX7) (T := TX7) (N := 10) hx hb hts (fun w h => wm_c (wc_X7 w h)) hown hE.1 hP 0 rfl rfl 6 (by decide) tX7_6 (hts (.fieldLink RX7 47 "WornLines" "marks" "[LWornLines$Machine;") (wm_c hw_601)) (fun _ h9 => h9) rfl dX7_mark_32 ?_
    refine lv_iload_n hx hb dX7_mark_35 rfl (lv_at hl 1 rfl) ?_
    exact hw.elim

def wp_X7_markx (Bmarked : Nat → Int32) (xm : Int32) (xb : Int32)  (Φ : Int32 → Prop) : Prop := wp_X7_within xm 4 (fun r_2 => (r_2 = 0 → Φ 0 ) ∧ (¬ r_2 = 0 → (xb = 0 → kf_X7_markx_23 Bmarked xm xb  Φ ) ∧ (¬ xb = 0 → vp_in xm 4 ∧ (¬ (Bmarked (xm).toNatClampNeg) = 0 → kf_X7_markx_23 Bmarked xm xb  Φ ) ∧ ((Bmarked (xm).toNatClampNeg) = 0 → Φ 0 ))))
set_option maxHeartbeats 4000000 in
set_option maxRecDepth 100000 in
theorem kj_X7_markx_e {p : Program} {l : Launch} {e : Env} {R : Room} {s : State} {m : MethodId} {args : Array Value} {below : List Frame} {meth : Method} {c : Code} {cells slots : Nat} {Q : State → Prop} {A : Nat → Prop} {D : va_G} {ak : Nat → ClassId} {ad : Nat → Nat} (hx : p.tables.exec = Jvm.exec) (hb : c.code = cX7_mark) (hown : s.vm.findClass RX7 = some m.cls) (hts : ∀ w ∈ wsX7_mark, w.before args s = true) (hml : c.maxLocals = 3) (hE : EV D ak s) (hT : ST D ak ad A s s.heap) (hA : ∀ q, s.heap.size ≤ q → A q) (hRf : 1 ≤ R.frames) (hRl : 21 ≤ R.locals) (hRc : cells ≤ R.cells ∧ slots ≤ R.slots) (h7 : Nat) (xa : Nat → Nat) (mk : Nat → Nat) (Bmarked : Nat → Int32) (xm : Int32) (xb : Int32)  (Φ : Int32 → Prop)
    (kR22 : ∀ (r : Int32)  (H : Heap) (locs : List Loc) (ls : Array Slot), (r = 0 ∨ r = 1) → Φ r  → va_P D vwCl (wW_X7_markx ak ad h7 xa mk Bmarked) H → va_D A (wW_X7_markx ak ad h7 xa mk Bmarked) → va_S A s.heap H locs → W p l e R s m args below meth c H locs cells slots Q (F0 m 22 ls [.int r]))
    (kR64 : ∀ (r : Int32)  (H : Heap) (locs : List Loc) (ls : Array Slot), (r = 0 ∨ r = 1) → Φ r  → va_P D vwCl (wW_X7_markx ak ad h7 xa mk Bmarked) H → va_D A (wW_X7_markx ak ad h7 xa mk Bmarked) → va_S A s.heap H locs → W p l e R s m args below meth c H locs cells slots Q (F0 m 64 ls [.int r]))
    : ∀  (H : Heap) (locs : List Loc) (ls : Array Slot), wp_X7_markx Bmarked xm xb  Φ → va_P D vwCl (wW_X7_markx ak ad h7 xa mk Bmarked) H → va_D A (wW_X7_markx ak ad h7 xa mk Bmarked) → va_S A s.heap H locs → lv_has ls 3 [(0, .ref h7), (1, .int (xm)), (2, .int (xb))] → W p l e R s m args below meth c H locs cells slots Q (F0 m 0 ls ([])) := by
  intro  H locs ls hw hP hD hS hl
  delta wp_X7_markx at hw
  refine lv_iload_n hx hb dX7_mark_0 rfl (lv_at hl 1 rfl) ?_
  refine lv_iconst (v := 4) hx hb dX7_mark_1 (by decide) ?_
  refine kc_i (wc := []) (wr := [(h7, .inr (6, wob xa )), ((xa 6), .inl (ak 5, 4, .inr (.inr (.inr (.inr (mkA mk)))))), ((xa 7), .inl (ak 3, 4, .inl (Bmarked)))]) hP hD hS hA [] [0, 1, 2] rfl rfl (by decide) (by decide) (va_runS (As := [.int (xm), .int (4)]) (rest := []) ⟨hx, hb, hml, hown, hts⟩ (c_X7_within l D ak ad _ xm 4 _ hw) (va_cwS 2 hts gX7_mark_X7_within rfl rfl rfl hz_X7_within ⟨(Nat.le_trans (Nat.le_of_ble_eq_true rfl) hRf), (Nat.le_trans (Nat.le_of_ble_eq_true rfl) hRl)⟩) (kc_pre (As := [.int (xm), .int (4)]) (wc := []) hE hT hP hD hS hA [] (by decide) rfl rfl) rfl rfl hl.1 rfl (lv_room (Nat.le_of_ble_eq_true rfl)) dX7_mark_2 ⟨hRc.1, hRc.2⟩) (fun r_2 u_1 H locs hw hP hD hS => ?_)
  try dsimp -zeta only at hw
  have hP : va_P D vwCl (wW_X7_markx ak ad h7 xa mk Bmarked) H := hP.sub [0, 1, 2] rfl
  have hD : va_D A (wW_X7_markx ak ad h7 xa mk Bmarked) := hD.sub [0, 1, 2] (by decide) rfl
  refine lv_if_eq (tgt := 21) hx hb dX7_mark_5 (by decide) (fun c_3 => ?_) (fun c_3 => ?_)
  · replace hw := hw.1 c_3
    refine lv_iconst (v := 0) hx hb dX7_mark_21 (by decide) ?_
    exact kR22 0  _ _ _ (Or.inl rfl) hw hP hD hS
  · replace hw := hw.2 c_3
    refine lv_iload_n hx hb dX7_mark_8 rfl (lv_at hl 2 rfl) ?_
    refine lv_if_eq (tgt := 23) hx hb dX7_mark_9 (by decide) (fun c_4 => ?_) (fun c_4 => ?_)
    · replace hw := hw.1 c_4
      exact kj_X7_markx_23 hx hb hown hts hml hE hT hA hRf hRl hRc h7 xa mk Bmarked xm xb  Φ  kR22 kR64  _ _ _ hw hP hD hS (lv_sub hl [0, 1, 2] rfl)
    · replace hw := hw.2 c_4
      refine lv_aload_n hx hb dX7_mark_12 rfl (lv_at hl 0 rfl) ?_
      refine vt_get (D := D) (ci := 6) (v := .ref (xa 7)) (C := RX7) (T := TX7) (N := 10) hx hb hts (fun w h => wm_c (wc_X7 w h)) hown hE.1 hP 0 rfl rfl 7 (by decide) tX7_7 (hts (.fieldLink RX7 51 "WornLines" "marked" "[Z") (wm_c hw_602)) (fun _ h9 => h9) rfl dX7_mark_13 ?_
      refine lv_iload_n hx hb dX7_mark_16 rfl (lv_at hl 1 rfl) ?_
      obtain ⟨h_6, hw⟩ := hw
      refine va_zald hx hb hE.1 hP 2 3 rfl rfl (h_6) dX7_mark_17 ?_
      refine lv_if_ne (tgt := 23) hx hb dX7_mark_18 (by decide) (fun c_7 => ?_) (fun c_7 => ?_)
      · replace hw := hw.1 c_7
        exact kj_X7_markx_23 hx hb hown hts hml hE hT hA hRf hRl hRc h7 xa mk Bmarked xm xb  Φ  kR22 kR64  _ _ _ hw hP hD hS (lv_sub hl [0, 1, 2] rfl)
      · replace hw := hw.2 c_7
        refine lv_iconst (v := 0) hx hb dX7_mark_21 (by decide) ?_
        exact kR22 0  _ _ _ (Or.inl rfl) hw hP hD hS
set_option maxHeartbeats 4000000 in
set_option maxRecDepth 100000 in
theorem c_X7_markx (l : Launch) (D : va_G) (ak : Nat → ClassId) (ad : Nat → Nat) (sz : Nat) (h7 : Nat) (xa : Nat → Nat) (mk : Nat → Nat) (Bmarked : Nat → Int32) (xm : Int32) (xb : Int32) (Φ : Int32 → Prop) (hf : wp_X7_markx Bmarked xm xb Φ) : Met l yX7_mark wsX7_mark ({ frames := 1, cells := 0, slots := 0, locals := 21 }) (cPre D ak ad [.ref h7, .int (xm), .int (xb)] ((wW_X7_markx ak ad h7 xa mk Bmarked)) sz) (cI D (S := Unit) (fun (r : Int32) (u : Unit) => Φ r ) (fun u => (wW_X7_markx ak ad h7 xa mk Bmarked)) ((wW_X7_markx ak ad h7 xa mk Bmarked)) sz) 0 0 (va_A ((wW_X7_markx ak ad h7 xa mk Bmarked)) sz) := by
  refine Met.ofW (cc := cX7_mark) (maxL := 3) (ret := (some .boolean)) (by decide) rfl ?_
  intro p e s m args below meth c s₁ B hml hv
  obtain ⟨rfl, hsz, hP, hE, hD0, hT⟩ := hv
  have hx := B.exec
  have hb := B.bytes
  have hr := B.returns
  have hts := atoms_spec (ws := wsX7_mark) B.pre
  have hown : s.vm.findClass RX7 = some m.cls := findClass_of_methodNamed B.named
  have hlocks := B.notSynchronized
  subst hsz
  have hD := hD0.self (sz := s.heap.size)
  generalize hAe : va_A ((wW_X7_markx ak ad h7 xa mk Bmarked)) s.heap.size = A at hD hT ⊢
  have hA : ∀ q : Nat, s.heap.size ≤ q → A q := fun q h => by rw [← hAe]; exact Or.inr h
  have hS : va_S A s.heap s.heap [] := va_S.rf
  have hl := lv_entry ([.ref h7, .int (xm), .int (xb)]) (n := 3) (Nat.le_of_ble_eq_true rfl)
  rw [lg_entry_eq]
  generalize (lg_sl ([.ref h7, .int (xm), .int (xb)]) ++ List.replicate (3 - (lg_sl ([.ref h7, .int (xm), .int (xb)])).length) Slot.unset).toArray = ls at hl ⊢
  have hl : lv_has ls 3 [(0, .ref h7), (1, .int (xm)), (2, .int (xb))] := hl
  exact kj_X7_markx_e hx hb hown hts hml hE hT hA (Nat.le_of_ble_eq_true rfl) (Nat.le_of_ble_eq_true rfl) ⟨Nat.le_of_ble_eq_true rfl, Nat.le_of_ble_eq_true rfl⟩ h7 xa mk Bmarked xm xb Φ (fun r  H locs ls hz hw hP hD hS => W.zret (v := r) hx hb hr (bl_zn hz) (fun t ht hW => ⟨⟨r, (), rfl, hw, by rw [ht]; exact hP, by rw [hAe]; exact hD⟩, by rw [hAe]; exact hS.F ht⟩) hS.2.2 dX7_mark_22) (fun r  H locs ls hz hw hP hD hS => W.zret (v := r) hx hb hr (bl_zn hz) (fun t ht hW => ⟨⟨r, (), rfl, hw, by rw [ht]; exact hP, by rw [hAe]; exact hD⟩, by rw [hAe]; exact hS.F ht⟩) hS.2.2 dX7_mark_64)  _ _ _ hf hP hD hS hl
end
section
def gRows (ak : Nat → ClassId) (gq : Nat → Nat) (L : Nat → Nat → Int32) : va_W := [(gq 0, .inl (ak 0, 65, .inl (L 0))), (gq 1, .inl (ak 0, 65, .inl (L 1))), (gq 2, .inl (ak 0, 65, .inl (L 2))), (gq 3, .inl (ak 0, 65, .inl (L 3))), (gq 4, .inl (ak 0, 65, .inl (L 4))), (gq 5, .inl (ak 0, 65, .inl (L 5))), (gq 6, .inl (ak 0, 65, .inl (L 6))), (gq 7, .inl (ak 0, 65, .inl (L 7))), (gq 8, .inl (ak 0, 65, .inl (L 8))), (gq 9, .inl (ak 0, 65, .inl (L 9))), (gq 10, .inl (ak 0, 65, .inl (L 10))), (gq 11, .inl (ak 0, 65, .inl (L 11))), (gq 12, .inl (ak 0, 65, .inl (L 12))), (gq 13, .inl (ak 0, 65, .inl (L 13))), (gq 14, .inl (ak 0, 65, .inl (L 14))), (gq 15, .inl (ak 0, 65, .inl (L 15))), (gq 16, .inl (ak 0, 65, .inl (L 16)))]
def updR (L : Nat → Nat → Int32) (k : Nat) (f : Nat → Int32) : Nat → Nat → Int32 := fun j => if j = k then f else L j
def grA (gq : Nat → Nat) : Nat → Option Nat := fun i => if i < 17 then some (gq i) else none
theorem gr_at {ak : Nat → ClassId} {gq : Nat → Nat} {L : Nat → Nat → Int32} : ∀ {k : Nat}, k < 17 → (gRows ak gq L)[k]? = some (gq k, .inl (ak 0, 65, .inl (L k)))
  | 0, _ => rfl
  | 1, _ => rfl
  | 2, _ => rfl
  | 3, _ => rfl
  | 4, _ => rfl
  | 5, _ => rfl
  | 6, _ => rfl
  | 7, _ => rfl
  | 8, _ => rfl
  | 9, _ => rfl
  | 10, _ => rfl
  | 11, _ => rfl
  | 12, _ => rfl
  | 13, _ => rfl
  | 14, _ => rfl
  | 15, _ => rfl
  | 16, _ => rfl
  | k + 17, h => absurd h (by omega)
theorem gr_set {ak : Nat → ClassId} {gq : Nat → Nat} {L : Nat → Nat → Int32} {f : Nat → Int32} : ∀ {k : Nat}, k < 17 → (gRows ak gq L).set k (gq k, .inl (ak 0, 65, .inl f)) = gRows ak gq (updR L k f)
  | 0, _ => rfl
  | 1, _ => rfl
  | 2, _ => rfl
  | 3, _ => rfl
  | 4, _ => rfl
  | 5, _ => rfl
  | 6, _ => rfl
  | 7, _ => rfl
  | 8, _ => rfl
  | 9, _ => rfl
  | 10, _ => rfl
  | 11, _ => rfl
  | 12, _ => rfl
  | 13, _ => rfl
  | 14, _ => rfl
  | 15, _ => rfl
  | 16, _ => rfl
  | k + 17, h => absurd h (by omega)
theorem vp_lt {i : Int32} {n : Nat} (h : vp_in i n) : i.toNatClampNeg < n := Nat.not_le.mp fun q => h (Or.inr q)
theorem gw_at {pre : va_W} {ak : Nat → ClassId} {gq : Nat → Nat} {L : Nat → Nat → Int32} {k : Nat} (n : Nat) (hn : pre.length = n) (h : k < 17) : (pre ++ gRows ak gq L)[n + k]? = some (gq k, .inl (ak 0, 65, .inl (L k))) := by
  subst hn
  rw [List.getElem?_append_right (by omega), Nat.add_sub_cancel_left]
  exact gr_at h
theorem gw_set {pre : va_W} {ak : Nat → ClassId} {gq : Nat → Nat} {L : Nat → Nat → Int32} {k : Nat} {f : Nat → Int32} (n : Nat) (hn : pre.length = n) (h : k < 17) : (pre ++ gRows ak gq L).set (n + k) (gq k, .inl (ak 0, 65, .inl f)) = pre ++ gRows ak gq (updR L k f) := by
  subst hn
  rw [List.set_append_right _ _ (by omega), Nat.add_sub_cancel_left, gr_set h]
section GRS
variable {p : Program} {l : Launch} {e : Env} {R : Room} {s : State} {m : MethodId} {args : Array Value} {below : List Frame} {meth : Method} {c : Code} {H : Heap} {locs : List Loc} {cells slots : Nat} {Q : State → Prop}
variable {cc : ByteArray} {pc : Nat} {ls : Array Slot} {rest st0 : List Value} {D : va_G} {A : Nat → Prop} {a : Nat} {ws : va_W} {ak : Nat → ClassId} {aa : Array Value} {mc ms : Nat}
theorem kg_ald {gq : Nat → Nat} (hexec : p.tables.exec = Jvm.exec) (hb : c.code = cc) (hE : EV D ak s) (hP : va_P D vwCl ws H) (q0 : Nat) (ha : ws[q0]? = some (a, .inl (ak 6, 17, .inr (.inr (.inr (.inr (grA gq))))))) {i : Int32} (hin : vp_in i 17) (hdg : decode cc pc = .ok (.aaload, 1))
    (kk : W p l e R s m args below meth c H locs cells slots Q (F0 m (pc + 1) ls (.ref (gq i.toNatClampNeg) :: rest))) : W p l e R s m args below meth c H locs cells slots Q (F0 m pc ls (.int i :: .ref a :: rest)) := by
  have hlt : i.toNatClampNeg < 17 := vp_lt hin
  have hv : va_rf (grA gq i.toNatClampNeg) = .ref (gq i.toNatClampNeg) := by unfold grA; rw [if_pos hlt]; rfl
  refine W.aald (v := va_rf (grA gq i.toNatClampNeg)) (ty := .array .int) hexec hb (hP q0 _ ha) ((hE.1.2 6 _ rfl).1 17 (fun j => va_rf (grA gq j))) rfl (fun q => by cases q) (by show ¬ (i < 0 ∨ (arrV _ _ _).slots.size ≤ _); rw [arrV_size]; exact hin) (by show (arrV _ _ _).slots[_]? = _; rw [arrV_read _ _ hlt]) rfl rfl hdg ?_
  rw [hv]
  exact kk
theorem kc_v1 {S : Type} {post : S → Prop} {w : S → va_W} {w1 : S → va_E} {q : Nat × va_E} (hP : va_P D vwCl ws H) (hD : va_D A ws) (hS : va_S A s.heap H locs) (hA : ∀ q, s.heap.size ≤ q → A q) (i : Nat) (he : ws[i]? = some q) (hw1 : ∀ u, w u = [(q.1, w1 u)])
    (hr : va_Run p l e R s m args below meth c H locs cells slots mc ms (F0 m pc ls st0) rest (cV D post w [q] H.size aa) (va_A [q] H.size))
    (kk : ∀ (u : S) (H1 : Heap) (locs1 : List Loc), post u → va_P D vwCl (ws.set i (q.1, w1 u)) H1 → va_D A (ws.set i (q.1, w1 u)) → va_S A s.heap H1 locs1 → W p l e R s m args below meth c H1 locs1 (cells + mc) (slots + ms) Q (F0 m (pc + 3) ls rest)) : W p l e R s m args below meth c H locs cells slots Q (F0 m pc ls st0) := by
  have hF : ∀ x, va_A [q] H.size x → A x := by
    intro x hx
    rcases hx with ⟨k, e1, hk⟩ | hx
    · match k, hk with
      | 0, hk => cases hk; exact hD.2 i _ he
      | k + 1, hk => cases hk
    · exact hA x (Nat.le_trans hS.1 hx)
  refine va_callv hr hS (fun x _ h => hF x h) hF (fun u t H1 locs1 ht hvm hw hB hz hk hS1 => ?_)
  obtain ⟨hP1, hD1⟩ := hB
  rw [ht, hw1 u] at hP1
  refine kk u H1 locs1 hw ?_ (hD.set he) hS1
  intro k p hp
  by_cases hki : i = k
  · subst hki
    have hlt : i < ws.length := (List.getElem?_eq_some_iff.mp he).1
    rw [List.getElem?_set_self hlt] at hp
    cases hp
    exact hP1 0 _ rfl
  · rw [List.getElem?_set_ne hki] at hp
    have hat := hP k p hp
    refine hat.kept (hk p.1 hat.lt ?_)
    intro hx
    rcases hx with ⟨j, e1, hj⟩ | hx
    · match j, hj with
      | 0, hj =>
        have e2 : q = (p.1, e1) := Option.some.inj (hj : some q = some (p.1, e1))
        exact hki (hD.1 i k q p he hp (by rw [e2]))
      | j + 1, hj => cases hj
    · exact absurd hat.lt (Nat.not_lt.mpr hx)
theorem kc_pre1 {ad : Nat → Nat} {As : List Value} {q : Nat × va_E} (hE : EV D ak s) (hT : ST D ak ad A s s.heap) (hP : va_P D vwCl ws H) (hD : va_D A ws) (hS : va_S A s.heap H locs) (hA : ∀ q, s.heap.size ≤ q → A q) (i : Nat) (he : ws[i]? = some q) : PreS s H (cPre D ak ad As [q] H.size) As :=
  kc_pre (As := As) hE hT hP hD hS hA [i] (by simp [va_nd]) (by simp [he]) (by simp [he])
end GRS
end
section
theorem dX0_leastCost_0 : decode cX0_leastCost 0 = .ok (.aload_n 0, 1) := by decide +kernel
theorem dX0_leastCost_1 : decode cX0_leastCost 1 = .ok (.getfield 17, 3) := by decide +kernel
theorem dX0_leastCost_4 : decode cX0_leastCost 4 = .ok (.iconst 0, 1) := by decide +kernel
theorem dX0_leastCost_5 : decode cX0_leastCost 5 = .ok (.aaload, 1) := by decide +kernel
theorem dX0_leastCost_6 : decode cX0_leastCost 6 = .ok (.iload_n 1, 1) := by decide +kernel
theorem dX0_leastCost_7 : decode cX0_leastCost 7 = .ok (.iaload, 1) := by decide +kernel
theorem dX0_leastCost_8 : decode cX0_leastCost 8 = .ok (.ldc 46, 2) := by decide +kernel
theorem dX0_leastCost_10 : decode cX0_leastCost 10 = .ok (.if_icmp .ge 14, 3) := by decide +kernel
theorem dX0_leastCost_24 : decode cX0_leastCost 24 = .ok (.iconst (-1), 1) := by decide +kernel
theorem dX0_leastCost_13 : decode cX0_leastCost 13 = .ok (.aload_n 0, 1) := by decide +kernel
theorem dX0_leastCost_14 : decode cX0_leastCost 14 = .ok (.getfield 17, 3) := by decide +kernel
theorem dX0_leastCost_17 : decode cX0_leastCost 17 = .ok (.iconst 0, 1) := by decide +kernel
theorem dX0_leastCost_18 : decode cX0_leastCost 18 = .ok (.aaload, 1) := by decide +kernel
theorem dX0_leastCost_19 : decode cX0_leastCost 19 = .ok (.iload_n 1, 1) := by decide +kernel
theorem dX0_leastCost_20 : decode cX0_leastCost 20 = .ok (.iaload, 1) := by decide +kernel
theorem dX0_leastCost_21 : decode cX0_leastCost 21 = .ok (.goto 4, 3) := by decide +kernel
theorem dX0_leastCost_25 : decode cX0_leastCost 25 = .ok (.ireturn, 1) := by decide +kernel
theorem dX0_find_31 : decode cX0_find 31 = .ok (.iload 5, 2) := by decide +kernel
theorem dX0_find_33 : decode cX0_find 33 = .ok (.iconst 4, 1) := by decide +kernel
theorem dX0_find_34 : decode cX0_find 34 = .ok (.if_icmp .gt 87, 3) := by decide +kernel
theorem dX0_find_121 : decode cX0_find 121 = .ok (.iinc 4 1, 3) := by decide +kernel
theorem dX0_find_124 : decode cX0_find 124 = .ok (.goto (-108), 3) := by decide +kernel
theorem dX0_find_37 : decode cX0_find 37 = .ok (.iload 5, 2) := by decide +kernel
theorem dX0_find_39 : decode cX0_find 39 = .ok (.iload_n 2, 1) := by decide +kernel
theorem dX0_find_40 : decode cX0_find 40 = .ok (.if_icmp .gt 81, 3) := by decide +kernel
theorem dX0_find_43 : decode cX0_find 43 = .ok (.aload_n 0, 1) := by decide +kernel
theorem dX0_find_44 : decode cX0_find 44 = .ok (.getfield 20, 3) := by decide +kernel
theorem dX0_find_47 : decode cX0_find 47 = .ok (.getfield 56, 3) := by decide +kernel
theorem dX0_find_50 : decode cX0_find 50 = .ok (.iload 4, 2) := by decide +kernel
theorem dX0_find_52 : decode cX0_find 52 = .ok (.iaload, 1) := by decide +kernel
theorem dX0_find_53 : decode cX0_find 53 = .ok (.iload 5, 2) := by decide +kernel
theorem dX0_find_55 : decode cX0_find 55 = .ok (.imul, 1) := by decide +kernel
theorem dX0_find_56 : decode cX0_find 56 = .ok (.aload_n 0, 1) := by decide +kernel
theorem dX0_find_57 : decode cX0_find 57 = .ok (.getfield 17, 3) := by decide +kernel
theorem dX0_find_60 : decode cX0_find 60 = .ok (.iload_n 1, 1) := by decide +kernel
theorem dX0_find_61 : decode cX0_find 61 = .ok (.iconst 1, 1) := by decide +kernel
theorem dX0_find_62 : decode cX0_find 62 = .ok (.iadd, 1) := by decide +kernel
theorem dX0_find_63 : decode cX0_find 63 = .ok (.aaload, 1) := by decide +kernel
theorem dX0_find_64 : decode cX0_find 64 = .ok (.iload_n 2, 1) := by decide +kernel
theorem dX0_find_65 : decode cX0_find 65 = .ok (.iload 5, 2) := by decide +kernel
theorem dX0_find_67 : decode cX0_find 67 = .ok (.isub, 1) := by decide +kernel
theorem dX0_find_68 : decode cX0_find 68 = .ok (.iaload, 1) := by decide +kernel
theorem dX0_find_69 : decode cX0_find 69 = .ok (.iadd, 1) := by decide +kernel
theorem dX0_find_70 : decode cX0_find 70 = .ok (.istore 6, 2) := by decide +kernel
theorem dX0_find_72 : decode cX0_find 72 = .ok (.aload_n 0, 1) := by decide +kernel
theorem dX0_find_73 : decode cX0_find 73 = .ok (.getfield 20, 3) := by decide +kernel
theorem dX0_find_76 : decode cX0_find 76 = .ok (.getfield 59, 3) := by decide +kernel
theorem dX0_find_79 : decode cX0_find 79 = .ok (.iload 4, 2) := by decide +kernel
theorem dX0_find_81 : decode cX0_find 81 = .ok (.iaload, 1) := by decide +kernel
theorem dX0_find_82 : decode cX0_find 82 = .ok (.iload 5, 2) := by decide +kernel
theorem dX0_find_84 : decode cX0_find 84 = .ok (.imul, 1) := by decide +kernel
theorem dX0_find_85 : decode cX0_find 85 = .ok (.aload_n 0, 1) := by decide +kernel
theorem dX0_find_86 : decode cX0_find 86 = .ok (.getfield 9, 3) := by decide +kernel
theorem dX0_find_89 : decode cX0_find 89 = .ok (.iload_n 1, 1) := by decide +kernel
theorem dX0_find_90 : decode cX0_find 90 = .ok (.iaload, 1) := by decide +kernel
theorem dX0_find_91 : decode cX0_find 91 = .ok (.if_icmp .lt 24, 3) := by decide +kernel
theorem dX0_find_115 : decode cX0_find 115 = .ok (.iinc 5 1, 3) := by decide +kernel
theorem dX0_find_118 : decode cX0_find 118 = .ok (.goto (-87), 3) := by decide +kernel
theorem dX0_find_94 : decode cX0_find 94 = .ok (.iload 6, 2) := by decide +kernel
theorem dX0_find_96 : decode cX0_find 96 = .ok (.iload_n 3, 1) := by decide +kernel
theorem dX0_find_97 : decode cX0_find 97 = .ok (.if_icmp .ge 18, 3) := by decide +kernel
theorem dX0_find_100 : decode cX0_find 100 = .ok (.iload 6, 2) := by decide +kernel
theorem dX0_find_102 : decode cX0_find 102 = .ok (.istore_n 3, 1) := by decide +kernel
theorem dX0_find_103 : decode cX0_find 103 = .ok (.aload_n 0, 1) := by decide +kernel
theorem dX0_find_104 : decode cX0_find 104 = .ok (.iload 4, 2) := by decide +kernel
theorem dX0_find_106 : decode cX0_find 106 = .ok (.putfield 50, 3) := by decide +kernel
theorem dX0_find_109 : decode cX0_find 109 = .ok (.aload_n 0, 1) := by decide +kernel
theorem dX0_find_110 : decode cX0_find 110 = .ok (.iload 5, 2) := by decide +kernel
theorem dX0_find_112 : decode cX0_find 112 = .ok (.putfield 47, 3) := by decide +kernel
theorem dX0_find_16 : decode cX0_find 16 = .ok (.iload 4, 2) := by decide +kernel
theorem dX0_find_18 : decode cX0_find 18 = .ok (.aload_n 0, 1) := by decide +kernel
theorem dX0_find_19 : decode cX0_find 19 = .ok (.getfield 20, 3) := by decide +kernel
theorem dX0_find_22 : decode cX0_find 22 = .ok (.getfield 53, 3) := by decide +kernel
theorem dX0_find_25 : decode cX0_find 25 = .ok (.if_icmp .ge 102, 3) := by decide +kernel
theorem dX0_find_127 : decode cX0_find 127 = .ok (.iload_n 3, 1) := by decide +kernel
theorem dX0_find_28 : decode cX0_find 28 = .ok (.iconst 1, 1) := by decide +kernel
theorem dX0_find_29 : decode cX0_find 29 = .ok (.istore 5, 2) := by decide +kernel
theorem dX0_find_0 : decode cX0_find 0 = .ok (.ldc 46, 2) := by decide +kernel
theorem dX0_find_2 : decode cX0_find 2 = .ok (.istore_n 3, 1) := by decide +kernel
theorem dX0_find_3 : decode cX0_find 3 = .ok (.aload_n 0, 1) := by decide +kernel
theorem dX0_find_4 : decode cX0_find 4 = .ok (.iconst (-1), 1) := by decide +kernel
theorem dX0_find_5 : decode cX0_find 5 = .ok (.putfield 50, 3) := by decide +kernel
theorem dX0_find_8 : decode cX0_find 8 = .ok (.aload_n 0, 1) := by decide +kernel
theorem dX0_find_9 : decode cX0_find 9 = .ok (.iconst 0, 1) := by decide +kernel
theorem dX0_find_10 : decode cX0_find 10 = .ok (.putfield 47, 3) := by decide +kernel
theorem dX0_find_13 : decode cX0_find 13 = .ok (.iconst 0, 1) := by decide +kernel
theorem dX0_find_14 : decode cX0_find 14 = .ok (.istore 4, 2) := by decide +kernel
theorem dX0_find_128 : decode cX0_find 128 = .ok (.ireturn, 1) := by decide +kernel
theorem dX0_choose_5 : decode cX0_choose 5 = .ok (.iload 4, 2) := by decide +kernel
theorem dX0_choose_7 : decode cX0_choose 7 = .ok (.iload_n 2, 1) := by decide +kernel
theorem dX0_choose_8 : decode cX0_choose 8 = .ok (.if_icmp .gt 28, 3) := by decide +kernel
theorem dX0_choose_11 : decode cX0_choose 11 = .ok (.iload_n 3, 1) := by decide +kernel
theorem dX0_choose_12 : decode cX0_choose 12 = .ok (.ifCond .lt 24, 3) := by decide +kernel
theorem dX0_choose_15 : decode cX0_choose 15 = .ok (.aload_n 0, 1) := by decide +kernel
theorem dX0_choose_16 : decode cX0_choose 16 = .ok (.iload 4, 2) := by decide +kernel
theorem dX0_choose_18 : decode cX0_choose 18 = .ok (.iload_n 3, 1) := by decide +kernel
set_option maxRecDepth 20000 in
theorem ggX0_choose_X0_find : GoodIn wsX0_choose wsX0_find := gup gc_X0_find
set_option maxRecDepth 20000 in
theorem gX0_choose_X0_find : GoodIn wsX0_choose (wsV RX0 42 RX0 yX0_find wsX0_find) := gup (glV hw_612 hw_613 hw_614 hw_615 gc_X0_find)
theorem dX0_choose_19 : decode cX0_choose 19 = .ok (.invokevirtual 42, 3) := by decide +kernel
theorem dX0_choose_22 : decode cX0_choose 22 = .ok (.pop, 1) := by decide +kernel
theorem dX0_choose_23 : decode cX0_choose 23 = .ok (.iload_n 3, 1) := by decide +kernel
theorem dX0_choose_24 : decode cX0_choose 24 = .ok (.aload_n 0, 1) := by decide +kernel
theorem dX0_choose_25 : decode cX0_choose 25 = .ok (.getfield 47, 3) := by decide +kernel
theorem dX0_choose_28 : decode cX0_choose 28 = .ok (.isub, 1) := by decide +kernel
theorem dX0_choose_29 : decode cX0_choose 29 = .ok (.istore_n 3, 1) := by decide +kernel
theorem dX0_choose_30 : decode cX0_choose 30 = .ok (.iinc 4 1, 3) := by decide +kernel
theorem dX0_choose_33 : decode cX0_choose 33 = .ok (.goto (-28), 3) := by decide +kernel
theorem dX0_choose_0 : decode cX0_choose 0 = .ok (.iload_n 1, 1) := by decide +kernel
theorem dX0_choose_1 : decode cX0_choose 1 = .ok (.istore_n 3, 1) := by decide +kernel
theorem dX0_choose_2 : decode cX0_choose 2 = .ok (.iconst 0, 1) := by decide +kernel
theorem dX0_choose_3 : decode cX0_choose 3 = .ok (.istore 4, 2) := by decide +kernel
theorem dX0_choose_36 : decode cX0_choose 36 = .ok (.return_, 1) := by decide +kernel
def lob (la : Nat → Nat) (x0 : Nat) (x3 x4 : Int32) : List Value := [.ref x0, .ref (la 0), .ref (la 1), .int x3, .int x4]

def wW_X0_leastCost (ak : Nat → ClassId) (ad : Nat → Nat) (hl_ : Nat) (la : Nat → Nat) (gq : Nat → Nat) (pg : Nat) (Lstuff : Int32) (Ltwins : Int32) (Lrow : Nat → Nat → Int32) : va_W := ([(hl_, .inr (0, lob la (pg) (Lstuff) (Ltwins))), ((la 1), .inl (ak 6, 17, .inr (.inr (.inr (.inr (grA gq))))))] ++ gRows ak gq Lrow)
def wp_X0_leastCost (Lrow : Nat → Nat → Int32) (xr : Int32)  (Φ : Int32 → Prop) : Prop := vp_in xr 65 ∧ (1000000000 ≤ (Lrow 0 (xr).toNatClampNeg) → Φ (-1) ) ∧ (¬ 1000000000 ≤ (Lrow 0 (xr).toNatClampNeg) → vp_in xr 65 ∧ Φ (Lrow 0 (xr).toNatClampNeg) )
set_option maxHeartbeats 4000000 in
set_option maxRecDepth 100000 in
theorem kj_X0_leastCost_e {p : Program} {l : Launch} {e : Env} {R : Room} {s : State} {m : MethodId} {args : Array Value} {below : List Frame} {meth : Method} {c : Code} {cells slots : Nat} {Q : State → Prop} {A : Nat → Prop} {D : va_G} {ak : Nat → ClassId} {ad : Nat → Nat} (hx : p.tables.exec = Jvm.exec) (hb : c.code = cX0_leastCost) (hown : s.vm.findClass RX0 = some m.cls) (hts : ∀ w ∈ wsX0_leastCost, w.before args s = true) (hml : c.maxLocals = 2) (hE : EV D ak s) (hT : ST D ak ad A s s.heap) (hA : ∀ q, s.heap.size ≤ q → A q) (hl_ : Nat) (la : Nat → Nat) (gq : Nat → Nat) (pg : Nat) (Lstuff : Int32) (Ltwins : Int32) (Lrow : Nat → Nat → Int32) (xr : Int32)  (Φ : Int32 → Prop)
    (kR25 : ∀ (r : Int32)  (H : Heap) (locs : List Loc) (ls : Array Slot), Φ r  → va_P D vwCl (wW_X0_leastCost ak ad hl_ la gq pg Lstuff Ltwins Lrow) H → va_D A (wW_X0_leastCost ak ad hl_ la gq pg Lstuff Ltwins Lrow) → va_S A s.heap H locs → W p l e R s m args below meth c H locs cells slots Q (F0 m 25 ls [.int r]))
    : ∀  (H : Heap) (locs : List Loc) (ls : Array Slot), wp_X0_leastCost Lrow xr  Φ → va_P D vwCl (wW_X0_leastCost ak ad hl_ la gq pg Lstuff Ltwins Lrow) H → va_D A (wW_X0_leastCost ak ad hl_ la gq pg Lstuff Ltwins Lrow) → va_S A s.heap H locs → lv_has ls 2 [(0, .ref hl_), (1, .int (xr))] → W p l e R s m args below meth c H locs cells slots Q (F0 m 0 ls ([])) := by
  intro  H locs ls hw hP hD hS hl
  delta wp_X0_leastCost at hw
  refine lv_aload_n hx hb dX0_leastCost_0 rfl (lv_at hl 0 rfl) ?_
  refine vt_get (D := D) (ci := 0) (v := .ref (la 1)) (C := RX0) (T := TX0) (N := 5) hx hb hts (fun w h => wm_c (wc_X0 w h)) hown hE.1 hP 0 rfl rfl 2 (by decide) tX0_2 (hts (.fieldLink RX0 17 "WornLines$Layout" "least" "[[I") (wm_c hw_311)) (fun _ h9 => h9) rfl dX0_leastCost_1 ?_
  refine lv_iconst (v := 0) hx hb dX0_leastCost_4 (by decide) ?_
  refine kg_ald hx hb hE hP 1 rfl (by unfold vp_in; decide) dX0_leastCost_5 ?_
  refine W.eq (g2 := F0 m 6 ls (.ref (gq 0) :: [])) rfl ?_
  refine lv_iload_n hx hb dX0_leastCost_6 rfl (lv_at hl 1 rfl) ?_
  obtain ⟨h_1, hw⟩ := hw
  refine va_iald hx hb hE.1 hP (2 + 0) 0 (gw_at 2 rfl (by decide)) rfl (h_1) dX0_leastCost_7 ?_
  refine lv_ldc hx hb hown (hts (.constant RX0 46 (1000000000)) (wm_c hw_606)) dX0_leastCost_8 ?_
  refine lv_icmp_ge (tgt := 24) hx hb dX0_leastCost_10 (by decide) (fun c_2 => ?_) (fun c_2 => ?_)
  · replace hw := hw.1 c_2
    refine lv_iconst (v := (-1)) hx hb dX0_leastCost_24 (by decide) ?_
    exact kR25 (-1)  _ _ _ hw hP hD hS
  · replace hw := hw.2 c_2
    refine lv_aload_n hx hb dX0_leastCost_13 rfl (lv_at hl 0 rfl) ?_
    refine vt_get (D := D) (ci := 0) (v := .ref (la 1)) (C := RX0) (T := TX0) (N := 5) hx hb hts (fun w h => wm_c (wc_X0 w h)) hown hE.1 hP 0 rfl rfl 2 (by decide) tX0_2 (hts (.fieldLink RX0 17 "WornLines$Layout" "least" "[[I") (wm_c hw_311)) (fun _ h9 => h9) rfl dX0_leastCost_14 ?_
    refine lv_iconst (v := 0) hx hb dX0_leastCost_17 (by decide) ?_
    refine kg_ald hx hb hE hP 1 rfl (by unfold vp_in; decide) dX0_leastCost_18 ?_
    refine W.eq (g2 := F0 m 19 ls (.ref (gq 0) :: [])) rfl ?_
    refine lv_iload_n hx hb dX0_leastCost_19 rfl (lv_at hl 1 rfl) ?_
    obtain ⟨h_3, hw⟩ := hw
    refine va_iald hx hb hE.1 hP (2 + 0) 0 (gw_at 2 rfl (by decide)) rfl (h_3) dX0_leastCost_20 ?_
    refine lv_goto (tgt := 25) hx hb dX0_leastCost_21 (by decide) ?_
    exact kR25 (Lrow 0 (xr).toNatClampNeg)  _ _ _ hw hP hD hS
set_option maxHeartbeats 4000000 in
set_option maxRecDepth 100000 in
theorem c_X0_leastCost (l : Launch) (D : va_G) (ak : Nat → ClassId) (ad : Nat → Nat) (sz : Nat) (hl_ : Nat) (la : Nat → Nat) (gq : Nat → Nat) (pg : Nat) (Lstuff : Int32) (Ltwins : Int32) (Lrow : Nat → Nat → Int32) (xr : Int32) (Φ : Int32 → Prop) (hf : wp_X0_leastCost Lrow xr Φ) : Met l yX0_leastCost wsX0_leastCost ({ frames := 0, cells := 0, slots := 0, locals := 0 }) (cPre D ak ad [.ref hl_, .int (xr)] ((wW_X0_leastCost ak ad hl_ la gq pg Lstuff Ltwins Lrow)) sz) (cI D (S := Unit) (fun (r : Int32) (u : Unit) => Φ r ) (fun u => (wW_X0_leastCost ak ad hl_ la gq pg Lstuff Ltwins Lrow)) ((wW_X0_leastCost ak ad hl_ la gq pg Lstuff Ltwins Lrow)) sz) 0 0 (va_A ((wW_X0_leastCost ak ad hl_ la gq pg Lstuff Ltwins Lrow)) sz) := by
  refine Met.ofW (cc := cX0_leastCost) (maxL := 2) (ret := (some .int)) (by decide) rfl ?_
  intro p e s m args below meth c s₁ B hml hv
  obtain ⟨rfl, hsz, hP, hE, hD0, hT⟩ := hv
  have hx := B.exec
  have hb := B.bytes
  have hr := B.returns
  have hts := atoms_spec (ws := wsX0_leastCost) B.pre
  have hown : s.vm.findClass RX0 = some m.cls := findClass_of_methodNamed B.named
  have hlocks := B.notSynchronized
  subst hsz
  have hD := hD0.self (sz := s.heap.size)
  generalize hAe : va_A ((wW_X0_leastCost ak ad hl_ la gq pg Lstuff Ltwins Lrow)) s.heap.size = A at hD hT ⊢
  have hA : ∀ q : Nat, s.heap.size ≤ q → A q := fun q h => by rw [← hAe]; exact Or.inr h
  have hS : va_S A s.heap s.heap [] := va_S.rf
  have hl := lv_entry ([.ref hl_, .int (xr)]) (n := 2) (Nat.le_of_ble_eq_true rfl)
  rw [lg_entry_eq]
  generalize (lg_sl ([.ref hl_, .int (xr)]) ++ List.replicate (2 - (lg_sl ([.ref hl_, .int (xr)])).length) Slot.unset).toArray = ls at hl ⊢
  have hl : lv_has ls 2 [(0, .ref hl_), (1, .int (xr))] := hl
  exact kj_X0_leastCost_e hx hb hown hts hml hE hT hA hl_ la gq pg Lstuff Ltwins Lrow xr Φ (fun r  H locs ls hw hP hD hS => W.iret (v := r) hx hb hr (fun t ht hW => ⟨⟨r, (), rfl, hw, by rw [ht]; exact hP, by rw [hAe]; exact hD⟩, by rw [hAe]; exact hS.F ht⟩) hS.2.2 dX0_leastCost_25)  _ _ _ hf hP hD hS hl

def wW_X0_find (ak : Nat → ClassId) (ad : Nat → Nat) (hl_ : Nat) (la : Nat → Nat) (gq : Nat → Nat) (pg : Nat) (Lstuff : Int32) (Ltwins : Int32) (Lpeak : Nat → Int32) (Lrow : Nat → Nat → Int32) : va_W := ([(hl_, .inr (0, lob la (pg) (Lstuff) (Ltwins))), ((la 0), .inl (ak 0, 16, .inl (Lpeak))), ((la 1), .inl (ak 6, 17, .inr (.inr (.inr (.inr (grA gq))))))] ++ gRows ak gq Lrow)
def wK_X0_find (ak : Nat → ClassId) (ad : Nat → Nat) (pg : Nat) (pa : Nat → Nat) (Pst : Int32) (Pce : Int32) (Pgi : Int32) (Pln : Int32) (Pbears : Nat → Int32) (Pcosts : Nat → Int32) : va_W := [(pg, .inr (2, pob pa (Pst) (Pce) (Pgi) (Pln))), ((pa 0), .inl (ak 0, 4, .inl (Pbears))), ((pa 1), .inl (ak 0, 4, .inl (Pcosts)))]
def lb_X0_find_31 (Lpeak : Nat → Int32) (Lrow : Nat → Nat → Int32) (Pst : Int32) (Pbears : Nat → Int32) (Pcosts : Nat → Int32) (xl : Int32) (xr : Int32) (κ16 : Int32 → Int32 → Int32 → Int32 → Prop) (Φ : Int32 → Int32 → Int32 → Prop) (back : Int32 → Int32 → Int32 → Int32 → Int32 → Prop) (Lstuff : Int32) (Ltwins : Int32) (l3 : Int32) (l4 : Int32) (l5 : Int32) : Prop := (4 < l5 → κ16 Lstuff Ltwins l3 (l4 + 1)) ∧ (¬ 4 < l5 → (xr < l5 → κ16 Lstuff Ltwins l3 (l4 + 1)) ∧ (¬ xr < l5 → vp_in l4 4 ∧ vp_in (xl + 1) 17 ∧ vp_in (xr - l5) 65 ∧ vp_in l4 4 ∧ vp_in xl 16 ∧ (((Pbears (l4).toNatClampNeg) * l5) < (Lpeak (xl).toNatClampNeg) → back Lstuff Ltwins l3 l4 (l5 + 1)) ∧ (¬ ((Pbears (l4).toNatClampNeg) * l5) < (Lpeak (xl).toNatClampNeg) → (l3 ≤ (((Pcosts (l4).toNatClampNeg) * l5) + (Lrow ((xl + 1).toNatClampNeg) (xr - l5).toNatClampNeg)) → back Lstuff Ltwins l3 l4 (l5 + 1)) ∧ (¬ l3 ≤ (((Pcosts (l4).toNatClampNeg) * l5) + (Lrow ((xl + 1).toNatClampNeg) (xr - l5).toNatClampNeg)) → back l4 l5 (((Pcosts (l4).toNatClampNeg) * l5) + (Lrow ((xl + 1).toNatClampNeg) (xr - l5).toNatClampNeg)) l4 (l5 + 1)))))
def lf_X0_find_31 (Lpeak : Nat → Int32) (Lrow : Nat → Nat → Int32) (Pst : Int32) (Pbears : Nat → Int32) (Pcosts : Nat → Int32) (xl : Int32) (xr : Int32) (κ16 : Int32 → Int32 → Int32 → Int32 → Prop) (Φ : Int32 → Int32 → Int32 → Prop) : Nat → Int32 → Int32 → Int32 → Int32 → Int32 → Prop
  | 0, _, _, _, _, _ => False
  | n_ + 1, Lstuff, Ltwins, l3, l4, l5 => lb_X0_find_31 Lpeak Lrow Pst Pbears Pcosts xl xr κ16 Φ (lf_X0_find_31 Lpeak Lrow Pst Pbears Pcosts xl xr κ16 Φ n_) Lstuff Ltwins l3 l4 l5
theorem li_X0_find_31 (Lpeak : Nat → Int32) (Lrow : Nat → Nat → Int32) (Pst : Int32) (Pbears : Nat → Int32) (Pcosts : Nat → Int32) (xl : Int32) (xr : Int32) (κ16 : Int32 → Int32 → Int32 → Int32 → Prop) (Φ : Int32 → Int32 → Int32 → Prop) (Inv : Int32 → Int32 → Int32 → Int32 → Int32 → Prop) (mu : Int32 → Int32 → Int32 → Int32 → Int32 → Nat) (hs : ∀ (back : Int32 → Int32 → Int32 → Int32 → Int32 → Prop) (Lstuff : Int32) (Ltwins : Int32) (l3 : Int32) (l4 : Int32) (l5 : Int32), Inv Lstuff Ltwins l3 l4 l5 → (∀ (Lstuff' : Int32) (Ltwins' : Int32) (l3' : Int32) (l4' : Int32) (l5' : Int32), Inv Lstuff' Ltwins' l3' l4' l5' → mu Lstuff' Ltwins' l3' l4' l5' < mu Lstuff Ltwins l3 l4 l5 → back Lstuff' Ltwins' l3' l4' l5') → lb_X0_find_31 Lpeak Lrow Pst Pbears Pcosts xl xr κ16 Φ back Lstuff Ltwins l3 l4 l5) : ∀ (n_ : Nat) (Lstuff : Int32) (Ltwins : Int32) (l3 : Int32) (l4 : Int32) (l5 : Int32), Inv Lstuff Ltwins l3 l4 l5 → mu Lstuff Ltwins l3 l4 l5 < n_ → lf_X0_find_31 Lpeak Lrow Pst Pbears Pcosts xl xr κ16 Φ n_ Lstuff Ltwins l3 l4 l5 := by
  intro n_
  induction n_ with
  | zero => intro Lstuff Ltwins l3 l4 l5 _ h; exact absurd h (Nat.not_lt_zero _)
  | succ n_ ih => intro Lstuff Ltwins l3 l4 l5 hI hm; exact hs _ Lstuff Ltwins l3 l4 l5 hI (fun Lstuff' Ltwins' l3' l4' l5' h1 h2 => ih Lstuff' Ltwins' l3' l4' l5' h1 (by omega))
set_option maxHeartbeats 4000000 in
set_option maxRecDepth 100000 in
theorem lp_X0_find_31 {p : Program} {l : Launch} {e : Env} {R : Room} {s : State} {m : MethodId} {args : Array Value} {below : List Frame} {meth : Method} {c : Code} {cells slots : Nat} {Q : State → Prop} {A : Nat → Prop} {D : va_G} {ak : Nat → ClassId} {ad : Nat → Nat} (hx : p.tables.exec = Jvm.exec) (hb : c.code = cX0_find) (hown : s.vm.findClass RX0 = some m.cls) (hts : ∀ w ∈ wsX0_find, w.before args s = true) (hml : c.maxLocals = 7) (hE : EV D ak s) (hT : ST D ak ad A s s.heap) (hA : ∀ q, s.heap.size ≤ q → A q) (hl_ : Nat) (la : Nat → Nat) (gq : Nat → Nat) (pg : Nat) (pa : Nat → Nat) (Lpeak : Nat → Int32) (Lrow : Nat → Nat → Int32) (Pst : Int32) (Pce : Int32) (Pgi : Int32) (Pln : Int32) (Pbears : Nat → Int32) (Pcosts : Nat → Int32) (xl : Int32) (xr : Int32) (hKT : KT D A (wK_X0_find ak ad pg pa Pst Pce Pgi Pln Pbears Pcosts) s.heap) (κ16 : Int32 → Int32 → Int32 → Int32 → Prop) (Φ : Int32 → Int32 → Int32 → Prop)
    (kk16 : ∀ (Lstuff : Int32) (Ltwins : Int32) (l3 : Int32) (l4 : Int32) (H : Heap) (locs : List Loc) (ls : Array Slot), κ16 Lstuff Ltwins l3 l4 → va_P D vwCl (wW_X0_find ak ad hl_ la gq pg Lstuff Ltwins Lpeak Lrow) H → va_D A (wW_X0_find ak ad hl_ la gq pg Lstuff Ltwins Lpeak Lrow) → va_S A s.heap H locs → lv_has ls 7 [(0, .ref hl_), (1, .int (xl)), (2, .int (xr)), (3, .int (l3)), (4, .int (l4))] → W p l e R s m args below meth c H locs cells slots Q (F0 m 16 ls ([])))
    (kR128 : ∀ (r : Int32) (Lstuff : Int32) (Ltwins : Int32) (H : Heap) (locs : List Loc) (ls : Array Slot), Φ r Lstuff Ltwins → va_P D vwCl (wW_X0_find ak ad hl_ la gq pg Lstuff Ltwins Lpeak Lrow) H → va_D A (wW_X0_find ak ad hl_ la gq pg Lstuff Ltwins Lpeak Lrow) → va_S A s.heap H locs → W p l e R s m args below meth c H locs cells slots Q (F0 m 128 ls [.int r]))
    : ∀ (n_ : Nat) (Lstuff : Int32) (Ltwins : Int32) (l3 : Int32) (l4 : Int32) (l5 : Int32) (H : Heap) (locs : List Loc) (ls : Array Slot), lf_X0_find_31 Lpeak Lrow Pst Pbears Pcosts xl xr κ16 Φ n_ Lstuff Ltwins l3 l4 l5 → va_P D vwCl (wW_X0_find ak ad hl_ la gq pg Lstuff Ltwins Lpeak Lrow) H → va_D A (wW_X0_find ak ad hl_ la gq pg Lstuff Ltwins Lpeak Lrow) → va_S A s.heap H locs → lv_has ls 7 [(0, .ref hl_), (1, .int (xl)), (2, .int (xr)), (3, .int (l3)), (4, .int (l4)), (5, .int (l5))] → W p l e R s m args below meth c H locs cells slots Q (F0 m 31 ls ([])) := by
  have hCW : ∀ {H : Heap} {locs : List Loc}, va_S A s.heap H locs → va_P D vwCl (wK_X0_find ak ad pg pa Pst Pce Pgi Pln Pbears Pcosts) H := fun hS => (hKT.kept hS.2.1).1
  intro n_
  induction n_ with
  | zero =>
    intro Lstuff Ltwins l3 l4 l5 H locs ls hw
    exact hw.elim
  | succ n_ ih =>
    intro Lstuff Ltwins l3 l4 l5 H locs ls hw hP hD hS hl
    have hw : lb_X0_find_31 Lpeak Lrow Pst Pbears Pcosts xl xr κ16 Φ (lf_X0_find_31 Lpeak Lrow Pst Pbears Pcosts xl xr κ16 Φ n_) Lstuff Ltwins l3 l4 l5 := hw
    delta lb_X0_find_31 at hw
    refine lv_iload hx hb dX0_find_31 (lv_at hl 5 rfl) ?_
    refine lv_iconst (v := 4) hx hb dX0_find_33 (by decide) ?_
    refine lv_icmp_gt (tgt := 121) hx hb dX0_find_34 (by decide) (fun c_2 => ?_) (fun c_2 => ?_)
    · replace hw := hw.1 c_2
      refine lv_iinc (v := (l4 + 1)) (lv' := [(4, .int (l4 + 1)), (0, .ref hl_), (1, .int (xl)), (2, .int (xr)), (3, .int (l3)), (5, .int (l5))]) hx hb dX0_find_121 hl (k := 4) rfl (rfl) (by decide) rfl (fun ls hl => ?_)
      refine lv_goto (tgt := 16) hx hb dX0_find_124 (by decide) ?_
      exact kk16 Lstuff Ltwins l3 (l4 + 1) _ _ _ hw hP hD hS (lv_sub hl [1, 2, 3, 4, 0] rfl)
    · replace hw := hw.2 c_2
      refine lv_iload hx hb dX0_find_37 (lv_at hl 5 rfl) ?_
      refine lv_iload_n hx hb dX0_find_39 rfl (lv_at hl 2 rfl) ?_
      refine lv_icmp_gt (tgt := 121) hx hb dX0_find_40 (by decide) (fun c_3 => ?_) (fun c_3 => ?_)
      · replace hw := hw.1 c_3
        refine lv_iinc (v := (l4 + 1)) (lv' := [(4, .int (l4 + 1)), (0, .ref hl_), (1, .int (xl)), (2, .int (xr)), (3, .int (l3)), (5, .int (l5))]) hx hb dX0_find_121 hl (k := 4) rfl (rfl) (by decide) rfl (fun ls hl => ?_)
        refine lv_goto (tgt := 16) hx hb dX0_find_124 (by decide) ?_
        exact kk16 Lstuff Ltwins l3 (l4 + 1) _ _ _ hw hP hD hS (lv_sub hl [1, 2, 3, 4, 0] rfl)
      · replace hw := hw.2 c_3
        refine lv_aload_n hx hb dX0_find_43 rfl (lv_at hl 0 rfl) ?_
        refine vt_get (D := D) (ci := 0) (v := .ref pg) (C := RX0) (T := TX0) (N := 5) hx hb hts (fun w h => wm_c (wc_X0 w h)) hown hE.1 hP 0 rfl rfl 0 (by decide) tX0_0 (hts (.fieldLink RX0 20 "WornLines$Layout" "programme" "LWornLines$Programme;") (wm_c hw_312)) (fun _ h9 => h9) rfl dX0_find_44 ?_
        refine vt_get (D := D) (ci := 2) (v := .ref (pa 1)) (C := RX2) (T := TX2) (N := 17) hx hb hts (fun w h => wm_c (wc_X2 w h)) hown hE.1 (hCW hS) 0 rfl rfl 2 (by decide) tX2_2 (hts (.fieldLink RX0 56 "WornLines$Programme" "costs" "[I") (wm_c hw_607)) (fun _ h9 => h9) rfl dX0_find_47 ?_
        refine lv_iload hx hb dX0_find_50 (lv_at hl 4 rfl) ?_
        obtain ⟨h_4, hw⟩ := hw
        refine va_iald hx hb hE.1 (hCW hS) 2 0 rfl rfl (h_4) dX0_find_52 ?_
        refine lv_iload hx hb dX0_find_53 (lv_at hl 5 rfl) ?_
        refine lv_imul hx hb dX0_find_55 ?_
        refine lv_aload_n hx hb dX0_find_56 rfl (lv_at hl 0 rfl) ?_
        refine vt_get (D := D) (ci := 0) (v := .ref (la 1)) (C := RX0) (T := TX0) (N := 5) hx hb hts (fun w h => wm_c (wc_X0 w h)) hown hE.1 hP 0 rfl rfl 2 (by decide) tX0_2 (hts (.fieldLink RX0 17 "WornLines$Layout" "least" "[[I") (wm_c hw_311)) (fun _ h9 => h9) rfl dX0_find_57 ?_
        refine lv_iload_n hx hb dX0_find_60 rfl (lv_at hl 1 rfl) ?_
        refine lv_iconst (v := 1) hx hb dX0_find_61 (by decide) ?_
        refine lv_iadd hx hb dX0_find_62 ?_
        obtain ⟨h_5, hw⟩ := hw
        refine kg_ald hx hb hE hP 2 rfl (h_5) dX0_find_63 ?_
        refine lv_iload_n hx hb dX0_find_64 rfl (lv_at hl 2 rfl) ?_
        refine lv_iload hx hb dX0_find_65 (lv_at hl 5 rfl) ?_
        refine lv_isub hx hb dX0_find_67 ?_
        obtain ⟨h_6, hw⟩ := hw
        refine va_iald hx hb hE.1 hP (3 + ((xl + 1).toNatClampNeg)) 0 (gw_at 3 rfl (vp_lt h_5)) rfl (h_6) dX0_find_68 ?_
        refine lv_iadd hx hb dX0_find_69 ?_
        refine lv_istore (lv' := [(6, .int (((Pcosts (l4).toNatClampNeg) * l5) + (Lrow ((xl + 1).toNatClampNeg) (xr - l5).toNatClampNeg))), (0, .ref hl_), (1, .int (xl)), (2, .int (xr)), (3, .int (l3)), (4, .int (l4)), (5, .int (l5))]) hx hb dX0_find_70 hl (by decide) rfl (fun ls hl => ?_)
        refine lv_aload_n hx hb dX0_find_72 rfl (lv_at hl 1 rfl) ?_
        refine vt_get (D := D) (ci := 0) (v := .ref pg) (C := RX0) (T := TX0) (N := 5) hx hb hts (fun w h => wm_c (wc_X0 w h)) hown hE.1 hP 0 rfl rfl 0 (by decide) tX0_0 (hts (.fieldLink RX0 20 "WornLines$Layout" "programme" "LWornLines$Programme;") (wm_c hw_312)) (fun _ h9 => h9) rfl dX0_find_73 ?_
        refine vt_get (D := D) (ci := 2) (v := .ref (pa 0)) (C := RX2) (T := TX2) (N := 17) hx hb hts (fun w h => wm_c (wc_X2 w h)) hown hE.1 (hCW hS) 0 rfl rfl 1 (by decide) tX2_1 (hts (.fieldLink RX0 59 "WornLines$Programme" "bears" "[I") (wm_c hw_608)) (fun _ h9 => h9) rfl dX0_find_76 ?_
        refine lv_iload hx hb dX0_find_79 (lv_at hl 5 rfl) ?_
        obtain ⟨h_7, hw⟩ := hw
        refine va_iald hx hb hE.1 (hCW hS) 1 0 rfl rfl (h_7) dX0_find_81 ?_
        refine lv_iload hx hb dX0_find_82 (lv_at hl 6 rfl) ?_
        refine lv_imul hx hb dX0_find_84 ?_
        refine lv_aload_n hx hb dX0_find_85 rfl (lv_at hl 1 rfl) ?_
        refine vt_get (D := D) (ci := 0) (v := .ref (la 0)) (C := RX0) (T := TX0) (N := 5) hx hb hts (fun w h => wm_c (wc_X0 w h)) hown hE.1 hP 0 rfl rfl 1 (by decide) tX0_1 (hts (.fieldLink RX0 9 "WornLines$Layout" "peak" "[I") (wm_c hw_309)) (fun _ h9 => h9) rfl dX0_find_86 ?_
        refine lv_iload_n hx hb dX0_find_89 rfl (lv_at hl 2 rfl) ?_
        obtain ⟨h_8, hw⟩ := hw
        refine va_iald hx hb hE.1 hP 1 0 rfl rfl (h_8) dX0_find_90 ?_
        refine lv_icmp_lt (tgt := 115) hx hb dX0_find_91 (by decide) (fun c_9 => ?_) (fun c_9 => ?_)
        · replace hw := hw.1 c_9
          refine lv_iinc (v := (l5 + 1)) (lv' := [(5, .int (l5 + 1)), (6, .int (((Pcosts (l4).toNatClampNeg) * l5) + (Lrow ((xl + 1).toNatClampNeg) (xr - l5).toNatClampNeg))), (0, .ref hl_), (1, .int (xl)), (2, .int (xr)), (3, .int (l3)), (4, .int (l4))]) hx hb dX0_find_115 hl (k := 6) rfl (rfl) (by decide) rfl (fun ls hl => ?_)
          refine lv_goto (tgt := 31) hx hb dX0_find_118 (by decide) ?_
          exact ih Lstuff Ltwins l3 l4 (l5 + 1) _ _ _ hw hP hD hS (lv_sub hl [2, 3, 4, 5, 6, 0] rfl)
        · replace hw := hw.2 c_9
          refine lv_iload hx hb dX0_find_94 (lv_at hl 0 rfl) ?_
          refine lv_iload_n hx hb dX0_find_96 rfl (lv_at hl 4 rfl) ?_
          refine lv_icmp_ge (tgt := 115) hx hb dX0_find_97 (by decide) (fun c_10 => ?_) (fun c_10 => ?_)
          · replace hw := hw.1 c_10
            refine lv_iinc (v := (l5 + 1)) (lv' := [(5, .int (l5 + 1)), (6, .int (((Pcosts (l4).toNatClampNeg) * l5) + (Lrow ((xl + 1).toNatClampNeg) (xr - l5).toNatClampNeg))), (0, .ref hl_), (1, .int (xl)), (2, .int (xr)), (3, .int (l3)), (4, .int (l4))]) hx hb dX0_find_115 hl (k := 6) rfl (rfl) (by decide) rfl (fun ls hl => ?_)
            refine lv_goto (tgt := 31) hx hb dX0_find_118 (by decide) ?_
            exact ih Lstuff Ltwins l3 l4 (l5 + 1) _ _ _ hw hP hD hS (lv_sub hl [2, 3, 4, 5, 6, 0] rfl)
          · replace hw := hw.2 c_10
            refine lv_iload hx hb dX0_find_100 (lv_at hl 0 rfl) ?_
            refine lv_istore_n (lv' := [(3, .int (((Pcosts (l4).toNatClampNeg) * l5) + (Lrow ((xl + 1).toNatClampNeg) (xr - l5).toNatClampNeg))), (6, .int (((Pcosts (l4).toNatClampNeg) * l5) + (Lrow ((xl + 1).toNatClampNeg) (xr - l5).toNatClampNeg))), (0, .ref hl_), (1, .int (xl)), (2, .int (xr)), (4, .int (l4)), (5, .int (l5))]) hx hb dX0_find_102 rfl hl (by decide) rfl (fun ls hl => ?_)
            refine lv_aload_n hx hb dX0_find_103 rfl (lv_at hl 2 rfl) ?_
            refine lv_iload hx hb dX0_find_104 (lv_at hl 5 rfl) ?_
            refine vt_put (D := D) (ci := 0) (v := .int (l4)) (ty := .int) (C := RX0) (T := TX0) (N := 5) hx hb hts (fun w h => wm_c (wc_X0 w h)) tyX0 tyX0_ok nmX0 hown hE.1 hP hD hS 0 rfl rfl 3 (by decide) tX0_3 (hts (.fieldLink RX0 50 "WornLines$Layout" "stuff" "I") (wm_c hw_609)) (fun _ h9 => h9) rfl pf_0 (rfl) rfl (Nat.le_of_ble_eq_true rfl) dX0_find_106 (fun H locs hP hD hS => ?_)
            have hP : va_P D vwCl (wW_X0_find ak ad hl_ la gq pg l4 Ltwins Lpeak Lrow) H := hP
            have hD : va_D A (wW_X0_find ak ad hl_ la gq pg l4 Ltwins Lpeak Lrow) := hD
            refine lv_aload_n hx hb dX0_find_109 rfl (lv_at hl 2 rfl) ?_
            refine lv_iload hx hb dX0_find_110 (lv_at hl 6 rfl) ?_
            refine va_put (D := D) (ci := 0) (v := .int (l5)) (ty := .int) (C := RX0) (T := TX0) (N := 5) hx hb hts (fun w h => wm_c (wc_X0 w h)) tyX0 tyX0_ok nmX0 hown hE.1 hP hD hS 0 rfl rfl 4 (by decide) (hts (.fieldLink RX0 47 "WornLines$Layout" "twins" "I") (wm_c hw_610)) (fun _ h9 => h9) rfl pf_0 (rfl) rfl (Nat.le_of_ble_eq_true rfl) dX0_find_112 (fun H locs hP hD hS => ?_)
            have hP : va_P D vwCl (wW_X0_find ak ad hl_ la gq pg l4 l5 Lpeak Lrow) H := hP
            have hD : va_D A (wW_X0_find ak ad hl_ la gq pg l4 l5 Lpeak Lrow) := hD
            refine lv_iinc (v := (l5 + 1)) (lv' := [(5, .int (l5 + 1)), (3, .int (((Pcosts (l4).toNatClampNeg) * l5) + (Lrow ((xl + 1).toNatClampNeg) (xr - l5).toNatClampNeg))), (6, .int (((Pcosts (l4).toNatClampNeg) * l5) + (Lrow ((xl + 1).toNatClampNeg) (xr - l5).toNatClampNeg))), (0, .ref hl_), (1, .int (xl)), (2, .int (xr)), (4, .int (l4))]) hx hb dX0_find_115 hl (k := 6) rfl (rfl) (by decide) rfl (fun ls hl => ?_)
            refine lv_goto (tgt := 31) hx hb dX0_find_118 (by decide) ?_
            exact ih l4 l5 (((Pcosts (l4).toNatClampNeg) * l5) + (Lrow ((xl + 1).toNatClampNeg) (xr - l5).toNatClampNeg)) l4 (l5 + 1) _ _ _ hw hP hD hS (lv_sub hl [3, 4, 5, 1, 6, 0] rfl)

def lb_X0_find_16 (Lpeak : Nat → Int32) (Lrow : Nat → Nat → Int32) (Pst : Int32) (Pbears : Nat → Int32) (Pcosts : Nat → Int32) (xl : Int32) (xr : Int32)  (Φ : Int32 → Int32 → Int32 → Prop) (back : Int32 → Int32 → Int32 → Int32 → Prop) (Lstuff : Int32) (Ltwins : Int32) (l3 : Int32) (l4 : Int32) : Prop := (Pst ≤ l4 → Φ l3 Lstuff Ltwins) ∧ (¬ Pst ≤ l4 → (∃ n_, lf_X0_find_31 Lpeak Lrow Pst Pbears Pcosts xl xr back Φ n_ Lstuff Ltwins l3 l4 1))
def lf_X0_find_16 (Lpeak : Nat → Int32) (Lrow : Nat → Nat → Int32) (Pst : Int32) (Pbears : Nat → Int32) (Pcosts : Nat → Int32) (xl : Int32) (xr : Int32)  (Φ : Int32 → Int32 → Int32 → Prop) : Nat → Int32 → Int32 → Int32 → Int32 → Prop
  | 0, _, _, _, _ => False
  | n_ + 1, Lstuff, Ltwins, l3, l4 => lb_X0_find_16 Lpeak Lrow Pst Pbears Pcosts xl xr  Φ (lf_X0_find_16 Lpeak Lrow Pst Pbears Pcosts xl xr  Φ n_) Lstuff Ltwins l3 l4
theorem li_X0_find_16 (Lpeak : Nat → Int32) (Lrow : Nat → Nat → Int32) (Pst : Int32) (Pbears : Nat → Int32) (Pcosts : Nat → Int32) (xl : Int32) (xr : Int32)  (Φ : Int32 → Int32 → Int32 → Prop) (Inv : Int32 → Int32 → Int32 → Int32 → Prop) (mu : Int32 → Int32 → Int32 → Int32 → Nat) (hs : ∀ (back : Int32 → Int32 → Int32 → Int32 → Prop) (Lstuff : Int32) (Ltwins : Int32) (l3 : Int32) (l4 : Int32), Inv Lstuff Ltwins l3 l4 → (∀ (Lstuff' : Int32) (Ltwins' : Int32) (l3' : Int32) (l4' : Int32), Inv Lstuff' Ltwins' l3' l4' → mu Lstuff' Ltwins' l3' l4' < mu Lstuff Ltwins l3 l4 → back Lstuff' Ltwins' l3' l4') → lb_X0_find_16 Lpeak Lrow Pst Pbears Pcosts xl xr  Φ back Lstuff Ltwins l3 l4) : ∀ (n_ : Nat) (Lstuff : Int32) (Ltwins : Int32) (l3 : Int32) (l4 : Int32), Inv Lstuff Ltwins l3 l4 → mu Lstuff Ltwins l3 l4 < n_ → lf_X0_find_16 Lpeak Lrow Pst Pbears Pcosts xl xr  Φ n_ Lstuff Ltwins l3 l4 := by
  intro n_
  induction n_ with
  | zero => intro Lstuff Ltwins l3 l4 _ h; exact absurd h (Nat.not_lt_zero _)
  | succ n_ ih => intro Lstuff Ltwins l3 l4 hI hm; exact hs _ Lstuff Ltwins l3 l4 hI (fun Lstuff' Ltwins' l3' l4' h1 h2 => ih Lstuff' Ltwins' l3' l4' h1 (by omega))
set_option maxHeartbeats 4000000 in
set_option maxRecDepth 100000 in
theorem lp_X0_find_16 {p : Program} {l : Launch} {e : Env} {R : Room} {s : State} {m : MethodId} {args : Array Value} {below : List Frame} {meth : Method} {c : Code} {cells slots : Nat} {Q : State → Prop} {A : Nat → Prop} {D : va_G} {ak : Nat → ClassId} {ad : Nat → Nat} (hx : p.tables.exec = Jvm.exec) (hb : c.code = cX0_find) (hown : s.vm.findClass RX0 = some m.cls) (hts : ∀ w ∈ wsX0_find, w.before args s = true) (hml : c.maxLocals = 7) (hE : EV D ak s) (hT : ST D ak ad A s s.heap) (hA : ∀ q, s.heap.size ≤ q → A q) (hl_ : Nat) (la : Nat → Nat) (gq : Nat → Nat) (pg : Nat) (pa : Nat → Nat) (Lpeak : Nat → Int32) (Lrow : Nat → Nat → Int32) (Pst : Int32) (Pce : Int32) (Pgi : Int32) (Pln : Int32) (Pbears : Nat → Int32) (Pcosts : Nat → Int32) (xl : Int32) (xr : Int32) (hKT : KT D A (wK_X0_find ak ad pg pa Pst Pce Pgi Pln Pbears Pcosts) s.heap)  (Φ : Int32 → Int32 → Int32 → Prop)
    (kR128 : ∀ (r : Int32) (Lstuff : Int32) (Ltwins : Int32) (H : Heap) (locs : List Loc) (ls : Array Slot), Φ r Lstuff Ltwins → va_P D vwCl (wW_X0_find ak ad hl_ la gq pg Lstuff Ltwins Lpeak Lrow) H → va_D A (wW_X0_find ak ad hl_ la gq pg Lstuff Ltwins Lpeak Lrow) → va_S A s.heap H locs → W p l e R s m args below meth c H locs cells slots Q (F0 m 128 ls [.int r]))
    : ∀ (n_ : Nat) (Lstuff : Int32) (Ltwins : Int32) (l3 : Int32) (l4 : Int32) (H : Heap) (locs : List Loc) (ls : Array Slot), lf_X0_find_16 Lpeak Lrow Pst Pbears Pcosts xl xr  Φ n_ Lstuff Ltwins l3 l4 → va_P D vwCl (wW_X0_find ak ad hl_ la gq pg Lstuff Ltwins Lpeak Lrow) H → va_D A (wW_X0_find ak ad hl_ la gq pg Lstuff Ltwins Lpeak Lrow) → va_S A s.heap H locs → lv_has ls 7 [(0, .ref hl_), (1, .int (xl)), (2, .int (xr)), (3, .int (l3)), (4, .int (l4))] → W p l e R s m args below meth c H locs cells slots Q (F0 m 16 ls ([])) := by
  have hCW : ∀ {H : Heap} {locs : List Loc}, va_S A s.heap H locs → va_P D vwCl (wK_X0_find ak ad pg pa Pst Pce Pgi Pln Pbears Pcosts) H := fun hS => (hKT.kept hS.2.1).1
  intro n_
  induction n_ with
  | zero =>
    intro Lstuff Ltwins l3 l4 H locs ls hw
    exact hw.elim
  | succ n_ ih =>
    intro Lstuff Ltwins l3 l4 H locs ls hw hP hD hS hl
    have hw : lb_X0_find_16 Lpeak Lrow Pst Pbears Pcosts xl xr  Φ (lf_X0_find_16 Lpeak Lrow Pst Pbears Pcosts xl xr  Φ n_) Lstuff Ltwins l3 l4 := hw
    delta lb_X0_find_16 at hw
    refine lv_iload hx hb dX0_find_16 (lv_at hl 4 rfl) ?_
    refine lv_aload_n hx hb dX0_find_18 rfl (lv_at hl 0 rfl) ?_
    refine vt_get (D := D) (ci := 0) (v := .ref pg) (C := RX0) (T := TX0) (N := 5) hx hb hts (fun w h => wm_c (wc_X0 w h)) hown hE.1 hP 0 rfl rfl 0 (by decide) tX0_0 (hts (.fieldLink RX0 20 "WornLines$Layout" "programme" "LWornLines$Programme;") (wm_c hw_312)) (fun _ h9 => h9) rfl dX0_find_19 ?_
    refine vt_get (D := D) (ci := 2) (v := .int (Pst)) (C := RX2) (T := TX2) (N := 17) hx hb hts (fun w h => wm_c (wc_X2 w h)) hown hE.1 (hCW hS) 0 rfl rfl 0 (by decide) tX2_0 (hts (.fieldLink RX0 53 "WornLines$Programme" "stuffs" "I") (wm_c hw_611)) (fun _ h9 => h9) rfl dX0_find_22 ?_
    refine lv_icmp_ge (tgt := 127) hx hb dX0_find_25 (by decide) (fun c_1 => ?_) (fun c_1 => ?_)
    · replace hw := hw.1 c_1
      refine lv_iload_n hx hb dX0_find_127 rfl (lv_at hl 3 rfl) ?_
      exact kR128 l3 Lstuff Ltwins _ _ _ hw hP hD hS
    · replace hw := hw.2 c_1
      refine lv_iconst (v := 1) hx hb dX0_find_28 (by decide) ?_
      refine lv_istore (lv' := [(5, .int (1)), (0, .ref hl_), (1, .int (xl)), (2, .int (xr)), (3, .int (l3)), (4, .int (l4))]) hx hb dX0_find_29 hl (by decide) rfl (fun ls hl => ?_)
      obtain ⟨n1_, hw⟩ := hw
      exact lp_X0_find_31 hx hb hown hts hml hE hT hA hl_ la gq pg pa Lpeak Lrow Pst Pce Pgi Pln Pbears Pcosts xl xr hKT _ Φ ih kR128 n1_ Lstuff Ltwins l3 l4 1 _ _ _ hw hP hD hS (lv_sub hl [1, 2, 3, 4, 5, 0] rfl)

def wp_X0_find (Lpeak : Nat → Int32) (Lrow : Nat → Nat → Int32) (Pst : Int32) (Pbears : Nat → Int32) (Pcosts : Nat → Int32) (xl : Int32) (xr : Int32) (Lstuff : Int32) (Ltwins : Int32) (Φ : Int32 → Int32 → Int32 → Prop) : Prop := (∃ n_, lf_X0_find_16 Lpeak Lrow Pst Pbears Pcosts xl xr  Φ n_ (-1) 0 1000000000 0)
set_option maxHeartbeats 4000000 in
set_option maxRecDepth 100000 in
theorem kj_X0_find_e {p : Program} {l : Launch} {e : Env} {R : Room} {s : State} {m : MethodId} {args : Array Value} {below : List Frame} {meth : Method} {c : Code} {cells slots : Nat} {Q : State → Prop} {A : Nat → Prop} {D : va_G} {ak : Nat → ClassId} {ad : Nat → Nat} (hx : p.tables.exec = Jvm.exec) (hb : c.code = cX0_find) (hown : s.vm.findClass RX0 = some m.cls) (hts : ∀ w ∈ wsX0_find, w.before args s = true) (hml : c.maxLocals = 7) (hE : EV D ak s) (hT : ST D ak ad A s s.heap) (hA : ∀ q, s.heap.size ≤ q → A q) (hl_ : Nat) (la : Nat → Nat) (gq : Nat → Nat) (pg : Nat) (pa : Nat → Nat) (Lpeak : Nat → Int32) (Lrow : Nat → Nat → Int32) (Pst : Int32) (Pce : Int32) (Pgi : Int32) (Pln : Int32) (Pbears : Nat → Int32) (Pcosts : Nat → Int32) (xl : Int32) (xr : Int32) (hKT : KT D A (wK_X0_find ak ad pg pa Pst Pce Pgi Pln Pbears Pcosts) s.heap)  (Φ : Int32 → Int32 → Int32 → Prop)
    (kR128 : ∀ (r : Int32) (Lstuff : Int32) (Ltwins : Int32) (H : Heap) (locs : List Loc) (ls : Array Slot), Φ r Lstuff Ltwins → va_P D vwCl (wW_X0_find ak ad hl_ la gq pg Lstuff Ltwins Lpeak Lrow) H → va_D A (wW_X0_find ak ad hl_ la gq pg Lstuff Ltwins Lpeak Lrow) → va_S A s.heap H locs → W p l e R s m args below meth c H locs cells slots Q (F0 m 128 ls [.int r]))
    : ∀ (Lstuff : Int32) (Ltwins : Int32) (H : Heap) (locs : List Loc) (ls : Array Slot), wp_X0_find Lpeak Lrow Pst Pbears Pcosts xl xr Lstuff Ltwins Φ → va_P D vwCl (wW_X0_find ak ad hl_ la gq pg Lstuff Ltwins Lpeak Lrow) H → va_D A (wW_X0_find ak ad hl_ la gq pg Lstuff Ltwins Lpeak Lrow) → va_S A s.heap H locs → lv_has ls 7 [(0, .ref hl_), (1, .int (xl)), (2, .int (xr))] → W p l e R s m args below meth c H locs cells slots Q (F0 m 0 ls ([])) := by
  have hCW : ∀ {H : Heap} {locs : List Loc}, va_S A s.heap H locs → va_P D vwCl (wK_X0_find ak ad pg pa Pst Pce Pgi Pln Pbears Pcosts) H := fun hS => (hKT.kept hS.2.1).1
  intro Lstuff Ltwins H locs ls hw hP hD hS hl
  delta wp_X0_find at hw
  refine lv_ldc hx hb hown (hts (.constant RX0 46 (1000000000)) (wm_c hw_606)) dX0_find_0 ?_
  refine lv_istore_n (lv' := [(3, .int (1000000000)), (0, .ref hl_), (1, .int (xl)), (2, .int (xr))]) hx hb dX0_find_2 rfl hl (by decide) rfl (fun ls hl => ?_)
  refine lv_aload_n hx hb dX0_find_3 rfl (lv_at hl 1 rfl) ?_
  refine lv_iconst (v := (-1)) hx hb dX0_find_4 (by decide) ?_
  refine vt_put (D := D) (ci := 0) (v := .int (-1)) (ty := .int) (C := RX0) (T := TX0) (N := 5) hx hb hts (fun w h => wm_c (wc_X0 w h)) tyX0 tyX0_ok nmX0 hown hE.1 hP hD hS 0 rfl rfl 3 (by decide) tX0_3 (hts (.fieldLink RX0 50 "WornLines$Layout" "stuff" "I") (wm_c hw_609)) (fun _ h9 => h9) rfl pf_0 (rfl) rfl (Nat.le_of_ble_eq_true rfl) dX0_find_5 (fun H locs hP hD hS => ?_)
  have hP : va_P D vwCl (wW_X0_find ak ad hl_ la gq pg (-1) Ltwins Lpeak Lrow) H := hP
  have hD : va_D A (wW_X0_find ak ad hl_ la gq pg (-1) Ltwins Lpeak Lrow) := hD
  refine lv_aload_n hx hb dX0_find_8 rfl (lv_at hl 1 rfl) ?_
  refine lv_iconst (v := 0) hx hb dX0_find_9 (by decide) ?_
  refine va_put (D := D) (ci := 0) (v := .int (0)) (ty := .int) (C := RX0) (T := TX0) (N := 5) hx hb hts (fun w h => wm_c (wc_X0 w h)) tyX0 tyX0_ok nmX0 hown hE.1 hP hD hS 0 rfl rfl 4 (by decide) (hts (.fieldLink RX0 47 "WornLines$Layout" "twins" "I") (wm_c hw_610)) (fun _ h9 => h9) rfl pf_0 (rfl) rfl (Nat.le_of_ble_eq_true rfl) dX0_find_10 (fun H locs hP hD hS => ?_)
  have hP : va_P D vwCl (wW_X0_find ak ad hl_ la gq pg (-1) 0 Lpeak Lrow) H := hP
  have hD : va_D A (wW_X0_find ak ad hl_ la gq pg (-1) 0 Lpeak Lrow) := hD
  refine lv_iconst (v := 0) hx hb dX0_find_13 (by decide) ?_
  refine lv_istore (lv' := [(4, .int (0)), (3, .int (1000000000)), (0, .ref hl_), (1, .int (xl)), (2, .int (xr))]) hx hb dX0_find_14 hl (by decide) rfl (fun ls hl => ?_)
  obtain ⟨n1_, hw⟩ := hw
  exact lp_X0_find_16 hx hb hown hts hml hE hT hA hl_ la gq pg pa Lpeak Lrow Pst Pce Pgi Pln Pbears Pcosts xl xr hKT  Φ  kR128 n1_ (-1) 0 1000000000 0 _ _ _ hw hP hD hS (lv_sub hl [2, 3, 4, 1, 0] rfl)
set_option maxHeartbeats 4000000 in
set_option maxRecDepth 100000 in
theorem c_X0_find (l : Launch) (D : va_G) (ak : Nat → ClassId) (ad : Nat → Nat) (sz : Nat) (hl_ : Nat) (la : Nat → Nat) (gq : Nat → Nat) (pg : Nat) (pa : Nat → Nat) (Lstuff : Int32) (Ltwins : Int32) (Lpeak : Nat → Int32) (Lrow : Nat → Nat → Int32) (Pst : Int32) (Pce : Int32) (Pgi : Int32) (Pln : Int32) (Pbears : Nat → Int32) (Pcosts : Nat → Int32) (xl : Int32) (xr : Int32) (Φ : Int32 → Int32 → Int32 → Prop) (hf : wp_X0_find Lpeak Lrow Pst Pbears Pcosts xl xr Lstuff Ltwins Φ) : Met l yX0_find wsX0_find ({ frames := 0, cells := 0, slots := 0, locals := 0 }) (cPreK D ak ad [.ref hl_, .int (xl), .int (xr)] ((wW_X0_find ak ad hl_ la gq pg Lstuff Ltwins Lpeak Lrow)) sz ((wK_X0_find ak ad pg pa Pst Pce Pgi Pln Pbears Pcosts))) (cI D (S := (Int32) × (Int32)) (fun (r : Int32) (u : (Int32) × (Int32)) => Φ r u.1 u.2) (fun u => (wW_X0_find ak ad hl_ la gq pg u.1 u.2 Lpeak Lrow)) ((wW_X0_find ak ad hl_ la gq pg Lstuff Ltwins Lpeak Lrow)) sz) 0 0 (va_A ((wW_X0_find ak ad hl_ la gq pg Lstuff Ltwins Lpeak Lrow)) sz) := by
  refine Met.ofW (cc := cX0_find) (maxL := 7) (ret := (some .int)) (by decide) rfl ?_
  intro p e s m args below meth c s₁ B hml hv
  obtain ⟨⟨rfl, hsz, hP, hE, hD0, hT⟩, hKT⟩ := hv
  have hx := B.exec
  have hb := B.bytes
  have hr := B.returns
  have hts := atoms_spec (ws := wsX0_find) B.pre
  have hown : s.vm.findClass RX0 = some m.cls := findClass_of_methodNamed B.named
  have hlocks := B.notSynchronized
  subst hsz
  have hD := hD0.self (sz := s.heap.size)
  generalize hAe : va_A ((wW_X0_find ak ad hl_ la gq pg Lstuff Ltwins Lpeak Lrow)) s.heap.size = A at hD hT hKT ⊢
  have hA : ∀ q : Nat, s.heap.size ≤ q → A q := fun q h => by rw [← hAe]; exact Or.inr h
  have hS : va_S A s.heap s.heap [] := va_S.rf
  have hl := lv_entry ([.ref hl_, .int (xl), .int (xr)]) (n := 7) (Nat.le_of_ble_eq_true rfl)
  rw [lg_entry_eq]
  generalize (lg_sl ([.ref hl_, .int (xl), .int (xr)]) ++ List.replicate (7 - (lg_sl ([.ref hl_, .int (xl), .int (xr)])).length) Slot.unset).toArray = ls at hl ⊢
  have hl : lv_has ls 7 [(0, .ref hl_), (1, .int (xl)), (2, .int (xr))] := hl
  exact kj_X0_find_e hx hb hown hts hml hE hT hA hl_ la gq pg pa Lpeak Lrow Pst Pce Pgi Pln Pbears Pcosts xl xr hKT Φ (fun r Lstuff Ltwins H locs ls hw hP hD hS => W.iret (v := r) hx hb hr (fun t ht hW => ⟨⟨r, (Lstuff, Ltwins), rfl, hw, by rw [ht]; exact hP, by rw [hAe]; exact hD⟩, by rw [hAe]; exact hS.F ht⟩) hS.2.2 dX0_find_128) Lstuff Ltwins _ _ _ hf hP hD hS hl

def wW_X0_choose (ak : Nat → ClassId) (ad : Nat → Nat) (hl_ : Nat) (la : Nat → Nat) (gq : Nat → Nat) (pg : Nat) (Lstuff : Int32) (Ltwins : Int32) (Lpeak : Nat → Int32) (Lrow : Nat → Nat → Int32) : va_W := ([(hl_, .inr (0, lob la (pg) (Lstuff) (Ltwins))), ((la 0), .inl (ak 0, 16, .inl (Lpeak))), ((la 1), .inl (ak 6, 17, .inr (.inr (.inr (.inr (grA gq))))))] ++ gRows ak gq Lrow)
def wK_X0_choose (ak : Nat → ClassId) (ad : Nat → Nat) (pg : Nat) (pa : Nat → Nat) (Pst : Int32) (Pce : Int32) (Pgi : Int32) (Pln : Int32) (Pbears : Nat → Int32) (Pcosts : Nat → Int32) : va_W := [(pg, .inr (2, pob pa (Pst) (Pce) (Pgi) (Pln))), ((pa 0), .inl (ak 0, 4, .inl (Pbears))), ((pa 1), .inl (ak 0, 4, .inl (Pcosts)))]
def lb_X0_choose_5 (Lpeak : Nat → Int32) (Lrow : Nat → Nat → Int32) (Pst : Int32) (Pbears : Nat → Int32) (Pcosts : Nat → Int32) (xr : Int32) (xl : Int32)  (Φ : Int32 → Int32 → Prop) (back : Int32 → Int32 → Int32 → Int32 → Prop) (Lstuff : Int32) (Ltwins : Int32) (l3 : Int32) (l4 : Int32) : Prop := (xl < l4 → Φ Lstuff Ltwins) ∧ (¬ xl < l4 → (l3 < 0 → Φ Lstuff Ltwins) ∧ (¬ l3 < 0 → wp_X0_find Lpeak Lrow Pst Pbears Pcosts l4 l3 Lstuff Ltwins (fun r_6 Lstuff_4 Ltwins_5 => back Lstuff_4 Ltwins_5 (l3 - Ltwins_5) (l4 + 1))))
def lf_X0_choose_5 (Lpeak : Nat → Int32) (Lrow : Nat → Nat → Int32) (Pst : Int32) (Pbears : Nat → Int32) (Pcosts : Nat → Int32) (xr : Int32) (xl : Int32)  (Φ : Int32 → Int32 → Prop) : Nat → Int32 → Int32 → Int32 → Int32 → Prop
  | 0, _, _, _, _ => False
  | n_ + 1, Lstuff, Ltwins, l3, l4 => lb_X0_choose_5 Lpeak Lrow Pst Pbears Pcosts xr xl  Φ (lf_X0_choose_5 Lpeak Lrow Pst Pbears Pcosts xr xl  Φ n_) Lstuff Ltwins l3 l4
theorem li_X0_choose_5 (Lpeak : Nat → Int32) (Lrow : Nat → Nat → Int32) (Pst : Int32) (Pbears : Nat → Int32) (Pcosts : Nat → Int32) (xr : Int32) (xl : Int32)  (Φ : Int32 → Int32 → Prop) (Inv : Int32 → Int32 → Int32 → Int32 → Prop) (mu : Int32 → Int32 → Int32 → Int32 → Nat) (hs : ∀ (back : Int32 → Int32 → Int32 → Int32 → Prop) (Lstuff : Int32) (Ltwins : Int32) (l3 : Int32) (l4 : Int32), Inv Lstuff Ltwins l3 l4 → (∀ (Lstuff' : Int32) (Ltwins' : Int32) (l3' : Int32) (l4' : Int32), Inv Lstuff' Ltwins' l3' l4' → mu Lstuff' Ltwins' l3' l4' < mu Lstuff Ltwins l3 l4 → back Lstuff' Ltwins' l3' l4') → lb_X0_choose_5 Lpeak Lrow Pst Pbears Pcosts xr xl  Φ back Lstuff Ltwins l3 l4) : ∀ (n_ : Nat) (Lstuff : Int32) (Ltwins : Int32) (l3 : Int32) (l4 : Int32), Inv Lstuff Ltwins l3 l4 → mu Lstuff Ltwins l3 l4 < n_ → lf_X0_choose_5 Lpeak Lrow Pst Pbears Pcosts xr xl  Φ n_ Lstuff Ltwins l3 l4 := by
  intro n_
  induction n_ with
  | zero => intro Lstuff Ltwins l3 l4 _ h; exact absurd h (Nat.not_lt_zero _)
  | succ n_ ih => intro Lstuff Ltwins l3 l4 hI hm; exact hs _ Lstuff Ltwins l3 l4 hI (fun Lstuff' Ltwins' l3' l4' h1 h2 => ih Lstuff' Ltwins' l3' l4' h1 (by omega))
set_option maxHeartbeats 4000000 in
set_option maxRecDepth 100000 in
theorem lp_X0_choose_5 {p : Program} {l : Launch} {e : Env} {R : Room} {s : State} {m : MethodId} {args : Array Value} {below : List Frame} {meth : Method} {c : Code} {cells slots : Nat} {Q : State → Prop} {A : Nat → Prop} {D : va_G} {ak : Nat → ClassId} {ad : Nat → Nat} (hx : p.tables.exec = Jvm.exec) (hb : c.code = cX0_choose) (hown : s.vm.findClass RX0 = some m.cls) (hts : ∀ w ∈ wsX0_choose, w.before args s = true) (hml : c.maxLocals = 5) (hE : EV D ak s) (hT : ST D ak ad A s s.heap) (hA : ∀ q, s.heap.size ≤ q → A q) (hRf : 1 ≤ R.frames) (hRl : 26 ≤ R.locals) (hRc : cells ≤ R.cells ∧ slots ≤ R.slots) (hl_ : Nat) (la : Nat → Nat) (gq : Nat → Nat) (pg : Nat) (pa : Nat → Nat) (Lpeak : Nat → Int32) (Lrow : Nat → Nat → Int32) (Pst : Int32) (Pce : Int32) (Pgi : Int32) (Pln : Int32) (Pbears : Nat → Int32) (Pcosts : Nat → Int32) (xr : Int32) (xl : Int32) (hKT : KT D A (wK_X0_choose ak ad pg pa Pst Pce Pgi Pln Pbears Pcosts) s.heap)  (Φ : Int32 → Int32 → Prop)
    (kR36 : ∀ (Lstuff : Int32) (Ltwins : Int32) (H : Heap) (locs : List Loc) (ls : Array Slot), Φ Lstuff Ltwins → va_P D vwCl (wW_X0_choose ak ad hl_ la gq pg Lstuff Ltwins Lpeak Lrow) H → va_D A (wW_X0_choose ak ad hl_ la gq pg Lstuff Ltwins Lpeak Lrow) → va_S A s.heap H locs → W p l e R s m args below meth c H locs cells slots Q (F0 m 36 ls []))
    : ∀ (n_ : Nat) (Lstuff : Int32) (Ltwins : Int32) (l3 : Int32) (l4 : Int32) (H : Heap) (locs : List Loc) (ls : Array Slot), lf_X0_choose_5 Lpeak Lrow Pst Pbears Pcosts xr xl  Φ n_ Lstuff Ltwins l3 l4 → va_P D vwCl (wW_X0_choose ak ad hl_ la gq pg Lstuff Ltwins Lpeak Lrow) H → va_D A (wW_X0_choose ak ad hl_ la gq pg Lstuff Ltwins Lpeak Lrow) → va_S A s.heap H locs → lv_has ls 5 [(0, .ref hl_), (2, .int (xl)), (3, .int (l3)), (4, .int (l4))] → W p l e R s m args below meth c H locs cells slots Q (F0 m 5 ls ([])) := by
  have hCW : ∀ {H : Heap} {locs : List Loc}, va_S A s.heap H locs → va_P D vwCl (wK_X0_choose ak ad pg pa Pst Pce Pgi Pln Pbears Pcosts) H := fun hS => (hKT.kept hS.2.1).1
  intro n_
  induction n_ with
  | zero =>
    intro Lstuff Ltwins l3 l4 H locs ls hw
    exact hw.elim
  | succ n_ ih =>
    intro Lstuff Ltwins l3 l4 H locs ls hw hP hD hS hl
    have hw : lb_X0_choose_5 Lpeak Lrow Pst Pbears Pcosts xr xl  Φ (lf_X0_choose_5 Lpeak Lrow Pst Pbears Pcosts xr xl  Φ n_) Lstuff Ltwins l3 l4 := hw
    delta lb_X0_choose_5 at hw
    refine lv_iload hx hb dX0_choose_5 (lv_at hl 3 rfl) ?_
    refine lv_iload_n hx hb dX0_choose_7 rfl (lv_at hl 1 rfl) ?_
    refine lv_icmp_gt (tgt := 36) hx hb dX0_choose_8 (by decide) (fun c_1 => ?_) (fun c_1 => ?_)
    · replace hw := hw.1 c_1
      exact kR36 Lstuff Ltwins _ _ _ hw hP hD hS
    · replace hw := hw.2 c_1
      refine lv_iload_n hx hb dX0_choose_11 rfl (lv_at hl 2 rfl) ?_
      refine lv_if_lt (tgt := 36) hx hb dX0_choose_12 (by decide) (fun c_2 => ?_) (fun c_2 => ?_)
      · replace hw := hw.1 c_2
        exact kR36 Lstuff Ltwins _ _ _ hw hP hD hS
      · replace hw := hw.2 c_2
        refine lv_aload_n hx hb dX0_choose_15 rfl (lv_at hl 0 rfl) ?_
        refine lv_iload hx hb dX0_choose_16 (lv_at hl 3 rfl) ?_
        refine lv_iload_n hx hb dX0_choose_18 rfl (lv_at hl 2 rfl) ?_
        refine kc_i (wc := (wW_X0_find ak ad hl_ la gq pg Lstuff Ltwins Lpeak Lrow)) (wr := []) hP hD hS hA [0, 1, 2, 3, 4, 5, 6, 7, 8, 9, 10, 11, 12, 13, 14, 15, 16, 17, 18, 19] [] rfl rfl (by decide) (by decide) (va_runV (As := [.int (l4), .int (l3)]) (rest := []) ⟨hx, hb, hml, hown, hts⟩ (c_X0_find l D ak ad _ hl_ la gq pg pa Lstuff Ltwins Lpeak Lrow Pst Pce Pgi Pln Pbears Pcosts l4 l3 _ hw) (cwV 2 hts gX0_choose_X0_find rfl rfl rfl hv_X0_find ⟨(Nat.le_trans (Nat.le_of_ble_eq_true rfl) hRf), (Nat.le_trans (Nat.le_of_ble_eq_true rfl) hRl)⟩) (kc_preVK (As := [.int (l4), .int (l3)]) (wc := (wW_X0_find ak ad hl_ la gq pg Lstuff Ltwins Lpeak Lrow)) (ck := (wK_X0_find ak ad pg pa Pst Pce Pgi Pln Pbears Pcosts)) hKT hE hT hP hD hS hA [0, 1, 2, 3, 4, 5, 6, 7, 8, 9, 10, 11, 12, 13, 14, 15, 16, 17, 18, 19] [0, 1, 2] (by decide) rfl rfl rfl hP 0 0 rfl rfl rfl) rfl rfl hl.1 rfl (lv_room (Nat.le_of_ble_eq_true rfl)) dX0_choose_19 ⟨hRc.1, hRc.2⟩) (fun r_6 u_3 H locs hw hP hD hS => ?_)
        obtain ⟨Lstuff_4, Ltwins_5⟩ := u_3
        try dsimp -zeta only at hw
        have hP : va_P D vwCl (wW_X0_choose ak ad hl_ la gq pg Lstuff_4 Ltwins_5 Lpeak Lrow) H := hP.sub [0, 1, 2, 3, 4, 5, 6, 7, 8, 9, 10, 11, 12, 13, 14, 15, 16, 17, 18, 19] rfl
        have hD : va_D A (wW_X0_choose ak ad hl_ la gq pg Lstuff_4 Ltwins_5 Lpeak Lrow) := hD.sub [0, 1, 2, 3, 4, 5, 6, 7, 8, 9, 10, 11, 12, 13, 14, 15, 16, 17, 18, 19] (by decide) rfl
        refine lv_pop hx hb dX0_choose_22 rfl ?_
        refine lv_iload_n hx hb dX0_choose_23 rfl (lv_at hl 2 rfl) ?_
        refine lv_aload_n hx hb dX0_choose_24 rfl (lv_at hl 0 rfl) ?_
        refine va_get (D := D) (ci := 0) (v := .int (Ltwins_5)) (C := RX0) (T := TX0) (N := 5) hx hb hts (fun w h => wm_c (wc_X0 w h)) hown hE.1 hP 0 rfl rfl 4 (by decide) (hts (.fieldLink RX0 47 "WornLines$Layout" "twins" "I") (wm_c hw_610)) (fun _ h9 => h9) rfl dX0_choose_25 ?_
        refine lv_isub hx hb dX0_choose_28 ?_
        refine lv_istore_n (lv' := [(3, .int (l3 - Ltwins_5)), (0, .ref hl_), (2, .int (xl)), (4, .int (l4))]) hx hb dX0_choose_29 rfl hl (by decide) rfl (fun ls hl => ?_)
        refine lv_iinc (v := (l4 + 1)) (lv' := [(4, .int (l4 + 1)), (3, .int (l3 - Ltwins_5)), (0, .ref hl_), (2, .int (xl))]) hx hb dX0_choose_30 hl (k := 3) rfl (rfl) (by decide) rfl (fun ls hl => ?_)
        refine lv_goto (tgt := 5) hx hb dX0_choose_33 (by decide) ?_
        exact ih Lstuff_4 Ltwins_5 (l3 - Ltwins_5) (l4 + 1) _ _ _ hw hP hD hS (lv_sub hl [2, 3, 1, 0] rfl)

def wp_X0_choose (Lpeak : Nat → Int32) (Lrow : Nat → Nat → Int32) (Pst : Int32) (Pbears : Nat → Int32) (Pcosts : Nat → Int32) (xr : Int32) (xl : Int32) (Lstuff : Int32) (Ltwins : Int32) (Φ : Int32 → Int32 → Prop) : Prop := (∃ n_, lf_X0_choose_5 Lpeak Lrow Pst Pbears Pcosts xr xl  Φ n_ Lstuff Ltwins xr 0)
set_option maxHeartbeats 4000000 in
set_option maxRecDepth 100000 in
theorem kj_X0_choose_e {p : Program} {l : Launch} {e : Env} {R : Room} {s : State} {m : MethodId} {args : Array Value} {below : List Frame} {meth : Method} {c : Code} {cells slots : Nat} {Q : State → Prop} {A : Nat → Prop} {D : va_G} {ak : Nat → ClassId} {ad : Nat → Nat} (hx : p.tables.exec = Jvm.exec) (hb : c.code = cX0_choose) (hown : s.vm.findClass RX0 = some m.cls) (hts : ∀ w ∈ wsX0_choose, w.before args s = true) (hml : c.maxLocals = 5) (hE : EV D ak s) (hT : ST D ak ad A s s.heap) (hA : ∀ q, s.heap.size ≤ q → A q) (hRf : 1 ≤ R.frames) (hRl : 26 ≤ R.locals) (hRc : cells ≤ R.cells ∧ slots ≤ R.slots) (hl_ : Nat) (la : Nat → Nat) (gq : Nat → Nat) (pg : Nat) (pa : Nat → Nat) (Lpeak : Nat → Int32) (Lrow : Nat → Nat → Int32) (Pst : Int32) (Pce : Int32) (Pgi : Int32) (Pln : Int32) (Pbears : Nat → Int32) (Pcosts : Nat → Int32) (xr : Int32) (xl : Int32) (hKT : KT D A (wK_X0_choose ak ad pg pa Pst Pce Pgi Pln Pbears Pcosts) s.heap)  (Φ : Int32 → Int32 → Prop)
    (kR36 : ∀ (Lstuff : Int32) (Ltwins : Int32) (H : Heap) (locs : List Loc) (ls : Array Slot), Φ Lstuff Ltwins → va_P D vwCl (wW_X0_choose ak ad hl_ la gq pg Lstuff Ltwins Lpeak Lrow) H → va_D A (wW_X0_choose ak ad hl_ la gq pg Lstuff Ltwins Lpeak Lrow) → va_S A s.heap H locs → W p l e R s m args below meth c H locs cells slots Q (F0 m 36 ls []))
    : ∀ (Lstuff : Int32) (Ltwins : Int32) (H : Heap) (locs : List Loc) (ls : Array Slot), wp_X0_choose Lpeak Lrow Pst Pbears Pcosts xr xl Lstuff Ltwins Φ → va_P D vwCl (wW_X0_choose ak ad hl_ la gq pg Lstuff Ltwins Lpeak Lrow) H → va_D A (wW_X0_choose ak ad hl_ la gq pg Lstuff Ltwins Lpeak Lrow) → va_S A s.heap H locs → lv_has ls 5 [(0, .ref hl_), (1, .int (xr)), (2, .int (xl))] → W p l e R s m args below meth c H locs cells slots Q (F0 m 0 ls ([])) := by
  have hCW : ∀ {H : Heap} {locs : List Loc}, va_S A s.heap H locs → va_P D vwCl (wK_X0_choose ak ad pg pa Pst Pce Pgi Pln Pbears Pcosts) H := fun hS => (hKT.kept hS.2.1).1
  intro Lstuff Ltwins H locs ls hw hP hD hS hl
  delta wp_X0_choose at hw
  refine lv_iload_n hx hb dX0_choose_0 rfl (lv_at hl 1 rfl) ?_
  refine lv_istore_n (lv' := [(3, .int (xr)), (0, .ref hl_), (1, .int (xr)), (2, .int (xl))]) hx hb dX0_choose_1 rfl hl (by decide) rfl (fun ls hl => ?_)
  refine lv_iconst (v := 0) hx hb dX0_choose_2 (by decide) ?_
  refine lv_istore (lv' := [(4, .int (0)), (3, .int (xr)), (0, .ref hl_), (1, .int (xr)), (2, .int (xl))]) hx hb dX0_choose_3 hl (by decide) rfl (fun ls hl => ?_)
  obtain ⟨n1_, hw⟩ := hw
  exact lp_X0_choose_5 hx hb hown hts hml hE hT hA hRf hRl hRc hl_ la gq pg pa Lpeak Lrow Pst Pce Pgi Pln Pbears Pcosts xr xl hKT  Φ  kR36 n1_ Lstuff Ltwins xr 0 _ _ _ hw hP hD hS (lv_sub hl [2, 4, 1, 0] rfl)
set_option maxHeartbeats 4000000 in
set_option maxRecDepth 100000 in
theorem c_X0_choose (l : Launch) (D : va_G) (ak : Nat → ClassId) (ad : Nat → Nat) (sz : Nat) (hl_ : Nat) (la : Nat → Nat) (gq : Nat → Nat) (pg : Nat) (pa : Nat → Nat) (Lstuff : Int32) (Ltwins : Int32) (Lpeak : Nat → Int32) (Lrow : Nat → Nat → Int32) (Pst : Int32) (Pce : Int32) (Pgi : Int32) (Pln : Int32) (Pbears : Nat → Int32) (Pcosts : Nat → Int32) (xr : Int32) (xl : Int32) (Φ : Int32 → Int32 → Prop) (hf : wp_X0_choose Lpeak Lrow Pst Pbears Pcosts xr xl Lstuff Ltwins Φ) : Met l yX0_choose wsX0_choose ({ frames := 1, cells := 0, slots := 0, locals := 26 }) (cPreK D ak ad [.ref hl_, .int (xr), .int (xl)] ((wW_X0_choose ak ad hl_ la gq pg Lstuff Ltwins Lpeak Lrow)) sz ((wK_X0_choose ak ad pg pa Pst Pce Pgi Pln Pbears Pcosts))) (cV D (S := (Int32) × (Int32)) (fun (u : (Int32) × (Int32)) => Φ u.1 u.2) (fun u => (wW_X0_choose ak ad hl_ la gq pg u.1 u.2 Lpeak Lrow)) ((wW_X0_choose ak ad hl_ la gq pg Lstuff Ltwins Lpeak Lrow)) sz) 0 0 (va_A ((wW_X0_choose ak ad hl_ la gq pg Lstuff Ltwins Lpeak Lrow)) sz) := by
  refine Met.ofW (cc := cX0_choose) (maxL := 5) (ret := none) (by decide) rfl ?_
  intro p e s m args below meth c s₁ B hml hv
  obtain ⟨⟨rfl, hsz, hP, hE, hD0, hT⟩, hKT⟩ := hv
  have hx := B.exec
  have hb := B.bytes
  have hr := B.returns
  have hts := atoms_spec (ws := wsX0_choose) B.pre
  have hown : s.vm.findClass RX0 = some m.cls := findClass_of_methodNamed B.named
  have hlocks := B.notSynchronized
  subst hsz
  have hD := hD0.self (sz := s.heap.size)
  generalize hAe : va_A ((wW_X0_choose ak ad hl_ la gq pg Lstuff Ltwins Lpeak Lrow)) s.heap.size = A at hD hT hKT ⊢
  have hA : ∀ q : Nat, s.heap.size ≤ q → A q := fun q h => by rw [← hAe]; exact Or.inr h
  have hS : va_S A s.heap s.heap [] := va_S.rf
  have hl := lv_entry ([.ref hl_, .int (xr), .int (xl)]) (n := 5) (Nat.le_of_ble_eq_true rfl)
  rw [lg_entry_eq]
  generalize (lg_sl ([.ref hl_, .int (xr), .int (xl)]) ++ List.replicate (5 - (lg_sl ([.ref hl_, .int (xr), .int (xl)])).length) Slot.unset).toArray = ls at hl ⊢
  have hl : lv_has ls 5 [(0, .ref hl_), (1, .int (xr)), (2, .int (xl))] := hl
  exact kj_X0_choose_e hx hb hown hts hml hE hT hA (Nat.le_of_ble_eq_true rfl) (Nat.le_of_ble_eq_true rfl) ⟨Nat.le_of_ble_eq_true rfl, Nat.le_of_ble_eq_true rfl⟩ hl_ la gq pg pa Lpeak Lrow Pst Pce Pgi Pln Pbears Pcosts xr xl hKT Φ (fun Lstuff Ltwins H locs ls hw hP hD hS => W.vret hx hb hr (fun t ht hW => ⟨⟨(Lstuff, Ltwins), rfl, hw, by rw [ht]; exact hP, by rw [hAe]; exact hD⟩, by rw [hAe]; exact hS.F ht⟩) hS.2.2 dX0_choose_36) Lstuff Ltwins _ _ _ hf hP hD hS hl
end
section
theorem dX0_make_50 : decode cX0_make 50 = .ok (.iload 4, 2) := by decide +kernel
theorem dX0_make_52 : decode cX0_make 52 = .ok (.bipush 64, 2) := by decide +kernel
theorem dX0_make_54 : decode cX0_make 54 = .ok (.if_icmp .gt 25, 3) := by decide +kernel
theorem dX0_make_79 : decode cX0_make 79 = .ok (.iinc 3 (-1), 3) := by decide +kernel
theorem dX0_make_82 : decode cX0_make 82 = .ok (.goto (-39), 3) := by decide +kernel
theorem dX0_make_57 : decode cX0_make 57 = .ok (.aload_n 0, 1) := by decide +kernel
theorem dX0_make_58 : decode cX0_make 58 = .ok (.getfield 17, 3) := by decide +kernel
theorem dX0_make_61 : decode cX0_make 61 = .ok (.iload_n 3, 1) := by decide +kernel
theorem dX0_make_62 : decode cX0_make 62 = .ok (.aaload, 1) := by decide +kernel
theorem dX0_make_63 : decode cX0_make 63 = .ok (.iload 4, 2) := by decide +kernel
theorem dX0_make_65 : decode cX0_make 65 = .ok (.aload_n 0, 1) := by decide +kernel
theorem dX0_make_66 : decode cX0_make 66 = .ok (.iload_n 3, 1) := by decide +kernel
theorem dX0_make_67 : decode cX0_make 67 = .ok (.iload 4, 2) := by decide +kernel
set_option maxRecDepth 20000 in
theorem ggX0_make_X0_find : GoodIn wsX0_make wsX0_find := gup gc_X0_find
set_option maxRecDepth 20000 in
theorem gX0_make_X0_find : GoodIn wsX0_make (wsV RX0 42 RX0 yX0_find wsX0_find) := gup (glV hw_612 hw_613 hw_614 hw_615 gc_X0_find)
theorem dX0_make_69 : decode cX0_make 69 = .ok (.invokevirtual 42, 3) := by decide +kernel
theorem dX0_make_72 : decode cX0_make 72 = .ok (.iastore, 1) := by decide +kernel
theorem dX0_make_73 : decode cX0_make 73 = .ok (.iinc 4 1, 3) := by decide +kernel
theorem dX0_make_76 : decode cX0_make 76 = .ok (.goto (-26), 3) := by decide +kernel
theorem dX0_make_43 : decode cX0_make 43 = .ok (.iload_n 3, 1) := by decide +kernel
theorem dX0_make_44 : decode cX0_make 44 = .ok (.ifCond .lt 41, 3) := by decide +kernel
theorem dX0_make_47 : decode cX0_make 47 = .ok (.iconst 0, 1) := by decide +kernel
theorem dX0_make_48 : decode cX0_make 48 = .ok (.istore 4, 2) := by decide +kernel
theorem dX0_make_0 : decode cX0_make 0 = .ok (.aload_n 0, 1) := by decide +kernel
theorem dX0_make_1 : decode cX0_make 1 = .ok (.aload_n 1, 1) := by decide +kernel
theorem dX0_make_2 : decode cX0_make 2 = .ok (.putfield 20, 3) := by decide +kernel
theorem dX0_make_5 : decode cX0_make 5 = .ok (.aload_n 2, 1) := by decide +kernel
theorem dX0_make_6 : decode cX0_make 6 = .ok (.iconst 0, 1) := by decide +kernel
theorem dX0_make_7 : decode cX0_make 7 = .ok (.aload_n 0, 1) := by decide +kernel
theorem dX0_make_8 : decode cX0_make 8 = .ok (.getfield 9, 3) := by decide +kernel
theorem dX0_make_11 : decode cX0_make 11 = .ok (.iconst 0, 1) := by decide +kernel
theorem dX0_make_12 : decode cX0_make 12 = .ok (.bipush 16, 2) := by decide +kernel
theorem dX0_make_14 : decode cX0_make 14 = .ok (.invokestatic 24, 3) := by decide +kernel
theorem dX0_make_17 : decode cX0_make 17 = .ok (.aload_n 0, 1) := by decide +kernel
theorem dX0_make_18 : decode cX0_make 18 = .ok (.getfield 17, 3) := by decide +kernel
theorem dX0_make_21 : decode cX0_make 21 = .ok (.aload_n 0, 1) := by decide +kernel
theorem dX0_make_22 : decode cX0_make 22 = .ok (.getfield 20, 3) := by decide +kernel
theorem dX0_make_25 : decode cX0_make 25 = .ok (.getfield 30, 3) := by decide +kernel
theorem dX0_make_28 : decode cX0_make 28 = .ok (.aaload, 1) := by decide +kernel
theorem dX0_make_29 : decode cX0_make 29 = .ok (.iconst 0, 1) := by decide +kernel
set_option maxRecDepth 20000 in
theorem ggX0_make_J7_fill_53178 : GoodIn wsX0_make wsJ7_fill_53178 := gup gc_J7_fill_53178
set_option maxRecDepth 20000 in
theorem gX0_make_J7_fill_53178 : GoodIn wsX0_make (va_wsS RX0 36 yJ7_fill_53178 wsJ7_fill_53178) := gup (glS hw_618 hw_371 hw_372 gc_J7_fill_53178)
theorem dX0_make_30 : decode cX0_make 30 = .ok (.invokestatic 36, 3) := by decide +kernel
theorem dX0_make_33 : decode cX0_make 33 = .ok (.aload_n 0, 1) := by decide +kernel
theorem dX0_make_34 : decode cX0_make 34 = .ok (.getfield 20, 3) := by decide +kernel
theorem dX0_make_37 : decode cX0_make 37 = .ok (.getfield 30, 3) := by decide +kernel
theorem dX0_make_40 : decode cX0_make 40 = .ok (.iconst 1, 1) := by decide +kernel
theorem dX0_make_41 : decode cX0_make 41 = .ok (.isub, 1) := by decide +kernel
theorem dX0_make_42 : decode cX0_make 42 = .ok (.istore_n 3, 1) := by decide +kernel
theorem dX0_make_85 : decode cX0_make 85 = .ok (.return_, 1) := by decide +kernel
def wW_X0_make (ak : Nat → ClassId) (ad : Nat → Nat) (hl_ : Nat) (la : Nat → Nat) (gq : Nat → Nat) (pk : Nat) (Apk : Nat → Int32) (Lpg : Nat) (Lstuff : Int32) (Ltwins : Int32) (Lpeak : Nat → Int32) (Lrow : Nat → Nat → Int32) : va_W := ([(pk, .inl (ak 0, 16, .inl (Apk))), (hl_, .inr (0, lob la (Lpg) (Lstuff) (Ltwins))), ((la 0), .inl (ak 0, 16, .inl (Lpeak))), ((la 1), .inl (ak 6, 17, .inr (.inr (.inr (.inr (grA gq))))))] ++ gRows ak gq Lrow)
def wK_X0_make (ak : Nat → ClassId) (ad : Nat → Nat) (pg : Nat) (pa : Nat → Nat) (Pst : Int32) (Pce : Int32) (Pgi : Int32) (Pln : Int32) (Pbears : Nat → Int32) (Pcosts : Nat → Int32) : va_W := [(pg, .inr (2, pob pa (Pst) (Pce) (Pgi) (Pln))), ((pa 0), .inl (ak 0, 4, .inl (Pbears))), ((pa 1), .inl (ak 0, 4, .inl (Pcosts)))]
def lb_X0_make_50 (Apk : Nat → Int32) (Pst : Int32) (Pln : Int32) (Pbears : Nat → Int32) (Pcosts : Nat → Int32) (pg : Nat) (κ43 : Nat → Int32 → Int32 → (Nat → Int32) → (Nat → Nat → Int32) → Int32 → Prop) (Φ : Nat → Int32 → Int32 → (Nat → Int32) → (Nat → Nat → Int32) → Prop) (back : Nat → Int32 → Int32 → (Nat → Int32) → (Nat → Nat → Int32) → Int32 → Int32 → Prop) (Lpg : Nat) (Lstuff : Int32) (Ltwins : Int32) (Lpeak : Nat → Int32) (Lrow : Nat → Nat → Int32) (l3 : Int32) (l4 : Int32) : Prop := (64 < l4 → κ43 Lpg Lstuff Ltwins Lpeak Lrow (l3 + (-1))) ∧ (¬ 64 < l4 → vp_in l3 17 ∧ pg = Lpg ∧ wp_X0_find Lpeak Lrow Pst Pbears Pcosts l3 l4 Lstuff Ltwins (fun r_10 Lstuff_8 Ltwins_9 => vp_in l4 65 ∧ back pg Lstuff_8 Ltwins_9 Lpeak (updR Lrow ((l3).toNatClampNeg) (upd (Lrow ((l3).toNatClampNeg)) (l4).toNatClampNeg r_10)) l3 (l4 + 1)))
def lf_X0_make_50 (Apk : Nat → Int32) (Pst : Int32) (Pln : Int32) (Pbears : Nat → Int32) (Pcosts : Nat → Int32) (pg : Nat) (κ43 : Nat → Int32 → Int32 → (Nat → Int32) → (Nat → Nat → Int32) → Int32 → Prop) (Φ : Nat → Int32 → Int32 → (Nat → Int32) → (Nat → Nat → Int32) → Prop) : Nat → Nat → Int32 → Int32 → (Nat → Int32) → (Nat → Nat → Int32) → Int32 → Int32 → Prop
  | 0, _, _, _, _, _, _, _ => False
  | n_ + 1, Lpg, Lstuff, Ltwins, Lpeak, Lrow, l3, l4 => lb_X0_make_50 Apk Pst Pln Pbears Pcosts pg κ43 Φ (lf_X0_make_50 Apk Pst Pln Pbears Pcosts pg κ43 Φ n_) Lpg Lstuff Ltwins Lpeak Lrow l3 l4
theorem li_X0_make_50 (Apk : Nat → Int32) (Pst : Int32) (Pln : Int32) (Pbears : Nat → Int32) (Pcosts : Nat → Int32) (pg : Nat) (κ43 : Nat → Int32 → Int32 → (Nat → Int32) → (Nat → Nat → Int32) → Int32 → Prop) (Φ : Nat → Int32 → Int32 → (Nat → Int32) → (Nat → Nat → Int32) → Prop) (Inv : Nat → Int32 → Int32 → (Nat → Int32) → (Nat → Nat → Int32) → Int32 → Int32 → Prop) (mu : Nat → Int32 → Int32 → (Nat → Int32) → (Nat → Nat → Int32) → Int32 → Int32 → Nat) (hs : ∀ (back : Nat → Int32 → Int32 → (Nat → Int32) → (Nat → Nat → Int32) → Int32 → Int32 → Prop) (Lpg : Nat) (Lstuff : Int32) (Ltwins : Int32) (Lpeak : Nat → Int32) (Lrow : Nat → Nat → Int32) (l3 : Int32) (l4 : Int32), Inv Lpg Lstuff Ltwins Lpeak Lrow l3 l4 → (∀ (Lpg' : Nat) (Lstuff' : Int32) (Ltwins' : Int32) (Lpeak' : Nat → Int32) (Lrow' : Nat → Nat → Int32) (l3' : Int32) (l4' : Int32), Inv Lpg' Lstuff' Ltwins' Lpeak' Lrow' l3' l4' → mu Lpg' Lstuff' Ltwins' Lpeak' Lrow' l3' l4' < mu Lpg Lstuff Ltwins Lpeak Lrow l3 l4 → back Lpg' Lstuff' Ltwins' Lpeak' Lrow' l3' l4') → lb_X0_make_50 Apk Pst Pln Pbears Pcosts pg κ43 Φ back Lpg Lstuff Ltwins Lpeak Lrow l3 l4) : ∀ (n_ : Nat) (Lpg : Nat) (Lstuff : Int32) (Ltwins : Int32) (Lpeak : Nat → Int32) (Lrow : Nat → Nat → Int32) (l3 : Int32) (l4 : Int32), Inv Lpg Lstuff Ltwins Lpeak Lrow l3 l4 → mu Lpg Lstuff Ltwins Lpeak Lrow l3 l4 < n_ → lf_X0_make_50 Apk Pst Pln Pbears Pcosts pg κ43 Φ n_ Lpg Lstuff Ltwins Lpeak Lrow l3 l4 := by
  intro n_
  induction n_ with
  | zero => intro Lpg Lstuff Ltwins Lpeak Lrow l3 l4 _ h; exact absurd h (Nat.not_lt_zero _)
  | succ n_ ih => intro Lpg Lstuff Ltwins Lpeak Lrow l3 l4 hI hm; exact hs _ Lpg Lstuff Ltwins Lpeak Lrow l3 l4 hI (fun Lpg' Lstuff' Ltwins' Lpeak' Lrow' l3' l4' h1 h2 => ih Lpg' Lstuff' Ltwins' Lpeak' Lrow' l3' l4' h1 (by omega))
set_option maxHeartbeats 4000000 in
set_option maxRecDepth 100000 in
theorem lp_X0_make_50 {p : Program} {l : Launch} {e : Env} {R : Room} {s : State} {m : MethodId} {args : Array Value} {below : List Frame} {meth : Method} {c : Code} {cells slots : Nat} {Q : State → Prop} {A : Nat → Prop} {D : va_G} {ak : Nat → ClassId} {ad : Nat → Nat} (hx : p.tables.exec = Jvm.exec) (hb : c.code = cX0_make) (hown : s.vm.findClass RX0 = some m.cls) (hts : ∀ w ∈ wsX0_make, w.before args s = true) (hml : c.maxLocals = 5) (hE : EV D ak s) (hT : ST D ak ad A s s.heap) (hA : ∀ q, s.heap.size ≤ q → A q) (hRf : 1 ≤ R.frames) (hRl : 40 ≤ R.locals) (hRc : cells ≤ R.cells ∧ slots ≤ R.slots) (hl_ : Nat) (la : Nat → Nat) (gq : Nat → Nat) (pg : Nat) (pa : Nat → Nat) (pk : Nat) (Apk : Nat → Int32) (Pst : Int32) (Pce : Int32) (Pgi : Int32) (Pln : Int32) (Pbears : Nat → Int32) (Pcosts : Nat → Int32) (hKT : KT D A (wK_X0_make ak ad pg pa Pst Pce Pgi Pln Pbears Pcosts) s.heap) (κ43 : Nat → Int32 → Int32 → (Nat → Int32) → (Nat → Nat → Int32) → Int32 → Prop) (Φ : Nat → Int32 → Int32 → (Nat → Int32) → (Nat → Nat → Int32) → Prop)
    (kk43 : ∀ (Lpg : Nat) (Lstuff : Int32) (Ltwins : Int32) (Lpeak : Nat → Int32) (Lrow : Nat → Nat → Int32) (l3 : Int32) (H : Heap) (locs : List Loc) (ls : Array Slot), κ43 Lpg Lstuff Ltwins Lpeak Lrow l3 → va_P D vwCl (wW_X0_make ak ad hl_ la gq pk Apk Lpg Lstuff Ltwins Lpeak Lrow) H → va_D A (wW_X0_make ak ad hl_ la gq pk Apk Lpg Lstuff Ltwins Lpeak Lrow) → va_S A s.heap H locs → lv_has ls 5 [(0, .ref hl_), (3, .int (l3))] → W p l e R s m args below meth c H locs cells slots Q (F0 m 43 ls ([])))
    (kR85 : ∀ (Lpg : Nat) (Lstuff : Int32) (Ltwins : Int32) (Lpeak : Nat → Int32) (Lrow : Nat → Nat → Int32) (H : Heap) (locs : List Loc) (ls : Array Slot), Φ Lpg Lstuff Ltwins Lpeak Lrow → va_P D vwCl (wW_X0_make ak ad hl_ la gq pk Apk Lpg Lstuff Ltwins Lpeak Lrow) H → va_D A (wW_X0_make ak ad hl_ la gq pk Apk Lpg Lstuff Ltwins Lpeak Lrow) → va_S A s.heap H locs → W p l e R s m args below meth c H locs cells slots Q (F0 m 85 ls []))
    : ∀ (n_ : Nat) (Lpg : Nat) (Lstuff : Int32) (Ltwins : Int32) (Lpeak : Nat → Int32) (Lrow : Nat → Nat → Int32) (l3 : Int32) (l4 : Int32) (H : Heap) (locs : List Loc) (ls : Array Slot), lf_X0_make_50 Apk Pst Pln Pbears Pcosts pg κ43 Φ n_ Lpg Lstuff Ltwins Lpeak Lrow l3 l4 → va_P D vwCl (wW_X0_make ak ad hl_ la gq pk Apk Lpg Lstuff Ltwins Lpeak Lrow) H → va_D A (wW_X0_make ak ad hl_ la gq pk Apk Lpg Lstuff Ltwins Lpeak Lrow) → va_S A s.heap H locs → lv_has ls 5 [(0, .ref hl_), (3, .int (l3)), (4, .int (l4))] → W p l e R s m args below meth c H locs cells slots Q (F0 m 50 ls ([])) := by
  have hCW : ∀ {H : Heap} {locs : List Loc}, va_S A s.heap H locs → va_P D vwCl (wK_X0_make ak ad pg pa Pst Pce Pgi Pln Pbears Pcosts) H := fun hS => (hKT.kept hS.2.1).1
  intro n_
  induction n_ with
  | zero =>
    intro Lpg Lstuff Ltwins Lpeak Lrow l3 l4 H locs ls hw
    exact hw.elim
  | succ n_ ih =>
    intro Lpg Lstuff Ltwins Lpeak Lrow l3 l4 H locs ls hw hP hD hS hl
    replace hw : lb_X0_make_50 Apk Pst Pln Pbears Pcosts pg κ43 Φ (lf_X0_make_50 Apk Pst Pln Pbears Pcosts pg κ43 Φ n_) Lpg Lstuff Ltwins Lpeak Lrow l3 l4 := hw
    delta lb_X0_make_50 at hw
    refine lv_iload hx hb dX0_make_50 (lv_at hl 2 rfl) ?_
    refine lv_bipush (v := 64) hx hb dX0_make_52 (by decide) ?_
    refine lv_icmp_gt (tgt := 79) hx hb dX0_make_54 (by decide) (fun c_4 => ?_) (fun c_4 => ?_)
    · replace hw := hw.1 c_4
      refine lv_iinc (v := (l3 + (-1))) (lv' := [(3, .int (l3 + (-1))), (0, .ref hl_), (4, .int (l4))]) hx hb dX0_make_79 hl (k := 1) rfl (rfl) (by decide) rfl (fun ls hl => ?_)
      refine lv_goto (tgt := 43) hx hb dX0_make_82 (by decide) ?_
      exact kk43 Lpg Lstuff Ltwins Lpeak Lrow (l3 + (-1)) _ _ _ hw hP hD hS (lv_sub hl [1, 0] rfl)
    · replace hw := hw.2 c_4
      refine lv_aload_n hx hb dX0_make_57 rfl (lv_at hl 0 rfl) ?_
      refine vt_get (D := D) (ci := 0) (v := .ref (la 1)) (C := RX0) (T := TX0) (N := 5) hx hb hts (fun w h => wm_c (wc_X0 w h)) hown hE.1 hP 1 rfl rfl 2 (by decide) tX0_2 (hts (.fieldLink RX0 17 "WornLines$Layout" "least" "[[I") (wm_c hw_311)) (fun _ h9 => h9) rfl dX0_make_58 ?_
      refine lv_iload_n hx hb dX0_make_61 rfl (lv_at hl 1 rfl) ?_
      obtain ⟨h_5, hw⟩ := hw
      refine kg_ald hx hb hE hP 3 rfl (h_5) dX0_make_62 ?_
      refine lv_iload hx hb dX0_make_63 (lv_at hl 2 rfl) ?_
      refine lv_aload_n hx hb dX0_make_65 rfl (lv_at hl 0 rfl) ?_
      refine lv_iload_n hx hb dX0_make_66 rfl (lv_at hl 1 rfl) ?_
      refine lv_iload hx hb dX0_make_67 (lv_at hl 2 rfl) ?_
      obtain ⟨hal, hwn_6⟩ := hw
      have hPn_6 := hP
      have hDn_6 := hD
      have hSn_6 := hS
      have hln_6 := hl
      subst hal
      have hw := hwn_6
      have hP := hPn_6
      have hD := hDn_6
      have hS := hSn_6
      have hl := hln_6
      refine kc_i (wc := (wW_X0_find ak ad hl_ la gq pg Lstuff Ltwins Lpeak Lrow)) (wr := [(pk, .inl (ak 0, 16, .inl (Apk)))]) hP hD hS hA [1, 2, 3, 4, 5, 6, 7, 8, 9, 10, 11, 12, 13, 14, 15, 16, 17, 18, 19, 20] [0] rfl rfl (by decide) (by decide) (va_runV (As := [.int (l3), .int (l4)]) (rest := [.int (l4), .ref (gq ((l3).toNatClampNeg))]) ⟨hx, hb, hml, hown, hts⟩ (c_X0_find l D ak ad _ hl_ la gq pg pa Lstuff Ltwins Lpeak Lrow Pst Pce Pgi Pln Pbears Pcosts l3 l4 _ hw) (cwV 2 hts gX0_make_X0_find rfl rfl rfl hv_X0_find ⟨(Nat.le_trans (Nat.le_of_ble_eq_true rfl) hRf), (Nat.le_trans (Nat.le_of_ble_eq_true rfl) hRl)⟩) (kc_preVK (As := [.int (l3), .int (l4)]) (wc := (wW_X0_find ak ad hl_ la gq pg Lstuff Ltwins Lpeak Lrow)) (ck := (wK_X0_find ak ad pg pa Pst Pce Pgi Pln Pbears Pcosts)) hKT hE hT hP hD hS hA [1, 2, 3, 4, 5, 6, 7, 8, 9, 10, 11, 12, 13, 14, 15, 16, 17, 18, 19, 20] [0, 1, 2] (by decide) rfl rfl rfl hP 1 0 rfl rfl rfl) rfl rfl hl.1 rfl (lv_room (Nat.le_of_ble_eq_true rfl)) dX0_make_69 ⟨hRc.1, hRc.2⟩) (fun r_10 u_7 H locs hw hP hD hS => ?_)
      obtain ⟨Lstuff_8, Ltwins_9⟩ := u_7
      try dsimp -zeta only at hw
      have hP : va_P D vwCl (wW_X0_make ak ad hl_ la gq pk Apk pg Lstuff_8 Ltwins_9 Lpeak Lrow) H := hP.sub [0, 1, 2, 3, 4, 5, 6, 7, 8, 9, 10, 11, 12, 13, 14, 15, 16, 17, 18, 19, 20] rfl
      have hD : va_D A (wW_X0_make ak ad hl_ la gq pk Apk pg Lstuff_8 Ltwins_9 Lpeak Lrow) := hD.sub [0, 1, 2, 3, 4, 5, 6, 7, 8, 9, 10, 11, 12, 13, 14, 15, 16, 17, 18, 19, 20] (by decide) rfl
      obtain ⟨h_11, hw⟩ := hw
      refine va_iast hx hb hE.1 hP hD hS (4 + ((l3).toNatClampNeg)) 0 (gw_at 4 rfl (vp_lt h_5)) rfl (h_11) dX0_make_72 (fun H locs hP hD hS => ?_)
      rw [show (wW_X0_make ak ad hl_ la gq pk Apk pg Lstuff_8 Ltwins_9 Lpeak Lrow).set (4 + ((l3).toNatClampNeg)) (gq ((l3).toNatClampNeg), .inl (ak 0, 65, .inl (upd (Lrow ((l3).toNatClampNeg)) (l4).toNatClampNeg r_10))) = (wW_X0_make ak ad hl_ la gq pk Apk pg Lstuff_8 Ltwins_9 Lpeak (updR Lrow ((l3).toNatClampNeg) (upd (Lrow ((l3).toNatClampNeg)) (l4).toNatClampNeg r_10))) from gw_set 4 rfl (vp_lt h_5)] at hP hD
      refine lv_iinc (v := (l4 + 1)) (lv' := [(4, .int (l4 + 1)), (0, .ref hl_), (3, .int (l3))]) hx hb dX0_make_73 hl (k := 2) rfl (rfl) (by decide) rfl (fun ls hl => ?_)
      refine lv_goto (tgt := 50) hx hb dX0_make_76 (by decide) ?_
      exact ih pg Lstuff_8 Ltwins_9 Lpeak (updR Lrow ((l3).toNatClampNeg) (upd (Lrow ((l3).toNatClampNeg)) (l4).toNatClampNeg r_10)) l3 (l4 + 1) _ _ _ hw hP hD hS (lv_sub hl [1, 2, 0] rfl)

def lb_X0_make_43 (Apk : Nat → Int32) (Pst : Int32) (Pln : Int32) (Pbears : Nat → Int32) (Pcosts : Nat → Int32) (pg : Nat)  (Φ : Nat → Int32 → Int32 → (Nat → Int32) → (Nat → Nat → Int32) → Prop) (back : Nat → Int32 → Int32 → (Nat → Int32) → (Nat → Nat → Int32) → Int32 → Prop) (Lpg : Nat) (Lstuff : Int32) (Ltwins : Int32) (Lpeak : Nat → Int32) (Lrow : Nat → Nat → Int32) (l3 : Int32) : Prop := (l3 < 0 → Φ Lpg Lstuff Ltwins Lpeak Lrow) ∧ (¬ l3 < 0 → (∃ n_, lf_X0_make_50 Apk Pst Pln Pbears Pcosts pg back Φ n_ Lpg Lstuff Ltwins Lpeak Lrow l3 0))
def lf_X0_make_43 (Apk : Nat → Int32) (Pst : Int32) (Pln : Int32) (Pbears : Nat → Int32) (Pcosts : Nat → Int32) (pg : Nat)  (Φ : Nat → Int32 → Int32 → (Nat → Int32) → (Nat → Nat → Int32) → Prop) : Nat → Nat → Int32 → Int32 → (Nat → Int32) → (Nat → Nat → Int32) → Int32 → Prop
  | 0, _, _, _, _, _, _ => False
  | n_ + 1, Lpg, Lstuff, Ltwins, Lpeak, Lrow, l3 => lb_X0_make_43 Apk Pst Pln Pbears Pcosts pg  Φ (lf_X0_make_43 Apk Pst Pln Pbears Pcosts pg  Φ n_) Lpg Lstuff Ltwins Lpeak Lrow l3
theorem li_X0_make_43 (Apk : Nat → Int32) (Pst : Int32) (Pln : Int32) (Pbears : Nat → Int32) (Pcosts : Nat → Int32) (pg : Nat)  (Φ : Nat → Int32 → Int32 → (Nat → Int32) → (Nat → Nat → Int32) → Prop) (Inv : Nat → Int32 → Int32 → (Nat → Int32) → (Nat → Nat → Int32) → Int32 → Prop) (mu : Nat → Int32 → Int32 → (Nat → Int32) → (Nat → Nat → Int32) → Int32 → Nat) (hs : ∀ (back : Nat → Int32 → Int32 → (Nat → Int32) → (Nat → Nat → Int32) → Int32 → Prop) (Lpg : Nat) (Lstuff : Int32) (Ltwins : Int32) (Lpeak : Nat → Int32) (Lrow : Nat → Nat → Int32) (l3 : Int32), Inv Lpg Lstuff Ltwins Lpeak Lrow l3 → (∀ (Lpg' : Nat) (Lstuff' : Int32) (Ltwins' : Int32) (Lpeak' : Nat → Int32) (Lrow' : Nat → Nat → Int32) (l3' : Int32), Inv Lpg' Lstuff' Ltwins' Lpeak' Lrow' l3' → mu Lpg' Lstuff' Ltwins' Lpeak' Lrow' l3' < mu Lpg Lstuff Ltwins Lpeak Lrow l3 → back Lpg' Lstuff' Ltwins' Lpeak' Lrow' l3') → lb_X0_make_43 Apk Pst Pln Pbears Pcosts pg  Φ back Lpg Lstuff Ltwins Lpeak Lrow l3) : ∀ (n_ : Nat) (Lpg : Nat) (Lstuff : Int32) (Ltwins : Int32) (Lpeak : Nat → Int32) (Lrow : Nat → Nat → Int32) (l3 : Int32), Inv Lpg Lstuff Ltwins Lpeak Lrow l3 → mu Lpg Lstuff Ltwins Lpeak Lrow l3 < n_ → lf_X0_make_43 Apk Pst Pln Pbears Pcosts pg  Φ n_ Lpg Lstuff Ltwins Lpeak Lrow l3 := by
  intro n_
  induction n_ with
  | zero => intro Lpg Lstuff Ltwins Lpeak Lrow l3 _ h; exact absurd h (Nat.not_lt_zero _)
  | succ n_ ih => intro Lpg Lstuff Ltwins Lpeak Lrow l3 hI hm; exact hs _ Lpg Lstuff Ltwins Lpeak Lrow l3 hI (fun Lpg' Lstuff' Ltwins' Lpeak' Lrow' l3' h1 h2 => ih Lpg' Lstuff' Ltwins' Lpeak' Lrow' l3' h1 (by omega))
set_option maxHeartbeats 4000000 in
set_option maxRecDepth 100000 in
theorem lp_X0_make_43 {p : Program} {l : Launch} {e : Env} {R : Room} {s : State} {m : MethodId} {args : Array Value} {below : List Frame} {meth : Method} {c : Code} {cells slots : Nat} {Q : State → Prop} {A : Nat → Prop} {D : va_G} {ak : Nat → ClassId} {ad : Nat → Nat} (hx : p.tables.exec = Jvm.exec) (hb : c.code = cX0_make) (hown : s.vm.findClass RX0 = some m.cls) (hts : ∀ w ∈ wsX0_make, w.before args s = true) (hml : c.maxLocals = 5) (hE : EV D ak s) (hT : ST D ak ad A s s.heap) (hA : ∀ q, s.heap.size ≤ q → A q) (hRf : 1 ≤ R.frames) (hRl : 40 ≤ R.locals) (hRc : cells ≤ R.cells ∧ slots ≤ R.slots) (hl_ : Nat) (la : Nat → Nat) (gq : Nat → Nat) (pg : Nat) (pa : Nat → Nat) (pk : Nat) (Apk : Nat → Int32) (Pst : Int32) (Pce : Int32) (Pgi : Int32) (Pln : Int32) (Pbears : Nat → Int32) (Pcosts : Nat → Int32) (hKT : KT D A (wK_X0_make ak ad pg pa Pst Pce Pgi Pln Pbears Pcosts) s.heap)  (Φ : Nat → Int32 → Int32 → (Nat → Int32) → (Nat → Nat → Int32) → Prop)
    (kR85 : ∀ (Lpg : Nat) (Lstuff : Int32) (Ltwins : Int32) (Lpeak : Nat → Int32) (Lrow : Nat → Nat → Int32) (H : Heap) (locs : List Loc) (ls : Array Slot), Φ Lpg Lstuff Ltwins Lpeak Lrow → va_P D vwCl (wW_X0_make ak ad hl_ la gq pk Apk Lpg Lstuff Ltwins Lpeak Lrow) H → va_D A (wW_X0_make ak ad hl_ la gq pk Apk Lpg Lstuff Ltwins Lpeak Lrow) → va_S A s.heap H locs → W p l e R s m args below meth c H locs cells slots Q (F0 m 85 ls []))
    : ∀ (n_ : Nat) (Lpg : Nat) (Lstuff : Int32) (Ltwins : Int32) (Lpeak : Nat → Int32) (Lrow : Nat → Nat → Int32) (l3 : Int32) (H : Heap) (locs : List Loc) (ls : Array Slot), lf_X0_make_43 Apk Pst Pln Pbears Pcosts pg  Φ n_ Lpg Lstuff Ltwins Lpeak Lrow l3 → va_P D vwCl (wW_X0_make ak ad hl_ la gq pk Apk Lpg Lstuff Ltwins Lpeak Lrow) H → va_D A (wW_X0_make ak ad hl_ la gq pk Apk Lpg Lstuff Ltwins Lpeak Lrow) → va_S A s.heap H locs → lv_has ls 5 [(0, .ref hl_), (3, .int (l3))] → W p l e R s m args below meth c H locs cells slots Q (F0 m 43 ls ([])) := by
  have hCW : ∀ {H : Heap} {locs : List Loc}, va_S A s.heap H locs → va_P D vwCl (wK_X0_make ak ad pg pa Pst Pce Pgi Pln Pbears Pcosts) H := fun hS => (hKT.kept hS.2.1).1
  intro n_
  induction n_ with
  | zero =>
    intro Lpg Lstuff Ltwins Lpeak Lrow l3 H locs ls hw
    exact hw.elim
  | succ n_ ih =>
    intro Lpg Lstuff Ltwins Lpeak Lrow l3 H locs ls hw hP hD hS hl
    have hw : lb_X0_make_43 Apk Pst Pln Pbears Pcosts pg  Φ (lf_X0_make_43 Apk Pst Pln Pbears Pcosts pg  Φ n_) Lpg Lstuff Ltwins Lpeak Lrow l3 := hw
    delta lb_X0_make_43 at hw
    refine lv_iload_n hx hb dX0_make_43 rfl (lv_at hl 1 rfl) ?_
    refine lv_if_lt (tgt := 85) hx hb dX0_make_44 (by decide) (fun c_3 => ?_) (fun c_3 => ?_)
    · replace hw := hw.1 c_3
      exact kR85 Lpg Lstuff Ltwins Lpeak Lrow _ _ _ hw hP hD hS
    · replace hw := hw.2 c_3
      refine lv_iconst (v := 0) hx hb dX0_make_47 (by decide) ?_
      refine lv_istore (lv' := [(4, .int (0)), (0, .ref hl_), (3, .int (l3))]) hx hb dX0_make_48 hl (by decide) rfl (fun ls hl => ?_)
      obtain ⟨n1_, hw⟩ := hw
      exact lp_X0_make_50 hx hb hown hts hml hE hT hA hRf hRl hRc hl_ la gq pg pa pk Apk Pst Pce Pgi Pln Pbears Pcosts hKT _ Φ ih kR85 n1_ Lpg Lstuff Ltwins Lpeak Lrow l3 0 _ _ _ hw hP hD hS (lv_sub hl [1, 2, 0] rfl)

def wp_X0_make (Apk : Nat → Int32) (Pst : Int32) (Pln : Int32) (Pbears : Nat → Int32) (Pcosts : Nat → Int32) (pg : Nat) (Lpg : Nat) (Lstuff : Int32) (Ltwins : Int32) (Lpeak : Nat → Int32) (Lrow : Nat → Nat → Int32) (Φ : Nat → Int32 → Int32 → (Nat → Int32) → (Nat → Nat → Int32) → Prop) : Prop := vp_in Pln 17 ∧ wp_J7_fill_53178 65 0 (Lrow ((Pln).toNatClampNeg)) (fun Ar_2 => (∃ n_, lf_X0_make_43 Apk Pst Pln Pbears Pcosts pg  Φ n_ pg Lstuff Ltwins (va_cpy Apk Lpeak 0 0 16) (updR Lrow ((Pln).toNatClampNeg) Ar_2) (Pln - 1)))
set_option maxHeartbeats 4000000 in
set_option maxRecDepth 100000 in
theorem kj_X0_make_e {p : Program} {l : Launch} {e : Env} {R : Room} {s : State} {m : MethodId} {args : Array Value} {below : List Frame} {meth : Method} {c : Code} {cells slots : Nat} {Q : State → Prop} {A : Nat → Prop} {D : va_G} {ak : Nat → ClassId} {ad : Nat → Nat} (hx : p.tables.exec = Jvm.exec) (hb : c.code = cX0_make) (hown : s.vm.findClass RX0 = some m.cls) (hts : ∀ w ∈ wsX0_make, w.before args s = true) (hml : c.maxLocals = 5) (hE : EV D ak s) (hT : ST D ak ad A s s.heap) (hA : ∀ q, s.heap.size ≤ q → A q) (hRf : 1 ≤ R.frames) (hRl : 40 ≤ R.locals) (hRc : cells ≤ R.cells ∧ slots ≤ R.slots) (hl_ : Nat) (la : Nat → Nat) (gq : Nat → Nat) (pg : Nat) (pa : Nat → Nat) (pk : Nat) (Apk : Nat → Int32) (Pst : Int32) (Pce : Int32) (Pgi : Int32) (Pln : Int32) (Pbears : Nat → Int32) (Pcosts : Nat → Int32) (hKT : KT D A (wK_X0_make ak ad pg pa Pst Pce Pgi Pln Pbears Pcosts) s.heap)  (Φ : Nat → Int32 → Int32 → (Nat → Int32) → (Nat → Nat → Int32) → Prop)
    (kR85 : ∀ (Lpg : Nat) (Lstuff : Int32) (Ltwins : Int32) (Lpeak : Nat → Int32) (Lrow : Nat → Nat → Int32) (H : Heap) (locs : List Loc) (ls : Array Slot), Φ Lpg Lstuff Ltwins Lpeak Lrow → va_P D vwCl (wW_X0_make ak ad hl_ la gq pk Apk Lpg Lstuff Ltwins Lpeak Lrow) H → va_D A (wW_X0_make ak ad hl_ la gq pk Apk Lpg Lstuff Ltwins Lpeak Lrow) → va_S A s.heap H locs → W p l e R s m args below meth c H locs cells slots Q (F0 m 85 ls []))
    : ∀ (Lpg : Nat) (Lstuff : Int32) (Ltwins : Int32) (Lpeak : Nat → Int32) (Lrow : Nat → Nat → Int32) (H : Heap) (locs : List Loc) (ls : Array Slot), wp_X0_make Apk Pst Pln Pbears Pcosts pg Lpg Lstuff Ltwins Lpeak Lrow Φ → va_P D vwCl (wW_X0_make ak ad hl_ la gq pk Apk Lpg Lstuff Ltwins Lpeak Lrow) H → va_D A (wW_X0_make ak ad hl_ la gq pk Apk Lpg Lstuff Ltwins Lpeak Lrow) → va_S A s.heap H locs → lv_has ls 5 [(0, .ref hl_), (1, .ref pg), (2, .ref pk)] → W p l e R s m args below meth c H locs cells slots Q (F0 m 0 ls ([])) := by
  have hCW : ∀ {H : Heap} {locs : List Loc}, va_S A s.heap H locs → va_P D vwCl (wK_X0_make ak ad pg pa Pst Pce Pgi Pln Pbears Pcosts) H := fun hS => (hKT.kept hS.2.1).1
  intro Lpg Lstuff Ltwins Lpeak Lrow H locs ls hw hP hD hS hl
  delta wp_X0_make at hw
  refine lv_aload_n hx hb dX0_make_0 rfl (lv_at hl 0 rfl) ?_
  refine lv_aload_n hx hb dX0_make_1 rfl (lv_at hl 1 rfl) ?_
  refine vt_put (D := D) (ci := 0) (v := .ref pg) (ty := .object "WornLines$Programme") (C := RX0) (T := TX0) (N := 5) hx hb hts (fun w h => wm_c (wc_X0 w h)) tyX0 tyX0_ok nmX0 hown hE.1 hP hD hS 1 rfl rfl 0 (by decide) tX0_0 (hts (.fieldLink RX0 20 "WornLines$Layout" "programme" "LWornLines$Programme;") (wm_c hw_312)) (fun _ h9 => h9) rfl pf_9 (rfl) rfl (Nat.le_of_ble_eq_true rfl) dX0_make_2 (fun H locs hP hD hS => ?_)
  have hP : va_P D vwCl (wW_X0_make ak ad hl_ la gq pk Apk pg Lstuff Ltwins Lpeak Lrow) H := hP
  have hD : va_D A (wW_X0_make ak ad hl_ la gq pk Apk pg Lstuff Ltwins Lpeak Lrow) := hD
  refine lv_aload_n hx hb dX0_make_5 rfl (lv_at hl 2 rfl) ?_
  refine lv_iconst (v := 0) hx hb dX0_make_6 (by decide) ?_
  refine lv_aload_n hx hb dX0_make_7 rfl (lv_at hl 0 rfl) ?_
  refine vt_get (D := D) (ci := 0) (v := .ref (la 0)) (C := RX0) (T := TX0) (N := 5) hx hb hts (fun w h => wm_c (wc_X0 w h)) hown hE.1 hP 1 rfl rfl 1 (by decide) tX0_1 (hts (.fieldLink RX0 9 "WornLines$Layout" "peak" "[I") (wm_c hw_309)) (fun _ h9 => h9) rfl dX0_make_8 ?_
  refine lv_iconst (v := 0) hx hb dX0_make_11 (by decide) ?_
  refine lv_bipush (v := 16) hx hb dX0_make_12 (by decide) ?_
  refine va_copyi hx hb (by rw [hml]; exact hl.1.symm) hown (hts (.methodLink RX0 24 arraycopyName) (wm_c hw_616)) (hts (.native arraycopyName) (wm_c hw_366)) (hts (.static arraycopyName) (wm_c hw_367)) (hts (.initialized "java/lang/System") (wm_c hw_368)) hE.1 hP hD hS 0 2 0 0 rfl rfl rfl rfl rfl (by decide) (by decide) (by decide) (by decide) (by decide) (fun _ _ => rfl) (Nat.le_trans (Nat.le_of_ble_eq_true rfl) hRf) (Nat.le_trans (Nat.le_of_ble_eq_true rfl) hRl) dX0_make_14 (fun H locs hP hD hS => ?_)
  have hP : va_P D vwCl (wW_X0_make ak ad hl_ la gq pk Apk pg Lstuff Ltwins (va_cpy Apk Lpeak 0 0 16) Lrow) H := hP
  have hD : va_D A (wW_X0_make ak ad hl_ la gq pk Apk pg Lstuff Ltwins (va_cpy Apk Lpeak 0 0 16) Lrow) := hD
  refine lv_aload_n hx hb dX0_make_17 rfl (lv_at hl 0 rfl) ?_
  refine vt_get (D := D) (ci := 0) (v := .ref (la 1)) (C := RX0) (T := TX0) (N := 5) hx hb hts (fun w h => wm_c (wc_X0 w h)) hown hE.1 hP 1 rfl rfl 2 (by decide) tX0_2 (hts (.fieldLink RX0 17 "WornLines$Layout" "least" "[[I") (wm_c hw_311)) (fun _ h9 => h9) rfl dX0_make_18 ?_
  refine lv_aload_n hx hb dX0_make_21 rfl (lv_at hl 0 rfl) ?_
  refine vt_get (D := D) (ci := 0) (v := .ref pg) (C := RX0) (T := TX0) (N := 5) hx hb hts (fun w h => wm_c (wc_X0 w h)) hown hE.1 hP 1 rfl rfl 0 (by decide) tX0_0 (hts (.fieldLink RX0 20 "WornLines$Layout" "programme" "LWornLines$Programme;") (wm_c hw_312)) (fun _ h9 => h9) rfl dX0_make_22 ?_
  refine vt_get (D := D) (ci := 2) (v := .int (Pln)) (C := RX2) (T := TX2) (N := 17) hx hb hts (fun w h => wm_c (wc_X2 w h)) hown hE.1 (hCW hS) 0 rfl rfl 9 (by decide) tX2_9 (hts (.fieldLink RX0 30 "WornLines$Programme" "lines" "I") (wm_c hw_617)) (fun _ h9 => h9) rfl dX0_make_25 ?_
  obtain ⟨h_1, hw⟩ := hw
  refine kg_ald hx hb hE hP 3 rfl (h_1) dX0_make_28 ?_
  refine lv_iconst (v := 0) hx hb dX0_make_29 (by decide) ?_
  refine kc_v1 (w1 := fun u => .inl (ak 0, 65, .inl u)) hP hD hS hA (4 + ((Pln).toNatClampNeg)) (gw_at 4 rfl (vp_lt h_1)) (fun u => rfl) (va_runS (As := [.ref (gq ((Pln).toNatClampNeg)), .int (0)]) (rest := []) ⟨hx, hb, hml, hown, hts⟩ (c_J7_fill_53178 l D ak ad _ (gq ((Pln).toNatClampNeg)) 65 (Lrow ((Pln).toNatClampNeg)) 0 _ hw) (va_cwS 2 hts gX0_make_J7_fill_53178 rfl rfl rfl hz_J7_fill_53178 ⟨(Nat.le_trans (Nat.le_of_ble_eq_true rfl) hRf), (Nat.le_trans (Nat.le_of_ble_eq_true rfl) hRl)⟩) (kc_pre1 hE hT hP hD hS hA (4 + ((Pln).toNatClampNeg)) (gw_at 4 rfl (vp_lt h_1))) rfl rfl hl.1 rfl (lv_room (Nat.le_of_ble_eq_true rfl)) dX0_make_30 ⟨hRc.1, hRc.2⟩) (fun Ar_2 H locs hw hP hD hS => ?_)
  try dsimp -zeta only at hw
  try dsimp -zeta only at hP hD
  rw [show (wW_X0_make ak ad hl_ la gq pk Apk pg Lstuff Ltwins (va_cpy Apk Lpeak 0 0 16) Lrow).set (4 + ((Pln).toNatClampNeg)) (gq ((Pln).toNatClampNeg), .inl (ak 0, 65, .inl Ar_2)) = (wW_X0_make ak ad hl_ la gq pk Apk pg Lstuff Ltwins (va_cpy Apk Lpeak 0 0 16) (updR Lrow ((Pln).toNatClampNeg) Ar_2)) from gw_set 4 rfl (vp_lt h_1)] at hP hD
  refine lv_aload_n hx hb dX0_make_33 rfl (lv_at hl 0 rfl) ?_
  refine vt_get (D := D) (ci := 0) (v := .ref pg) (C := RX0) (T := TX0) (N := 5) hx hb hts (fun w h => wm_c (wc_X0 w h)) hown hE.1 hP 1 rfl rfl 0 (by decide) tX0_0 (hts (.fieldLink RX0 20 "WornLines$Layout" "programme" "LWornLines$Programme;") (wm_c hw_312)) (fun _ h9 => h9) rfl dX0_make_34 ?_
  refine vt_get (D := D) (ci := 2) (v := .int (Pln)) (C := RX2) (T := TX2) (N := 17) hx hb hts (fun w h => wm_c (wc_X2 w h)) hown hE.1 (hCW hS) 0 rfl rfl 9 (by decide) tX2_9 (hts (.fieldLink RX0 30 "WornLines$Programme" "lines" "I") (wm_c hw_617)) (fun _ h9 => h9) rfl dX0_make_37 ?_
  refine lv_iconst (v := 1) hx hb dX0_make_40 (by decide) ?_
  refine lv_isub hx hb dX0_make_41 ?_
  refine lv_istore_n (lv' := [(3, .int (Pln - 1)), (0, .ref hl_), (1, .ref pg), (2, .ref pk)]) hx hb dX0_make_42 rfl hl (by decide) rfl (fun ls hl => ?_)
  obtain ⟨n1_, hw⟩ := hw
  exact lp_X0_make_43 hx hb hown hts hml hE hT hA hRf hRl hRc hl_ la gq pg pa pk Apk Pst Pce Pgi Pln Pbears Pcosts hKT  Φ  kR85 n1_ pg Lstuff Ltwins (va_cpy Apk Lpeak 0 0 16) (updR Lrow ((Pln).toNatClampNeg) Ar_2) (Pln - 1) _ _ _ hw hP hD hS (lv_sub hl [1, 0] rfl)
set_option maxHeartbeats 4000000 in
set_option maxRecDepth 100000 in
theorem c_X0_make (l : Launch) (D : va_G) (ak : Nat → ClassId) (ad : Nat → Nat) (sz : Nat) (hl_ : Nat) (la : Nat → Nat) (gq : Nat → Nat) (pg : Nat) (pa : Nat → Nat) (pk : Nat) (Apk : Nat → Int32) (Lpg : Nat) (Lstuff : Int32) (Ltwins : Int32) (Lpeak : Nat → Int32) (Lrow : Nat → Nat → Int32) (Pst : Int32) (Pce : Int32) (Pgi : Int32) (Pln : Int32) (Pbears : Nat → Int32) (Pcosts : Nat → Int32) (Φ : Nat → Int32 → Int32 → (Nat → Int32) → (Nat → Nat → Int32) → Prop) (hf : wp_X0_make Apk Pst Pln Pbears Pcosts pg Lpg Lstuff Ltwins Lpeak Lrow Φ) : Met l yX0_make wsX0_make ({ frames := 1, cells := 0, slots := 0, locals := 40 }) (cPreK D ak ad [.ref hl_, .ref pg, .ref pk] ((wW_X0_make ak ad hl_ la gq pk Apk Lpg Lstuff Ltwins Lpeak Lrow)) sz ((wK_X0_make ak ad pg pa Pst Pce Pgi Pln Pbears Pcosts))) (cV D (S := (Nat) × (Int32) × (Int32) × (Nat → Int32) × (Nat → Nat → Int32)) (fun (u : (Nat) × (Int32) × (Int32) × (Nat → Int32) × (Nat → Nat → Int32)) => Φ u.1 u.2.1 u.2.2.1 u.2.2.2.1 u.2.2.2.2) (fun u => (wW_X0_make ak ad hl_ la gq pk Apk u.1 u.2.1 u.2.2.1 u.2.2.2.1 u.2.2.2.2)) ((wW_X0_make ak ad hl_ la gq pk Apk Lpg Lstuff Ltwins Lpeak Lrow)) sz) 0 0 (va_A ((wW_X0_make ak ad hl_ la gq pk Apk Lpg Lstuff Ltwins Lpeak Lrow)) sz) := by
  refine Met.ofW (cc := cX0_make) (maxL := 5) (ret := none) (by decide) rfl ?_
  intro p e s m args below meth c s₁ B hml hv
  obtain ⟨⟨rfl, hsz, hP, hE, hD0, hT⟩, hKT⟩ := hv
  have hx := B.exec
  have hb := B.bytes
  have hr := B.returns
  have hts := atoms_spec (ws := wsX0_make) B.pre
  have hown : s.vm.findClass RX0 = some m.cls := findClass_of_methodNamed B.named
  have hlocks := B.notSynchronized
  subst hsz
  have hD := hD0.self (sz := s.heap.size)
  generalize hAe : va_A ((wW_X0_make ak ad hl_ la gq pk Apk Lpg Lstuff Ltwins Lpeak Lrow)) s.heap.size = A at hD hT hKT ⊢
  have hA : ∀ q : Nat, s.heap.size ≤ q → A q := fun q h => by rw [← hAe]; exact Or.inr h
  have hS : va_S A s.heap s.heap [] := va_S.rf
  have hl := lv_entry ([.ref hl_, .ref pg, .ref pk]) (n := 5) (Nat.le_of_ble_eq_true rfl)
  rw [lg_entry_eq]
  generalize (lg_sl ([.ref hl_, .ref pg, .ref pk]) ++ List.replicate (5 - (lg_sl ([.ref hl_, .ref pg, .ref pk])).length) Slot.unset).toArray = ls at hl ⊢
  have hl : lv_has ls 5 [(0, .ref hl_), (1, .ref pg), (2, .ref pk)] := hl
  exact kj_X0_make_e hx hb hown hts hml hE hT hA (Nat.le_of_ble_eq_true rfl) (Nat.le_of_ble_eq_true rfl) ⟨Nat.le_of_ble_eq_true rfl, Nat.le_of_ble_eq_true rfl⟩ hl_ la gq pg pa pk Apk Pst Pce Pgi Pln Pbears Pcosts hKT Φ (fun Lpg Lstuff Ltwins Lpeak Lrow H locs ls hw hP hD hS => W.vret hx hb hr (fun t ht hW => ⟨⟨(Lpg, Lstuff, Ltwins, Lpeak, Lrow), rfl, hw, by rw [ht]; exact hP, by rw [hAe]; exact hD⟩, by rw [hAe]; exact hS.F ht⟩) hS.2.2 dX0_make_85) Lpg Lstuff Ltwins Lpeak Lrow _ _ _ hf hP hD hS hl
end
