section
theorem dX7_programme_0 : decode cX7_programme 0 = .ok (.aload_n 0, 1) := by decide +kernel
theorem dX7_programme_1 : decode cX7_programme 1 = .ok (.getfield 28, 3) := by decide +kernel
set_option maxRecDepth 20000 in
theorem ggX7_programme_X3_read : GoodIn wsX7_programme wsX3_read := gup gc_X3_read
set_option maxRecDepth 20000 in
theorem gX7_programme_X3_read : GoodIn wsX7_programme (wsV RX7 79 RX3 yX3_read wsX3_read) := gup (glV hw_541 hw_542 hw_543 hw_440 gc_X3_read)
theorem dX7_programme_4 : decode cX7_programme 4 = .ok (.invokevirtual 79, 3) := by decide +kernel
theorem dX7_programme_7 : decode cX7_programme 7 = .ok (.astore_n 1, 1) := by decide +kernel
theorem dX7_programme_8 : decode cX7_programme 8 = .ok (.aload_n 0, 1) := by decide +kernel
theorem dX7_programme_9 : decode cX7_programme 9 = .ok (.getfield 28, 3) := by decide +kernel
theorem dX7_programme_12 : decode cX7_programme 12 = .ok (.getfield 83, 3) := by decide +kernel
theorem dX7_programme_15 : decode cX7_programme 15 = .ok (.ifCond .ne 11, 3) := by decide +kernel
theorem dX7_programme_26 : decode cX7_programme 26 = .ok (.aload_n 0, 1) := by decide +kernel
theorem dX7_programme_27 : decode cX7_programme 27 = .ok (.getfield 28, 3) := by decide +kernel
theorem dX7_programme_30 : decode cX7_programme 30 = .ok (.getfield 83, 3) := by decide +kernel
theorem dX7_programme_18 : decode cX7_programme 18 = .ok (.aload_n 0, 1) := by decide +kernel
theorem dX7_programme_19 : decode cX7_programme 19 = .ok (.getfield 37, 3) := by decide +kernel
theorem dX7_programme_22 : decode cX7_programme 22 = .ok (.aload_n 1, 1) := by decide +kernel
set_option maxRecDepth 20000 in
theorem ggX7_programme_X1_takeAsTold : GoodIn wsX7_programme wsX1_takeAsTold := gup gc_X1_takeAsTold
set_option maxRecDepth 20000 in
theorem gX7_programme_X1_takeAsTold : GoodIn wsX7_programme (wsV RX7 86 RX1 yX1_takeAsTold wsX1_takeAsTold) := gup (glV hw_544 hw_545 hw_546 hw_331 gc_X1_takeAsTold)
theorem dX7_programme_23 : decode cX7_programme 23 = .ok (.invokevirtual 86, 3) := by decide +kernel
theorem dX7_programme_33 : decode cX7_programme 33 = .ok (.ireturn, 1) := by decide +kernel
def wob (xa : Nat → Nat) : List Value := [.ref (xa 0), .ref (xa 1), .ref (xa 2), .ref (xa 3), .ref (xa 4), .ref (xa 5), .ref (xa 6), .ref (xa 7), .ref (xa 8), .ref (xa 9)]

def wE_X7_programme (ak : Nat → ClassId) (ad : Nat → Nat) (h7 : Nat) (xa : Nat → Nat) (ma : Nat → Nat) (ra : Nat → Nat) (ta : Nat → Nat) (Rcoded : Int32) (Rpg : Nat) (Rtaken : Int32) (Rtoken : Nat) (Rplace : Int32) (Rvalue : Int64) (Rfault : Int32) (Rsn : Nat → Int64) (Rcn : Nat → Int64) (Rcode : Nat → Int32) (Tlen : Int32) (Tcnt : Int32) (Tsigns : Nat → Int32) (Ttoks : Nat → Nat) (Tplc : Nat → Int32) (Tvals : Nat → Int64) (Hpg : Nat) (Hway : Int32) (Hstate : Int32) (Hnext : Int32) (Hsteps : Int32) (Hwritten : Int32) (Hstuffs : Nat → Int32) (Htwins : Nat → Int32) (Hworn : Nat → Int32) (Hcells : Nat → Int32) (Hkept : Nat → Int32) (Hstack : Nat → Int32) : va_W := [(h7, .inr (6, wob xa )), ((xa 2), .inr (3, rob ad ra (xa 0) (Rcoded) (Rpg) (Rtaken) (Rtoken) (Rplace) (Rvalue) (Rfault))), ((ra 0), .inl (ak 1, 4, .inr (.inl (Rsn)))), ((ra 1), .inl (ak 1, 6, .inr (.inl (Rcn)))), ((ra 2), .inl (ak 0, 1000, .inl (Rcode))), ((xa 0), .inr (5, tob ta (Tlen) (Tcnt))), ((ta 0), .inl (ak 2, 1000, .inl (Tsigns))), ((ta 1), .inl (ak 4, 1001, .inr (.inr (.inr (.inr (tokA ad (Ttoks))))))), ((ta 2), .inl (ak 0, 1001, .inl (Tplc))), ((ta 3), .inl (ak 1, 1001, .inr (.inl (Tvals)))), ((xa 3), .inr (1, xob ma (Hpg) (Hway) (Hstate) (Hnext) (Hsteps) (Hwritten))), ((ma 0), .inl (ak 0, 16, .inl (Hstuffs))), ((ma 1), .inl (ak 0, 16, .inl (Htwins))), ((ma 2), .inl (ak 0, 16, .inl (Hworn))), ((ma 3), .inl (ak 0, 6, .inl (Hcells))), ((ma 4), .inl (ak 0, 200, .inl (Hkept))), ((ma 5), .inl (ak 0, 32, .inl (Hstack)))]
def wX_X7_programme (ak : Nat → ClassId) (ad : Nat → Nat) (h7 : Nat) (xa : Nat → Nat) (ma : Nat → Nat) (ra : Nat → Nat) (ta : Nat → Nat) (pg : Nat) (pa : Nat → Nat) (cl : Nat) (Rcoded : Int32) (Rtaken : Int32) (Rtoken : Nat) (Rplace : Int32) (Rvalue : Int64) (Rfault : Int32) (Rsn : Nat → Int64) (Rcn : Nat → Int64) (Rcode : Nat → Int32) (Tlen : Int32) (Tcnt : Int32) (Tsigns : Nat → Int32) (Ttoks : Nat → Nat) (Tplc : Nat → Int32) (Tvals : Nat → Int64) (Pst : Int32) (Pce : Int32) (Pgi : Int32) (Pln : Int32) (Pbears : Nat → Int32) (Pcosts : Nat → Int32) (Ptold : Nat → Int32) (PgivenC : Nat → Int32) (Pleast : Nat → Int32) (Pgreat : Nat → Int32) (Pact : Nat → Int32) (PstuffOf : Nat → Int32) (Ptarget : Nat → Int32) (Pfrom : Nat → Int32) (Pmiddle : Nat → Int32) (Pend : Nat → Int32) (Pcode : Nat → Int32) (Hpg : Nat) (Hway : Int32) (Hstate : Int32) (Hnext : Int32) (Hsteps : Int32) (Hwritten : Int32) (Hstuffs : Nat → Int32) (Htwins : Nat → Int32) (Hworn : Nat → Int32) (Hcells : Nat → Int32) (Hkept : Nat → Int32) (Hstack : Nat → Int32) : va_W := [(h7, .inr (6, wob xa )), ((xa 2), .inr (3, rob ad ra (xa 0) (Rcoded) (pg) (Rtaken) (Rtoken) (Rplace) (Rvalue) (Rfault))), ((ra 0), .inl (ak 1, 4, .inr (.inl (Rsn)))), ((ra 1), .inl (ak 1, 6, .inr (.inl (Rcn)))), ((ra 2), .inl (ak 0, 1000, .inl (Rcode))), ((xa 0), .inr (5, tob ta (Tlen) (Tcnt))), ((ta 0), .inl (ak 2, 1000, .inl (Tsigns))), ((ta 1), .inl (ak 4, 1001, .inr (.inr (.inr (.inr (tokA ad (Ttoks))))))), ((ta 2), .inl (ak 0, 1001, .inl (Tplc))), ((ta 3), .inl (ak 1, 1001, .inr (.inl (Tvals)))), (pg, .inr (2, pob pa (Pst) (Pce) (Pgi) (Pln))), ((pa 0), .inl (ak 0, 4, .inl (Pbears))), ((pa 1), .inl (ak 0, 4, .inl (Pcosts))), ((pa 2), .inl (ak 0, 6, .inl (Ptold))), ((pa 3), .inl (ak 0, 2, .inl (PgivenC))), ((pa 4), .inl (ak 0, 2, .inl (Pleast))), ((pa 5), .inl (ak 0, 2, .inl (Pgreat))), ((pa 6), .inl (ak 0, 16, .inl (Pact))), ((pa 7), .inl (ak 0, 16, .inl (PstuffOf))), ((pa 8), .inl (ak 0, 16, .inl (Ptarget))), ((pa 9), .inl (ak 0, 16, .inl (Pfrom))), ((pa 10), .inl (ak 0, 16, .inl (Pmiddle))), ((pa 11), .inl (ak 0, 16, .inl (Pend))), ((pa 12), .inl (ak 0, cl, .inl (Pcode))), ((xa 3), .inr (1, xob ma (Hpg) (Hway) (Hstate) (Hnext) (Hsteps) (Hwritten))), ((ma 0), .inl (ak 0, 16, .inl (Hstuffs))), ((ma 1), .inl (ak 0, 16, .inl (Htwins))), ((ma 2), .inl (ak 0, 16, .inl (Hworn))), ((ma 3), .inl (ak 0, 6, .inl (Hcells))), ((ma 4), .inl (ak 0, 200, .inl (Hkept))), ((ma 5), .inl (ak 0, 32, .inl (Hstack)))]
def wp_X7_programme (Tsigns : Nat → Int32) (Rcoded : Int32) (Rtaken : Int32) (Rtoken : Nat) (Rplace : Int32) (Rvalue : Int64) (Rfault : Int32) (Rsn : Nat → Int64) (Rcn : Nat → Int64) (Rcode : Nat → Int32) (Tlen : Int32) (Tcnt : Int32) (Ttoks : Nat → Nat) (Tplc : Nat → Int32) (Tvals : Nat → Int64) (Hpg : Nat) (Hstate : Int32) (Hnext : Int32) (Hsteps : Int32) (Hwritten : Int32) (Hstuffs : Nat → Int32) (Htwins : Nat → Int32) (Hworn : Nat → Int32) (Φ : Int32 → Nat → Int32 → Int32 → Nat → Int32 → Int64 → Int32 → (Nat → Int64) → (Nat → Int64) → (Nat → Int32) → Int32 → Int32 → (Nat → Nat) → (Nat → Int32) → (Nat → Int64) → Int32 → Int32 → Int32 → Int32 → (Nat → Int32) → (Nat → Int32) → (Nat → Int32) → (Nat → Int32) → (Nat → Int32) → (Nat → Int32) → (Nat → Int32) → (Nat → Int32) → (Nat → Int32) → (Nat → Int32) → (Nat → Int32) → (Nat → Int32) → Nat → (Nat → Int32) → Nat → Int32 → Int32 → Int32 → Int32 → (Nat → Int32) → (Nat → Int32) → (Nat → Int32) → Prop) : Prop := wp_X3_read Tsigns Rcoded Rtaken Rtoken Rplace Rvalue Rfault Rsn Rcn Rcode Tlen Tcnt Ttoks Tplc Tvals (fun pg Rcoded_r Rtaken_r Rtoken_r Rplace_r Rvalue_r Rfault_r Rsn_r Rcn_r Rcode_r Tlen_r Tcnt_r Ttoks_r Tplc_r Tvals_r Pst_r Pce_r Pgi_r Pln_r Pbears_r Pcosts_r Ptold_r PgivenC_r Pleast_r Pgreat_r Pact_r PstuffOf_r Ptarget_r Pfrom_r Pmiddle_r Pend_r cl_r Pcode_r => (¬ Rfault_r = 0 → Φ Rfault_r pg Rcoded_r Rtaken_r Rtoken_r Rplace_r Rvalue_r Rfault_r Rsn_r Rcn_r Rcode_r Tlen_r Tcnt_r Ttoks_r Tplc_r Tvals_r Pst_r Pce_r Pgi_r Pln_r Pbears_r Pcosts_r Ptold_r PgivenC_r Pleast_r Pgreat_r Pact_r PstuffOf_r Ptarget_r Pfrom_r Pmiddle_r Pend_r cl_r Pcode_r Hpg Hstate Hnext Hsteps Hwritten Hstuffs Htwins Hworn) ∧ (Rfault_r = 0 → wp_X1_takeAsTold PstuffOf_r pg Hpg Hstate Hnext Hsteps Hwritten Hstuffs Htwins Hworn (fun Mpg_3 Mstate_4 Mnext_5 Msteps_6 Mwritten_7 Mstuffs_8 Mtwins_9 Mworn_10 => Φ Rfault_r pg Rcoded_r Rtaken_r Rtoken_r Rplace_r Rvalue_r Rfault_r Rsn_r Rcn_r Rcode_r Tlen_r Tcnt_r Ttoks_r Tplc_r Tvals_r Pst_r Pce_r Pgi_r Pln_r Pbears_r Pcosts_r Ptold_r PgivenC_r Pleast_r Pgreat_r Pact_r PstuffOf_r Ptarget_r Pfrom_r Pmiddle_r Pend_r cl_r Pcode_r Mpg_3 Mstate_4 Mnext_5 Msteps_6 Mwritten_7 Mstuffs_8 Mtwins_9 Mworn_10)))
set_option maxHeartbeats 4000000 in
set_option maxRecDepth 100000 in
theorem kj_X7_programme_e {p : Program} {l : Launch} {e : Env} {R : Room} {s : State} {m : MethodId} {args : Array Value} {below : List Frame} {meth : Method} {c : Code} {cells slots : Nat} {Q : State → Prop} {A : Nat → Prop} {D : va_G} {ak : Nat → ClassId} {ad : Nat → Nat} (hx : p.tables.exec = Jvm.exec) (hb : c.code = cX7_programme) (hown : s.vm.findClass RX7 = some m.cls) (hts : ∀ w ∈ wsX7_programme, w.before args s = true) (hml : c.maxLocals = 2) (hE : EV D ak s) (hT : ST D ak ad A s s.heap) (hA : ∀ q, s.heap.size ≤ q → A q) (hRf : 48 ≤ R.frames) (hRl : 2729 ≤ R.locals) (hRa : cells + 15 ≤ R.cells ∧ slots + 1133 ≤ R.slots) (h7 : Nat) (xa : Nat → Nat) (ma : Nat → Nat) (ra : Nat → Nat) (ta : Nat → Nat) (Rpg : Nat) (Tsigns : Nat → Int32) (Hway : Int32) (Hcells : Nat → Int32) (Hkept : Nat → Int32) (Hstack : Nat → Int32) (Φ : Int32 → Nat → Int32 → Int32 → Nat → Int32 → Int64 → Int32 → (Nat → Int64) → (Nat → Int64) → (Nat → Int32) → Int32 → Int32 → (Nat → Nat) → (Nat → Int32) → (Nat → Int64) → Int32 → Int32 → Int32 → Int32 → (Nat → Int32) → (Nat → Int32) → (Nat → Int32) → (Nat → Int32) → (Nat → Int32) → (Nat → Int32) → (Nat → Int32) → (Nat → Int32) → (Nat → Int32) → (Nat → Int32) → (Nat → Int32) → (Nat → Int32) → Nat → (Nat → Int32) → Nat → Int32 → Int32 → Int32 → Int32 → (Nat → Int32) → (Nat → Int32) → (Nat → Int32) → Prop)
    (kR33 : ∀ (r : Int32) (pa : Nat → Nat) (pg : Nat) (Rcoded : Int32) (Rtaken : Int32) (Rtoken : Nat) (Rplace : Int32) (Rvalue : Int64) (Rfault : Int32) (Rsn : Nat → Int64) (Rcn : Nat → Int64) (Rcode : Nat → Int32) (Tlen : Int32) (Tcnt : Int32) (Ttoks : Nat → Nat) (Tplc : Nat → Int32) (Tvals : Nat → Int64) (Pst : Int32) (Pce : Int32) (Pgi : Int32) (Pln : Int32) (Pbears : Nat → Int32) (Pcosts : Nat → Int32) (Ptold : Nat → Int32) (PgivenC : Nat → Int32) (Pleast : Nat → Int32) (Pgreat : Nat → Int32) (Pact : Nat → Int32) (PstuffOf : Nat → Int32) (Ptarget : Nat → Int32) (Pfrom : Nat → Int32) (Pmiddle : Nat → Int32) (Pend : Nat → Int32) (cl : Nat) (Pcode : Nat → Int32) (Hpg : Nat) (Hstate : Int32) (Hnext : Int32) (Hsteps : Int32) (Hwritten : Int32) (Hstuffs : Nat → Int32) (Htwins : Nat → Int32) (Hworn : Nat → Int32) (H : Heap) (locs : List Loc) (ls : Array Slot), Φ r pg Rcoded Rtaken Rtoken Rplace Rvalue Rfault Rsn Rcn Rcode Tlen Tcnt Ttoks Tplc Tvals Pst Pce Pgi Pln Pbears Pcosts Ptold PgivenC Pleast Pgreat Pact PstuffOf Ptarget Pfrom Pmiddle Pend cl Pcode Hpg Hstate Hnext Hsteps Hwritten Hstuffs Htwins Hworn → va_P D vwCl (wX_X7_programme ak ad h7 xa ma ra ta pg pa cl Rcoded Rtaken Rtoken Rplace Rvalue Rfault Rsn Rcn Rcode Tlen Tcnt Tsigns Ttoks Tplc Tvals Pst Pce Pgi Pln Pbears Pcosts Ptold PgivenC Pleast Pgreat Pact PstuffOf Ptarget Pfrom Pmiddle Pend Pcode Hpg Hway Hstate Hnext Hsteps Hwritten Hstuffs Htwins Hworn Hcells Hkept Hstack) H → va_D A (wX_X7_programme ak ad h7 xa ma ra ta pg pa cl Rcoded Rtaken Rtoken Rplace Rvalue Rfault Rsn Rcn Rcode Tlen Tcnt Tsigns Ttoks Tplc Tvals Pst Pce Pgi Pln Pbears Pcosts Ptold PgivenC Pleast Pgreat Pact PstuffOf Ptarget Pfrom Pmiddle Pend Pcode Hpg Hway Hstate Hnext Hsteps Hwritten Hstuffs Htwins Hworn Hcells Hkept Hstack) → va_S A s.heap H locs → W p l e R s m args below meth c H locs (cells + 15) (slots + 1133) Q (F0 m 33 ls [.int r]))
    : ∀ (Rcoded : Int32) (Rtaken : Int32) (Rtoken : Nat) (Rplace : Int32) (Rvalue : Int64) (Rfault : Int32) (Rsn : Nat → Int64) (Rcn : Nat → Int64) (Rcode : Nat → Int32) (Tlen : Int32) (Tcnt : Int32) (Ttoks : Nat → Nat) (Tplc : Nat → Int32) (Tvals : Nat → Int64) (Hpg : Nat) (Hstate : Int32) (Hnext : Int32) (Hsteps : Int32) (Hwritten : Int32) (Hstuffs : Nat → Int32) (Htwins : Nat → Int32) (Hworn : Nat → Int32) (H : Heap) (locs : List Loc) (ls : Array Slot), wp_X7_programme Tsigns Rcoded Rtaken Rtoken Rplace Rvalue Rfault Rsn Rcn Rcode Tlen Tcnt Ttoks Tplc Tvals Hpg Hstate Hnext Hsteps Hwritten Hstuffs Htwins Hworn Φ → va_P D vwCl (wE_X7_programme ak ad h7 xa ma ra ta Rcoded Rpg Rtaken Rtoken Rplace Rvalue Rfault Rsn Rcn Rcode Tlen Tcnt Tsigns Ttoks Tplc Tvals Hpg Hway Hstate Hnext Hsteps Hwritten Hstuffs Htwins Hworn Hcells Hkept Hstack) H → va_D A (wE_X7_programme ak ad h7 xa ma ra ta Rcoded Rpg Rtaken Rtoken Rplace Rvalue Rfault Rsn Rcn Rcode Tlen Tcnt Tsigns Ttoks Tplc Tvals Hpg Hway Hstate Hnext Hsteps Hwritten Hstuffs Htwins Hworn Hcells Hkept Hstack) → va_S A s.heap H locs → lv_has ls 2 [(0, .ref h7)] → W p l e R s m args below meth c H locs cells slots Q (F0 m 0 ls []) := by
  intro Rcoded Rtaken Rtoken Rplace Rvalue Rfault Rsn Rcn Rcode Tlen Tcnt Ttoks Tplc Tvals Hpg Hstate Hnext Hsteps Hwritten Hstuffs Htwins Hworn H locs ls hw hP hD hS hl
  delta wp_X7_programme at hw
  refine lv_aload_n hx hb dX7_programme_0 rfl (lv_at hl 0 rfl) ?_
  refine vt_get (D := D) (ci := 6) (v := .ref (xa 2)) (C := RX7) (T := TX7) (N := 10) hx hb hts (fun w h => wm_c (wc_X7 w h)) hown hE.1 hP 0 rfl rfl 2 (by decide) tX7_2 (hts (.fieldLink RX7 28 "WornLines" "reader" "LWornLines$Reader;") (wm_c hw_538)) (fun _ h9 => h9) rfl dX7_programme_1 ?_
  refine kc_rp (wc := (wE_X3_read ak ad (xa 2) ra (xa 0) ta Rcoded Rpg Rtaken Rtoken Rplace Rvalue Rfault Rsn Rcn Rcode Tlen Tcnt Tsigns Ttoks Tplc Tvals)) (wr := [(h7, .inr (6, wob xa )), ((xa 3), .inr (1, xob ma (Hpg) (Hway) (Hstate) (Hnext) (Hsteps) (Hwritten))), ((ma 0), .inl (ak 0, 16, .inl (Hstuffs))), ((ma 1), .inl (ak 0, 16, .inl (Htwins))), ((ma 2), .inl (ak 0, 16, .inl (Hworn))), ((ma 3), .inl (ak 0, 6, .inl (Hcells))), ((ma 4), .inl (ak 0, 200, .inl (Hkept))), ((ma 5), .inl (ak 0, 32, .inl (Hstack)))]) hP hD hS hA [1, 2, 3, 4, 5, 6, 7, 8, 9] [0, 10, 11, 12, 13, 14, 15, 16] rfl rfl (by decide) (by decide) (va_runV (As := []) (rest := []) ⟨hx, hb, hml, hown, hts⟩ (c_X3_read l D ak ad _ (xa 2) ra (xa 0) ta Rcoded Rpg Rtaken Rtoken Rplace Rvalue Rfault Rsn Rcn Rcode Tlen Tcnt Tsigns Ttoks Tplc Tvals _ hw) (cwV 0 hts gX7_programme_X3_read rfl rfl rfl hv_X3_read ⟨(Nat.le_trans (Nat.le_of_ble_eq_true rfl) hRf), (Nat.le_trans (Nat.le_of_ble_eq_true rfl) hRl)⟩) (kc_preV (As := []) (wc := (wE_X3_read ak ad (xa 2) ra (xa 0) ta Rcoded Rpg Rtaken Rtoken Rplace Rvalue Rfault Rsn Rcn Rcode Tlen Tcnt Tsigns Ttoks Tplc Tvals)) hE hT hP hD hS hA [1, 2, 3, 4, 5, 6, 7, 8, 9] (by decide) rfl rfl 1 3 rfl rfl rfl) rfl rfl hl.1 rfl (lv_room (Nat.le_of_ble_eq_true rfl)) dX7_programme_4 ⟨by have := hRa.1; omega, by have := hRa.2; omega⟩) (fun u_0 H locs hw hP hD hS => ?_)
  obtain ⟨pa, pg, Rcoded_r, Rtaken_r, Rtoken_r, Rplace_r, Rvalue_r, Rfault_r, Rsn_r, Rcn_r, Rcode_r, Tlen_r, Tcnt_r, Ttoks_r, Tplc_r, Tvals_r, Pst_r, Pce_r, Pgi_r, Pln_r, Pbears_r, Pcosts_r, Ptold_r, PgivenC_r, Pleast_r, Pgreat_r, Pact_r, PstuffOf_r, Ptarget_r, Pfrom_r, Pmiddle_r, Pend_r, cl_r, Pcode_r⟩ := u_0
  try dsimp -zeta only at hw
  have hP : va_P D vwCl (wX_X7_programme ak ad h7 xa ma ra ta pg pa cl_r Rcoded_r Rtaken_r Rtoken_r Rplace_r Rvalue_r Rfault_r Rsn_r Rcn_r Rcode_r Tlen_r Tcnt_r Tsigns Ttoks_r Tplc_r Tvals_r Pst_r Pce_r Pgi_r Pln_r Pbears_r Pcosts_r Ptold_r PgivenC_r Pleast_r Pgreat_r Pact_r PstuffOf_r Ptarget_r Pfrom_r Pmiddle_r Pend_r Pcode_r Hpg Hway Hstate Hnext Hsteps Hwritten Hstuffs Htwins Hworn Hcells Hkept Hstack) H := hP.sub [0, 8, 9, 10, 11, 12, 13, 14, 15, 16, 17, 18, 19, 20, 21, 22, 23, 24, 25, 26, 27, 28, 29, 30, 1, 2, 3, 4, 5, 6, 7] rfl
  have hD : va_D A (wX_X7_programme ak ad h7 xa ma ra ta pg pa cl_r Rcoded_r Rtaken_r Rtoken_r Rplace_r Rvalue_r Rfault_r Rsn_r Rcn_r Rcode_r Tlen_r Tcnt_r Tsigns Ttoks_r Tplc_r Tvals_r Pst_r Pce_r Pgi_r Pln_r Pbears_r Pcosts_r Ptold_r PgivenC_r Pleast_r Pgreat_r Pact_r PstuffOf_r Ptarget_r Pfrom_r Pmiddle_r Pend_r Pcode_r Hpg Hway Hstate Hnext Hsteps Hwritten Hstuffs Htwins Hworn Hcells Hkept Hstack) := hD.sub [0, 8, 9, 10, 11, 12, 13, 14, 15, 16, 17, 18, 19, 20, 21, 22, 23, 24, 25, 26, 27, 28, 29, 30, 1, 2, 3, 4, 5, 6, 7] (by decide) rfl
  refine lv_astore_n (lv' := [(1, .ref pg), (0, .ref h7)]) hx hb dX7_programme_7 rfl hl (by decide) rfl (fun ls hl => ?_)
  refine lv_aload_n hx hb dX7_programme_8 rfl (lv_at hl 1 rfl) ?_
  refine vt_get (D := D) (ci := 6) (v := .ref (xa 2)) (C := RX7) (T := TX7) (N := 10) hx hb hts (fun w h => wm_c (wc_X7 w h)) hown hE.1 hP 0 rfl rfl 2 (by decide) tX7_2 (hts (.fieldLink RX7 28 "WornLines" "reader" "LWornLines$Reader;") (wm_c hw_538)) (fun _ h9 => h9) rfl dX7_programme_9 ?_
  refine va_get (D := D) (ci := 3) (v := .int (Rfault_r)) (C := RX3) (T := TX3) (N := 11) hx hb hts (fun w h => wm_c (wc_X3 w h)) hown hE.1 hP 1 rfl rfl 10 (by decide) (hts (.fieldLink RX7 83 "WornLines$Reader" "fault" "I") (wm_c hw_539)) (fun _ h9 => h9) rfl dX7_programme_12 ?_
  refine lv_if_ne (tgt := 26) hx hb dX7_programme_15 (by decide) (fun c_1 => ?_) (fun c_1 => ?_)
  · replace hw := hw.1 c_1
    refine lv_aload_n hx hb dX7_programme_26 rfl (lv_at hl 1 rfl) ?_
    refine vt_get (D := D) (ci := 6) (v := .ref (xa 2)) (C := RX7) (T := TX7) (N := 10) hx hb hts (fun w h => wm_c (wc_X7 w h)) hown hE.1 hP 0 rfl rfl 2 (by decide) tX7_2 (hts (.fieldLink RX7 28 "WornLines" "reader" "LWornLines$Reader;") (wm_c hw_538)) (fun _ h9 => h9) rfl dX7_programme_27 ?_
    refine va_get (D := D) (ci := 3) (v := .int (Rfault_r)) (C := RX3) (T := TX3) (N := 11) hx hb hts (fun w h => wm_c (wc_X3 w h)) hown hE.1 hP 1 rfl rfl 10 (by decide) (hts (.fieldLink RX7 83 "WornLines$Reader" "fault" "I") (wm_c hw_539)) (fun _ h9 => h9) rfl dX7_programme_30 ?_
    exact kR33 Rfault_r pa pg Rcoded_r Rtaken_r Rtoken_r Rplace_r Rvalue_r Rfault_r Rsn_r Rcn_r Rcode_r Tlen_r Tcnt_r Ttoks_r Tplc_r Tvals_r Pst_r Pce_r Pgi_r Pln_r Pbears_r Pcosts_r Ptold_r PgivenC_r Pleast_r Pgreat_r Pact_r PstuffOf_r Ptarget_r Pfrom_r Pmiddle_r Pend_r cl_r Pcode_r Hpg Hstate Hnext Hsteps Hwritten Hstuffs Htwins Hworn _ _ _ hw hP hD hS
  · replace hw := hw.2 c_1
    refine lv_aload_n hx hb dX7_programme_18 rfl (lv_at hl 1 rfl) ?_
    refine vt_get (D := D) (ci := 6) (v := .ref (xa 3)) (C := RX7) (T := TX7) (N := 10) hx hb hts (fun w h => wm_c (wc_X7 w h)) hown hE.1 hP 0 rfl rfl 3 (by decide) tX7_3 (hts (.fieldLink RX7 37 "WornLines" "hand" "LWornLines$Machine;") (wm_c hw_540)) (fun _ h9 => h9) rfl dX7_programme_19 ?_
    refine lv_aload_n hx hb dX7_programme_22 rfl (lv_at hl 0 rfl) ?_
    refine kc_v (wc := (wW_X1_takeAsTold ak ad (xa 3) ma pg pa Hpg Hway Hstate Hnext Hsteps Hwritten Hstuffs Htwins Hworn Pst_r Pce_r Pgi_r Pln_r PstuffOf_r)) (wr := [(h7, .inr (6, wob xa )), ((xa 2), .inr (3, rob ad ra (xa 0) (Rcoded_r) (pg) (Rtaken_r) (Rtoken_r) (Rplace_r) (Rvalue_r) (Rfault_r))), ((ra 0), .inl (ak 1, 4, .inr (.inl (Rsn_r)))), ((ra 1), .inl (ak 1, 6, .inr (.inl (Rcn_r)))), ((ra 2), .inl (ak 0, 1000, .inl (Rcode_r))), ((xa 0), .inr (5, tob ta (Tlen_r) (Tcnt_r))), ((ta 0), .inl (ak 2, 1000, .inl (Tsigns))), ((ta 1), .inl (ak 4, 1001, .inr (.inr (.inr (.inr (tokA ad (Ttoks_r))))))), ((ta 2), .inl (ak 0, 1001, .inl (Tplc_r))), ((ta 3), .inl (ak 1, 1001, .inr (.inl (Tvals_r)))), ((pa 0), .inl (ak 0, 4, .inl (Pbears_r))), ((pa 1), .inl (ak 0, 4, .inl (Pcosts_r))), ((pa 2), .inl (ak 0, 6, .inl (Ptold_r))), ((pa 3), .inl (ak 0, 2, .inl (PgivenC_r))), ((pa 4), .inl (ak 0, 2, .inl (Pleast_r))), ((pa 5), .inl (ak 0, 2, .inl (Pgreat_r))), ((pa 6), .inl (ak 0, 16, .inl (Pact_r))), ((pa 8), .inl (ak 0, 16, .inl (Ptarget_r))), ((pa 9), .inl (ak 0, 16, .inl (Pfrom_r))), ((pa 10), .inl (ak 0, 16, .inl (Pmiddle_r))), ((pa 11), .inl (ak 0, 16, .inl (Pend_r))), ((pa 12), .inl (ak 0, cl_r, .inl (Pcode_r))), ((ma 3), .inl (ak 0, 6, .inl (Hcells))), ((ma 4), .inl (ak 0, 200, .inl (Hkept))), ((ma 5), .inl (ak 0, 32, .inl (Hstack)))]) hP hD hS hA [24, 25, 26, 27, 10, 18] [0, 1, 2, 3, 4, 5, 6, 7, 8, 9, 11, 12, 13, 14, 15, 16, 17, 19, 20, 21, 22, 23, 28, 29, 30] rfl rfl (by decide) (by decide) (va_runV (As := [.ref pg]) (rest := []) ⟨hx, hb, hml, hown, hts⟩ (c_X1_takeAsTold l D ak ad _ (xa 3) ma pg pa Hpg Hway Hstate Hnext Hsteps Hwritten Hstuffs Htwins Hworn Pst_r Pce_r Pgi_r Pln_r PstuffOf_r _ hw) (cwV 1 hts gX7_programme_X1_takeAsTold rfl rfl rfl hv_X1_takeAsTold ⟨(Nat.le_trans (Nat.le_of_ble_eq_true rfl) hRf), (Nat.le_trans (Nat.le_of_ble_eq_true rfl) hRl)⟩) (kc_preV (As := [.ref pg]) (wc := (wW_X1_takeAsTold ak ad (xa 3) ma pg pa Hpg Hway Hstate Hnext Hsteps Hwritten Hstuffs Htwins Hworn Pst_r Pce_r Pgi_r Pln_r PstuffOf_r)) hE hT hP hD hS hA [24, 25, 26, 27, 10, 18] (by decide) rfl rfl 24 1 rfl rfl rfl) rfl rfl hl.1 rfl (lv_room (Nat.le_of_ble_eq_true rfl)) dX7_programme_23 ⟨by have := hRa.1; omega, by have := hRa.2; omega⟩) (fun u_2 H locs hw hP hD hS => ?_)
    obtain ⟨Mpg_3, Mstate_4, Mnext_5, Msteps_6, Mwritten_7, Mstuffs_8, Mtwins_9, Mworn_10⟩ := u_2
    try dsimp -zeta only at hw
    have hP : va_P D vwCl (wX_X7_programme ak ad h7 xa ma ra ta pg pa cl_r Rcoded_r Rtaken_r Rtoken_r Rplace_r Rvalue_r Rfault_r Rsn_r Rcn_r Rcode_r Tlen_r Tcnt_r Tsigns Ttoks_r Tplc_r Tvals_r Pst_r Pce_r Pgi_r Pln_r Pbears_r Pcosts_r Ptold_r PgivenC_r Pleast_r Pgreat_r Pact_r PstuffOf_r Ptarget_r Pfrom_r Pmiddle_r Pend_r Pcode_r Mpg_3 Hway Mstate_4 Mnext_5 Msteps_6 Mwritten_7 Mstuffs_8 Mtwins_9 Mworn_10 Hcells Hkept Hstack) H := hP.sub [0, 1, 2, 3, 4, 5, 6, 7, 8, 9, 29, 10, 11, 12, 13, 14, 15, 16, 30, 17, 18, 19, 20, 21, 25, 26, 27, 28, 22, 23, 24] rfl
    have hD : va_D A (wX_X7_programme ak ad h7 xa ma ra ta pg pa cl_r Rcoded_r Rtaken_r Rtoken_r Rplace_r Rvalue_r Rfault_r Rsn_r Rcn_r Rcode_r Tlen_r Tcnt_r Tsigns Ttoks_r Tplc_r Tvals_r Pst_r Pce_r Pgi_r Pln_r Pbears_r Pcosts_r Ptold_r PgivenC_r Pleast_r Pgreat_r Pact_r PstuffOf_r Ptarget_r Pfrom_r Pmiddle_r Pend_r Pcode_r Mpg_3 Hway Mstate_4 Mnext_5 Msteps_6 Mwritten_7 Mstuffs_8 Mtwins_9 Mworn_10 Hcells Hkept Hstack) := hD.sub [0, 1, 2, 3, 4, 5, 6, 7, 8, 9, 29, 10, 11, 12, 13, 14, 15, 16, 30, 17, 18, 19, 20, 21, 25, 26, 27, 28, 22, 23, 24] (by decide) rfl
    refine lv_aload_n hx hb dX7_programme_26 rfl (lv_at hl 1 rfl) ?_
    refine vt_get (D := D) (ci := 6) (v := .ref (xa 2)) (C := RX7) (T := TX7) (N := 10) hx hb hts (fun w h => wm_c (wc_X7 w h)) hown hE.1 hP 0 rfl rfl 2 (by decide) tX7_2 (hts (.fieldLink RX7 28 "WornLines" "reader" "LWornLines$Reader;") (wm_c hw_538)) (fun _ h9 => h9) rfl dX7_programme_27 ?_
    refine va_get (D := D) (ci := 3) (v := .int (Rfault_r)) (C := RX3) (T := TX3) (N := 11) hx hb hts (fun w h => wm_c (wc_X3 w h)) hown hE.1 hP 1 rfl rfl 10 (by decide) (hts (.fieldLink RX7 83 "WornLines$Reader" "fault" "I") (wm_c hw_539)) (fun _ h9 => h9) rfl dX7_programme_30 ?_
    exact kR33 Rfault_r pa pg Rcoded_r Rtaken_r Rtoken_r Rplace_r Rvalue_r Rfault_r Rsn_r Rcn_r Rcode_r Tlen_r Tcnt_r Ttoks_r Tplc_r Tvals_r Pst_r Pce_r Pgi_r Pln_r Pbears_r Pcosts_r Ptold_r PgivenC_r Pleast_r Pgreat_r Pact_r PstuffOf_r Ptarget_r Pfrom_r Pmiddle_r Pend_r cl_r Pcode_r Mpg_3 Mstate_4 Mnext_5 Msteps_6 Mwritten_7 Mstuffs_8 Mtwins_9 Mworn_10 _ _ _ hw hP hD hS
set_option maxHeartbeats 4000000 in
set_option maxRecDepth 100000 in
theorem c_X7_programme (l : Launch) (D : va_G) (ak : Nat → ClassId) (ad : Nat → Nat) (sz : Nat) (h7 : Nat) (xa : Nat → Nat) (ma : Nat → Nat) (ra : Nat → Nat) (ta : Nat → Nat) (Rcoded : Int32) (Rpg : Nat) (Rtaken : Int32) (Rtoken : Nat) (Rplace : Int32) (Rvalue : Int64) (Rfault : Int32) (Rsn : Nat → Int64) (Rcn : Nat → Int64) (Rcode : Nat → Int32) (Tlen : Int32) (Tcnt : Int32) (Tsigns : Nat → Int32) (Ttoks : Nat → Nat) (Tplc : Nat → Int32) (Tvals : Nat → Int64) (Hpg : Nat) (Hway : Int32) (Hstate : Int32) (Hnext : Int32) (Hsteps : Int32) (Hwritten : Int32) (Hstuffs : Nat → Int32) (Htwins : Nat → Int32) (Hworn : Nat → Int32) (Hcells : Nat → Int32) (Hkept : Nat → Int32) (Hstack : Nat → Int32) (Φ : Int32 → Nat → Int32 → Int32 → Nat → Int32 → Int64 → Int32 → (Nat → Int64) → (Nat → Int64) → (Nat → Int32) → Int32 → Int32 → (Nat → Nat) → (Nat → Int32) → (Nat → Int64) → Int32 → Int32 → Int32 → Int32 → (Nat → Int32) → (Nat → Int32) → (Nat → Int32) → (Nat → Int32) → (Nat → Int32) → (Nat → Int32) → (Nat → Int32) → (Nat → Int32) → (Nat → Int32) → (Nat → Int32) → (Nat → Int32) → (Nat → Int32) → Nat → (Nat → Int32) → Nat → Int32 → Int32 → Int32 → Int32 → (Nat → Int32) → (Nat → Int32) → (Nat → Int32) → Prop) (hf : wp_X7_programme Tsigns Rcoded Rtaken Rtoken Rplace Rvalue Rfault Rsn Rcn Rcode Tlen Tcnt Ttoks Tplc Tvals Hpg Hstate Hnext Hsteps Hwritten Hstuffs Htwins Hworn Φ) : Met l yX7_programme wsX7_programme ({ frames := 48, cells := 15, slots := 1133, locals := 2729 }) (cPre D ak ad [.ref h7] ((wE_X7_programme ak ad h7 xa ma ra ta Rcoded Rpg Rtaken Rtoken Rplace Rvalue Rfault Rsn Rcn Rcode Tlen Tcnt Tsigns Ttoks Tplc Tvals Hpg Hway Hstate Hnext Hsteps Hwritten Hstuffs Htwins Hworn Hcells Hkept Hstack)) sz) (cI D (S := (Nat → Nat) × (Nat) × (Int32) × (Int32) × (Nat) × (Int32) × (Int64) × (Int32) × (Nat → Int64) × (Nat → Int64) × (Nat → Int32) × (Int32) × (Int32) × (Nat → Nat) × (Nat → Int32) × (Nat → Int64) × (Int32) × (Int32) × (Int32) × (Int32) × (Nat → Int32) × (Nat → Int32) × (Nat → Int32) × (Nat → Int32) × (Nat → Int32) × (Nat → Int32) × (Nat → Int32) × (Nat → Int32) × (Nat → Int32) × (Nat → Int32) × (Nat → Int32) × (Nat → Int32) × (Nat) × (Nat → Int32) × (Nat) × (Int32) × (Int32) × (Int32) × (Int32) × (Nat → Int32) × (Nat → Int32) × (Nat → Int32)) (fun (r : Int32) (u : (Nat → Nat) × (Nat) × (Int32) × (Int32) × (Nat) × (Int32) × (Int64) × (Int32) × (Nat → Int64) × (Nat → Int64) × (Nat → Int32) × (Int32) × (Int32) × (Nat → Nat) × (Nat → Int32) × (Nat → Int64) × (Int32) × (Int32) × (Int32) × (Int32) × (Nat → Int32) × (Nat → Int32) × (Nat → Int32) × (Nat → Int32) × (Nat → Int32) × (Nat → Int32) × (Nat → Int32) × (Nat → Int32) × (Nat → Int32) × (Nat → Int32) × (Nat → Int32) × (Nat → Int32) × (Nat) × (Nat → Int32) × (Nat) × (Int32) × (Int32) × (Int32) × (Int32) × (Nat → Int32) × (Nat → Int32) × (Nat → Int32)) => Φ r u.2.1 u.2.2.1 u.2.2.2.1 u.2.2.2.2.1 u.2.2.2.2.2.1 u.2.2.2.2.2.2.1 u.2.2.2.2.2.2.2.1 u.2.2.2.2.2.2.2.2.1 u.2.2.2.2.2.2.2.2.2.1 u.2.2.2.2.2.2.2.2.2.2.1 u.2.2.2.2.2.2.2.2.2.2.2.1 u.2.2.2.2.2.2.2.2.2.2.2.2.1 u.2.2.2.2.2.2.2.2.2.2.2.2.2.1 u.2.2.2.2.2.2.2.2.2.2.2.2.2.2.1 u.2.2.2.2.2.2.2.2.2.2.2.2.2.2.2.1 u.2.2.2.2.2.2.2.2.2.2.2.2.2.2.2.2.1 u.2.2.2.2.2.2.2.2.2.2.2.2.2.2.2.2.2.1 u.2.2.2.2.2.2.2.2.2.2.2.2.2.2.2.2.2.2.1 u.2.2.2.2.2.2.2.2.2.2.2.2.2.2.2.2.2.2.2.1 u.2.2.2.2.2.2.2.2.2.2.2.2.2.2.2.2.2.2.2.2.1 u.2.2.2.2.2.2.2.2.2.2.2.2.2.2.2.2.2.2.2.2.2.1 u.2.2.2.2.2.2.2.2.2.2.2.2.2.2.2.2.2.2.2.2.2.2.1 u.2.2.2.2.2.2.2.2.2.2.2.2.2.2.2.2.2.2.2.2.2.2.2.1 u.2.2.2.2.2.2.2.2.2.2.2.2.2.2.2.2.2.2.2.2.2.2.2.2.1 u.2.2.2.2.2.2.2.2.2.2.2.2.2.2.2.2.2.2.2.2.2.2.2.2.2.1 u.2.2.2.2.2.2.2.2.2.2.2.2.2.2.2.2.2.2.2.2.2.2.2.2.2.2.1 u.2.2.2.2.2.2.2.2.2.2.2.2.2.2.2.2.2.2.2.2.2.2.2.2.2.2.2.1 u.2.2.2.2.2.2.2.2.2.2.2.2.2.2.2.2.2.2.2.2.2.2.2.2.2.2.2.2.1 u.2.2.2.2.2.2.2.2.2.2.2.2.2.2.2.2.2.2.2.2.2.2.2.2.2.2.2.2.2.1 u.2.2.2.2.2.2.2.2.2.2.2.2.2.2.2.2.2.2.2.2.2.2.2.2.2.2.2.2.2.2.1 u.2.2.2.2.2.2.2.2.2.2.2.2.2.2.2.2.2.2.2.2.2.2.2.2.2.2.2.2.2.2.2.1 u.2.2.2.2.2.2.2.2.2.2.2.2.2.2.2.2.2.2.2.2.2.2.2.2.2.2.2.2.2.2.2.2.1 u.2.2.2.2.2.2.2.2.2.2.2.2.2.2.2.2.2.2.2.2.2.2.2.2.2.2.2.2.2.2.2.2.2.1 u.2.2.2.2.2.2.2.2.2.2.2.2.2.2.2.2.2.2.2.2.2.2.2.2.2.2.2.2.2.2.2.2.2.2.1 u.2.2.2.2.2.2.2.2.2.2.2.2.2.2.2.2.2.2.2.2.2.2.2.2.2.2.2.2.2.2.2.2.2.2.2.1 u.2.2.2.2.2.2.2.2.2.2.2.2.2.2.2.2.2.2.2.2.2.2.2.2.2.2.2.2.2.2.2.2.2.2.2.2.1 u.2.2.2.2.2.2.2.2.2.2.2.2.2.2.2.2.2.2.2.2.2.2.2.2.2.2.2.2.2.2.2.2.2.2.2.2.2.1 u.2.2.2.2.2.2.2.2.2.2.2.2.2.2.2.2.2.2.2.2.2.2.2.2.2.2.2.2.2.2.2.2.2.2.2.2.2.2.1 u.2.2.2.2.2.2.2.2.2.2.2.2.2.2.2.2.2.2.2.2.2.2.2.2.2.2.2.2.2.2.2.2.2.2.2.2.2.2.2.1 u.2.2.2.2.2.2.2.2.2.2.2.2.2.2.2.2.2.2.2.2.2.2.2.2.2.2.2.2.2.2.2.2.2.2.2.2.2.2.2.2.1 u.2.2.2.2.2.2.2.2.2.2.2.2.2.2.2.2.2.2.2.2.2.2.2.2.2.2.2.2.2.2.2.2.2.2.2.2.2.2.2.2.2) (fun u => ((wX_X7_programme ak ad h7 xa ma ra ta u.2.1 u.1 u.2.2.2.2.2.2.2.2.2.2.2.2.2.2.2.2.2.2.2.2.2.2.2.2.2.2.2.2.2.2.2.2.1 u.2.2.1 u.2.2.2.1 u.2.2.2.2.1 u.2.2.2.2.2.1 u.2.2.2.2.2.2.1 u.2.2.2.2.2.2.2.1 u.2.2.2.2.2.2.2.2.1 u.2.2.2.2.2.2.2.2.2.1 u.2.2.2.2.2.2.2.2.2.2.1 u.2.2.2.2.2.2.2.2.2.2.2.1 u.2.2.2.2.2.2.2.2.2.2.2.2.1 Tsigns u.2.2.2.2.2.2.2.2.2.2.2.2.2.1 u.2.2.2.2.2.2.2.2.2.2.2.2.2.2.1 u.2.2.2.2.2.2.2.2.2.2.2.2.2.2.2.1 u.2.2.2.2.2.2.2.2.2.2.2.2.2.2.2.2.1 u.2.2.2.2.2.2.2.2.2.2.2.2.2.2.2.2.2.1 u.2.2.2.2.2.2.2.2.2.2.2.2.2.2.2.2.2.2.1 u.2.2.2.2.2.2.2.2.2.2.2.2.2.2.2.2.2.2.2.1 u.2.2.2.2.2.2.2.2.2.2.2.2.2.2.2.2.2.2.2.2.1 u.2.2.2.2.2.2.2.2.2.2.2.2.2.2.2.2.2.2.2.2.2.1 u.2.2.2.2.2.2.2.2.2.2.2.2.2.2.2.2.2.2.2.2.2.2.1 u.2.2.2.2.2.2.2.2.2.2.2.2.2.2.2.2.2.2.2.2.2.2.2.1 u.2.2.2.2.2.2.2.2.2.2.2.2.2.2.2.2.2.2.2.2.2.2.2.2.1 u.2.2.2.2.2.2.2.2.2.2.2.2.2.2.2.2.2.2.2.2.2.2.2.2.2.1 u.2.2.2.2.2.2.2.2.2.2.2.2.2.2.2.2.2.2.2.2.2.2.2.2.2.2.1 u.2.2.2.2.2.2.2.2.2.2.2.2.2.2.2.2.2.2.2.2.2.2.2.2.2.2.2.1 u.2.2.2.2.2.2.2.2.2.2.2.2.2.2.2.2.2.2.2.2.2.2.2.2.2.2.2.2.1 u.2.2.2.2.2.2.2.2.2.2.2.2.2.2.2.2.2.2.2.2.2.2.2.2.2.2.2.2.2.1 u.2.2.2.2.2.2.2.2.2.2.2.2.2.2.2.2.2.2.2.2.2.2.2.2.2.2.2.2.2.2.1 u.2.2.2.2.2.2.2.2.2.2.2.2.2.2.2.2.2.2.2.2.2.2.2.2.2.2.2.2.2.2.2.1 u.2.2.2.2.2.2.2.2.2.2.2.2.2.2.2.2.2.2.2.2.2.2.2.2.2.2.2.2.2.2.2.2.2.1 u.2.2.2.2.2.2.2.2.2.2.2.2.2.2.2.2.2.2.2.2.2.2.2.2.2.2.2.2.2.2.2.2.2.2.1 Hway u.2.2.2.2.2.2.2.2.2.2.2.2.2.2.2.2.2.2.2.2.2.2.2.2.2.2.2.2.2.2.2.2.2.2.2.1 u.2.2.2.2.2.2.2.2.2.2.2.2.2.2.2.2.2.2.2.2.2.2.2.2.2.2.2.2.2.2.2.2.2.2.2.2.1 u.2.2.2.2.2.2.2.2.2.2.2.2.2.2.2.2.2.2.2.2.2.2.2.2.2.2.2.2.2.2.2.2.2.2.2.2.2.1 u.2.2.2.2.2.2.2.2.2.2.2.2.2.2.2.2.2.2.2.2.2.2.2.2.2.2.2.2.2.2.2.2.2.2.2.2.2.2.1 u.2.2.2.2.2.2.2.2.2.2.2.2.2.2.2.2.2.2.2.2.2.2.2.2.2.2.2.2.2.2.2.2.2.2.2.2.2.2.2.1 u.2.2.2.2.2.2.2.2.2.2.2.2.2.2.2.2.2.2.2.2.2.2.2.2.2.2.2.2.2.2.2.2.2.2.2.2.2.2.2.2.1 u.2.2.2.2.2.2.2.2.2.2.2.2.2.2.2.2.2.2.2.2.2.2.2.2.2.2.2.2.2.2.2.2.2.2.2.2.2.2.2.2.2 Hcells Hkept Hstack))) ((wE_X7_programme ak ad h7 xa ma ra ta Rcoded Rpg Rtaken Rtoken Rplace Rvalue Rfault Rsn Rcn Rcode Tlen Tcnt Tsigns Ttoks Tplc Tvals Hpg Hway Hstate Hnext Hsteps Hwritten Hstuffs Htwins Hworn Hcells Hkept Hstack)) sz) 15 1133 (va_A ((wE_X7_programme ak ad h7 xa ma ra ta Rcoded Rpg Rtaken Rtoken Rplace Rvalue Rfault Rsn Rcn Rcode Tlen Tcnt Tsigns Ttoks Tplc Tvals Hpg Hway Hstate Hnext Hsteps Hwritten Hstuffs Htwins Hworn Hcells Hkept Hstack)) sz) := by
  refine Met.ofW (cc := cX7_programme) (maxL := 2) (ret := (some .int)) (by decide) rfl ?_
  intro p e s m args below meth c s₁ B hml hv
  obtain ⟨rfl, hsz, hP, hE, hD0, hT⟩ := hv
  have hx := B.exec
  have hb := B.bytes
  have hr := B.returns
  have hts := atoms_spec (ws := wsX7_programme) B.pre
  have hown : s.vm.findClass RX7 = some m.cls := findClass_of_methodNamed B.named
  have hlocks := B.notSynchronized
  subst hsz
  have hD := hD0.self (sz := s.heap.size)
  generalize hAe : va_A ((wE_X7_programme ak ad h7 xa ma ra ta Rcoded Rpg Rtaken Rtoken Rplace Rvalue Rfault Rsn Rcn Rcode Tlen Tcnt Tsigns Ttoks Tplc Tvals Hpg Hway Hstate Hnext Hsteps Hwritten Hstuffs Htwins Hworn Hcells Hkept Hstack)) s.heap.size = A at hD hT ⊢
  have hA : ∀ q : Nat, s.heap.size ≤ q → A q := fun q h => by rw [← hAe]; exact Or.inr h
  have hS : va_S A s.heap s.heap [] := va_S.rf
  have hl := lv_entry ([.ref h7]) (n := 2) (Nat.le_of_ble_eq_true rfl)
  rw [lg_entry_eq]
  generalize (lg_sl ([.ref h7]) ++ List.replicate (2 - (lg_sl ([.ref h7])).length) Slot.unset).toArray = ls at hl ⊢
  have hl : lv_has ls 2 [(0, .ref h7)] := hl
  exact kj_X7_programme_e hx hb hown hts hml hE hT hA (Nat.le_of_ble_eq_true rfl) (Nat.le_of_ble_eq_true rfl) ⟨Nat.le_of_ble_eq_true rfl, Nat.le_of_ble_eq_true rfl⟩ h7 xa ma ra ta Rpg Tsigns Hway Hcells Hkept Hstack Φ (fun r pa pg Rcoded Rtaken Rtoken Rplace Rvalue Rfault Rsn Rcn Rcode Tlen Tcnt Ttoks Tplc Tvals Pst Pce Pgi Pln Pbears Pcosts Ptold PgivenC Pleast Pgreat Pact PstuffOf Ptarget Pfrom Pmiddle Pend cl Pcode Hpg Hstate Hnext Hsteps Hwritten Hstuffs Htwins Hworn H locs ls hw hP hD hS => W.iret (v := r) hx hb hr (fun t ht hW => ⟨⟨r, (pa, pg, Rcoded, Rtaken, Rtoken, Rplace, Rvalue, Rfault, Rsn, Rcn, Rcode, Tlen, Tcnt, Ttoks, Tplc, Tvals, Pst, Pce, Pgi, Pln, Pbears, Pcosts, Ptold, PgivenC, Pleast, Pgreat, Pact, PstuffOf, Ptarget, Pfrom, Pmiddle, Pend, cl, Pcode, Hpg, Hstate, Hnext, Hsteps, Hwritten, Hstuffs, Htwins, Hworn), rfl, hw, by rw [ht]; exact hP, by rw [hAe]; exact hD⟩, by rw [hAe]; exact hS.F ht⟩) hS.2.2 dX7_programme_33) Rcoded Rtaken Rtoken Rplace Rvalue Rfault Rsn Rcn Rcode Tlen Tcnt Ttoks Tplc Tvals Hpg Hstate Hnext Hsteps Hwritten Hstuffs Htwins Hworn _ _ _ hf hP hD hS hl
end
section
theorem dX7_feed_0 : decode cX7_feed 0 = .ok (.aload_n 0, 1) := by decide +kernel
theorem dX7_feed_1 : decode cX7_feed 1 = .ok (.getfield 10, 3) := by decide +kernel
theorem dX7_feed_4 : decode cX7_feed 4 = .ok (.lload_n 1, 1) := by decide +kernel
set_option maxRecDepth 20000 in
theorem ggX7_feed_X5_addBytes : GoodIn wsX7_feed wsX5_addBytes := gup gc_X5_addBytes
set_option maxRecDepth 20000 in
theorem gX7_feed_X5_addBytes : GoodIn wsX7_feed (wsV RX7 71 RX5 yX5_addBytes wsX5_addBytes) := gup (glV hw_564 hw_565 hw_566 hw_401 gc_X5_addBytes)
theorem dX7_feed_5 : decode cX7_feed 5 = .ok (.invokevirtual 71, 3) := by decide +kernel
theorem dX7_feed_8 : decode cX7_feed 8 = .ok (.aload_n 0, 1) := by decide +kernel
theorem dX7_feed_9 : decode cX7_feed 9 = .ok (.getfield 10, 3) := by decide +kernel
theorem dX7_feed_12 : decode cX7_feed 12 = .ok (.lload_n 3, 1) := by decide +kernel
theorem dX7_feed_13 : decode cX7_feed 13 = .ok (.invokevirtual 71, 3) := by decide +kernel
theorem dX7_feed_16 : decode cX7_feed 16 = .ok (.aload_n 0, 1) := by decide +kernel
theorem dX7_feed_17 : decode cX7_feed 17 = .ok (.getfield 10, 3) := by decide +kernel
theorem dX7_feed_20 : decode cX7_feed 20 = .ok (.lload 5, 2) := by decide +kernel
theorem dX7_feed_22 : decode cX7_feed 22 = .ok (.invokevirtual 71, 3) := by decide +kernel
theorem dX7_feed_25 : decode cX7_feed 25 = .ok (.aload_n 0, 1) := by decide +kernel
theorem dX7_feed_26 : decode cX7_feed 26 = .ok (.getfield 10, 3) := by decide +kernel
theorem dX7_feed_29 : decode cX7_feed 29 = .ok (.getfield 75, 3) := by decide +kernel
theorem dX7_feed_32 : decode cX7_feed 32 = .ok (.ireturn, 1) := by decide +kernel
theorem dX7_stuff_0 : decode cX7_stuff 0 = .ok (.iload_n 1, 1) := by decide +kernel
theorem dX7_stuff_1 : decode cX7_stuff 1 = .ok (.aload_n 0, 1) := by decide +kernel
theorem dX7_stuff_2 : decode cX7_stuff 2 = .ok (.getfield 37, 3) := by decide +kernel
theorem dX7_stuff_5 : decode cX7_stuff 5 = .ok (.getfield 89, 3) := by decide +kernel
theorem dX7_stuff_8 : decode cX7_stuff 8 = .ok (.getfield 92, 3) := by decide +kernel
set_option maxRecDepth 20000 in
theorem ggX7_stuff_X7_within : GoodIn wsX7_stuff wsX7_within := gup gc_X7_within
set_option maxRecDepth 20000 in
theorem gX7_stuff_X7_within : GoodIn wsX7_stuff (va_wsS RX7 95 yX7_within wsX7_within) := gup (glS hw_567 hw_325 hw_324 gc_X7_within)
theorem dX7_stuff_11 : decode cX7_stuff 11 = .ok (.invokestatic 95, 3) := by decide +kernel
theorem dX7_stuff_14 : decode cX7_stuff 14 = .ok (.ifCond .ne 5, 3) := by decide +kernel
theorem dX7_stuff_19 : decode cX7_stuff 19 = .ok (.iload_n 2, 1) := by decide +kernel
theorem dX7_stuff_20 : decode cX7_stuff 20 = .ok (.lookupswitch 54 #[(0, 28), (1, 41)], 28) := by decide +kernel
theorem dX7_stuff_48 : decode cX7_stuff 48 = .ok (.aload_n 0, 1) := by decide +kernel
theorem dX7_stuff_49 : decode cX7_stuff 49 = .ok (.getfield 37, 3) := by decide +kernel
theorem dX7_stuff_52 : decode cX7_stuff 52 = .ok (.getfield 89, 3) := by decide +kernel
theorem dX7_stuff_55 : decode cX7_stuff 55 = .ok (.getfield 99, 3) := by decide +kernel
theorem dX7_stuff_58 : decode cX7_stuff 58 = .ok (.iload_n 1, 1) := by decide +kernel
theorem dX7_stuff_59 : decode cX7_stuff 59 = .ok (.iaload, 1) := by decide +kernel
theorem dX7_stuff_61 : decode cX7_stuff 61 = .ok (.aload_n 0, 1) := by decide +kernel
theorem dX7_stuff_62 : decode cX7_stuff 62 = .ok (.getfield 37, 3) := by decide +kernel
theorem dX7_stuff_65 : decode cX7_stuff 65 = .ok (.getfield 89, 3) := by decide +kernel
theorem dX7_stuff_68 : decode cX7_stuff 68 = .ok (.getfield 103, 3) := by decide +kernel
theorem dX7_stuff_71 : decode cX7_stuff 71 = .ok (.iload_n 1, 1) := by decide +kernel
theorem dX7_stuff_72 : decode cX7_stuff 72 = .ok (.iaload, 1) := by decide +kernel
theorem dX7_stuff_74 : decode cX7_stuff 74 = .ok (.iconst (-1), 1) := by decide +kernel
theorem dX7_stuff_17 : decode cX7_stuff 17 = .ok (.iconst (-1), 1) := by decide +kernel
theorem dX7_stuff_18 : decode cX7_stuff 18 = .ok (.ireturn, 1) := by decide +kernel
theorem dX7_stuff_60 : decode cX7_stuff 60 = .ok (.ireturn, 1) := by decide +kernel
theorem dX7_stuff_73 : decode cX7_stuff 73 = .ok (.ireturn, 1) := by decide +kernel
theorem dX7_stuff_75 : decode cX7_stuff 75 = .ok (.ireturn, 1) := by decide +kernel
theorem dX7_line_0 : decode cX7_line 0 = .ok (.iload_n 1, 1) := by decide +kernel
theorem dX7_line_1 : decode cX7_line 1 = .ok (.aload_n 0, 1) := by decide +kernel
theorem dX7_line_2 : decode cX7_line 2 = .ok (.getfield 37, 3) := by decide +kernel
theorem dX7_line_5 : decode cX7_line 5 = .ok (.getfield 89, 3) := by decide +kernel
theorem dX7_line_8 : decode cX7_line 8 = .ok (.getfield 106, 3) := by decide +kernel
set_option maxRecDepth 20000 in
theorem ggX7_line_X7_within : GoodIn wsX7_line wsX7_within := gup gc_X7_within
set_option maxRecDepth 20000 in
theorem gX7_line_X7_within : GoodIn wsX7_line (va_wsS RX7 95 yX7_within wsX7_within) := gup (glS hw_567 hw_325 hw_324 gc_X7_within)
theorem dX7_line_11 : decode cX7_line 11 = .ok (.invokestatic 95, 3) := by decide +kernel
theorem dX7_line_14 : decode cX7_line 14 = .ok (.ifCond .ne 5, 3) := by decide +kernel
theorem dX7_line_19 : decode cX7_line 19 = .ok (.iload_n 2, 1) := by decide +kernel
theorem dX7_line_20 : decode cX7_line 20 = .ok (.tableswitch 88 0 4 #[36, 49, 59, 69, 78], 36) := by decide +kernel
theorem dX7_line_56 : decode cX7_line 56 = .ok (.aload_n 0, 1) := by decide +kernel
theorem dX7_line_57 : decode cX7_line 57 = .ok (.getfield 37, 3) := by decide +kernel
theorem dX7_line_60 : decode cX7_line 60 = .ok (.getfield 89, 3) := by decide +kernel
theorem dX7_line_63 : decode cX7_line 63 = .ok (.getfield 109, 3) := by decide +kernel
theorem dX7_line_66 : decode cX7_line 66 = .ok (.iload_n 1, 1) := by decide +kernel
theorem dX7_line_67 : decode cX7_line 67 = .ok (.iaload, 1) := by decide +kernel
theorem dX7_line_69 : decode cX7_line 69 = .ok (.aload_n 0, 1) := by decide +kernel
theorem dX7_line_70 : decode cX7_line 70 = .ok (.getfield 37, 3) := by decide +kernel
theorem dX7_line_73 : decode cX7_line 73 = .ok (.getfield 112, 3) := by decide +kernel
theorem dX7_line_76 : decode cX7_line 76 = .ok (.iload_n 1, 1) := by decide +kernel
theorem dX7_line_77 : decode cX7_line 77 = .ok (.iaload, 1) := by decide +kernel
theorem dX7_line_79 : decode cX7_line 79 = .ok (.aload_n 0, 1) := by decide +kernel
theorem dX7_line_80 : decode cX7_line 80 = .ok (.getfield 37, 3) := by decide +kernel
theorem dX7_line_83 : decode cX7_line 83 = .ok (.getfield 114, 3) := by decide +kernel
theorem dX7_line_86 : decode cX7_line 86 = .ok (.iload_n 1, 1) := by decide +kernel
theorem dX7_line_87 : decode cX7_line 87 = .ok (.iaload, 1) := by decide +kernel
theorem dX7_line_89 : decode cX7_line 89 = .ok (.aload_n 0, 1) := by decide +kernel
theorem dX7_line_90 : decode cX7_line 90 = .ok (.getfield 37, 3) := by decide +kernel
theorem dX7_line_93 : decode cX7_line 93 = .ok (.iload_n 1, 1) := by decide +kernel
set_option maxRecDepth 20000 in
theorem ggX7_line_X1_bearing : GoodIn wsX7_line wsX1_bearing := gup gc_X1_bearing
set_option maxRecDepth 20000 in
theorem gX7_line_X1_bearing : GoodIn wsX7_line (wsV RX7 117 RX1 yX1_bearing wsX1_bearing) := gup (glV hw_568 hw_329 hw_330 hw_331 gc_X1_bearing)
theorem dX7_line_94 : decode cX7_line 94 = .ok (.invokevirtual 117, 3) := by decide +kernel
theorem dX7_line_98 : decode cX7_line 98 = .ok (.aload_n 0, 1) := by decide +kernel
theorem dX7_line_99 : decode cX7_line 99 = .ok (.getfield 37, 3) := by decide +kernel
theorem dX7_line_102 : decode cX7_line 102 = .ok (.getfield 121, 3) := by decide +kernel
theorem dX7_line_105 : decode cX7_line 105 = .ok (.iload_n 1, 1) := by decide +kernel
theorem dX7_line_106 : decode cX7_line 106 = .ok (.iaload, 1) := by decide +kernel
theorem dX7_line_108 : decode cX7_line 108 = .ok (.iconst (-1), 1) := by decide +kernel
theorem dX7_line_17 : decode cX7_line 17 = .ok (.iconst (-1), 1) := by decide +kernel
theorem dX7_line_18 : decode cX7_line 18 = .ok (.ireturn, 1) := by decide +kernel
theorem dX7_line_68 : decode cX7_line 68 = .ok (.ireturn, 1) := by decide +kernel
theorem dX7_line_78 : decode cX7_line 78 = .ok (.ireturn, 1) := by decide +kernel
theorem dX7_line_88 : decode cX7_line 88 = .ok (.ireturn, 1) := by decide +kernel
theorem dX7_line_97 : decode cX7_line 97 = .ok (.ireturn, 1) := by decide +kernel
theorem dX7_line_107 : decode cX7_line 107 = .ok (.ireturn, 1) := by decide +kernel
theorem dX7_line_109 : decode cX7_line 109 = .ok (.ireturn, 1) := by decide +kernel
theorem dX7_lay_0 : decode cX7_lay 0 = .ok (.iload_n 1, 1) := by decide +kernel
theorem dX7_lay_1 : decode cX7_lay 1 = .ok (.aload_n 0, 1) := by decide +kernel
theorem dX7_lay_2 : decode cX7_lay 2 = .ok (.getfield 37, 3) := by decide +kernel
theorem dX7_lay_5 : decode cX7_lay 5 = .ok (.getfield 89, 3) := by decide +kernel
theorem dX7_lay_8 : decode cX7_lay 8 = .ok (.getfield 106, 3) := by decide +kernel
set_option maxRecDepth 20000 in
theorem ggX7_lay_X7_within : GoodIn wsX7_lay wsX7_within := gup gc_X7_within
set_option maxRecDepth 20000 in
theorem gX7_lay_X7_within : GoodIn wsX7_lay (va_wsS RX7 95 yX7_within wsX7_within) := gup (glS hw_567 hw_325 hw_324 gc_X7_within)
theorem dX7_lay_11 : decode cX7_lay 11 = .ok (.invokestatic 95, 3) := by decide +kernel
theorem dX7_lay_14 : decode cX7_lay 14 = .ok (.ifCond .eq 30, 3) := by decide +kernel
theorem dX7_lay_44 : decode cX7_lay 44 = .ok (.iconst 0, 1) := by decide +kernel
theorem dX7_lay_17 : decode cX7_lay 17 = .ok (.iload_n 2, 1) := by decide +kernel
theorem dX7_lay_18 : decode cX7_lay 18 = .ok (.aload_n 0, 1) := by decide +kernel
theorem dX7_lay_19 : decode cX7_lay 19 = .ok (.getfield 37, 3) := by decide +kernel
theorem dX7_lay_22 : decode cX7_lay 22 = .ok (.getfield 89, 3) := by decide +kernel
theorem dX7_lay_25 : decode cX7_lay 25 = .ok (.getfield 92, 3) := by decide +kernel
theorem dX7_lay_28 : decode cX7_lay 28 = .ok (.invokestatic 95, 3) := by decide +kernel
theorem dX7_lay_31 : decode cX7_lay 31 = .ok (.ifCond .eq 13, 3) := by decide +kernel
theorem dX7_lay_34 : decode cX7_lay 34 = .ok (.iload_n 3, 1) := by decide +kernel
theorem dX7_lay_35 : decode cX7_lay 35 = .ok (.iconst 1, 1) := by decide +kernel
theorem dX7_lay_36 : decode cX7_lay 36 = .ok (.if_icmp .lt 8, 3) := by decide +kernel
theorem dX7_lay_39 : decode cX7_lay 39 = .ok (.iload_n 3, 1) := by decide +kernel
theorem dX7_lay_40 : decode cX7_lay 40 = .ok (.iconst 4, 1) := by decide +kernel
theorem dX7_lay_41 : decode cX7_lay 41 = .ok (.if_icmp .le 5, 3) := by decide +kernel
theorem dX7_lay_46 : decode cX7_lay 46 = .ok (.aload_n 0, 1) := by decide +kernel
theorem dX7_lay_47 : decode cX7_lay 47 = .ok (.getfield 37, 3) := by decide +kernel
theorem dX7_lay_50 : decode cX7_lay 50 = .ok (.getfield 112, 3) := by decide +kernel
theorem dX7_lay_53 : decode cX7_lay 53 = .ok (.iload_n 1, 1) := by decide +kernel
theorem dX7_lay_54 : decode cX7_lay 54 = .ok (.iload_n 2, 1) := by decide +kernel
theorem dX7_lay_55 : decode cX7_lay 55 = .ok (.iastore, 1) := by decide +kernel
theorem dX7_lay_56 : decode cX7_lay 56 = .ok (.aload_n 0, 1) := by decide +kernel
theorem dX7_lay_57 : decode cX7_lay 57 = .ok (.getfield 37, 3) := by decide +kernel
theorem dX7_lay_60 : decode cX7_lay 60 = .ok (.getfield 114, 3) := by decide +kernel
theorem dX7_lay_63 : decode cX7_lay 63 = .ok (.iload_n 1, 1) := by decide +kernel
theorem dX7_lay_64 : decode cX7_lay 64 = .ok (.iload_n 3, 1) := by decide +kernel
theorem dX7_lay_65 : decode cX7_lay 65 = .ok (.iastore, 1) := by decide +kernel
theorem dX7_lay_66 : decode cX7_lay 66 = .ok (.aload_n 0, 1) := by decide +kernel
theorem dX7_lay_67 : decode cX7_lay 67 = .ok (.getfield 37, 3) := by decide +kernel
theorem dX7_lay_70 : decode cX7_lay 70 = .ok (.getfield 121, 3) := by decide +kernel
theorem dX7_lay_73 : decode cX7_lay 73 = .ok (.iload_n 1, 1) := by decide +kernel
theorem dX7_lay_74 : decode cX7_lay 74 = .ok (.iconst 0, 1) := by decide +kernel
theorem dX7_lay_75 : decode cX7_lay 75 = .ok (.iastore, 1) := by decide +kernel
theorem dX7_lay_76 : decode cX7_lay 76 = .ok (.iconst 1, 1) := by decide +kernel
theorem dX7_lay_45 : decode cX7_lay 45 = .ok (.ireturn, 1) := by decide +kernel
theorem dX7_lay_77 : decode cX7_lay 77 = .ok (.ireturn, 1) := by decide +kernel
theorem dX7_cost_4 : decode cX7_cost 4 = .ok (.iload_n 2, 1) := by decide +kernel
theorem dX7_cost_5 : decode cX7_cost 5 = .ok (.aload_n 0, 1) := by decide +kernel
theorem dX7_cost_6 : decode cX7_cost 6 = .ok (.getfield 37, 3) := by decide +kernel
theorem dX7_cost_9 : decode cX7_cost 9 = .ok (.getfield 89, 3) := by decide +kernel
theorem dX7_cost_12 : decode cX7_cost 12 = .ok (.getfield 106, 3) := by decide +kernel
theorem dX7_cost_15 : decode cX7_cost 15 = .ok (.if_icmp .ge 42, 3) := by decide +kernel
theorem dX7_cost_57 : decode cX7_cost 57 = .ok (.iload_n 1, 1) := by decide +kernel
theorem dX7_cost_18 : decode cX7_cost 18 = .ok (.iload_n 1, 1) := by decide +kernel
theorem dX7_cost_19 : decode cX7_cost 19 = .ok (.aload_n 0, 1) := by decide +kernel
theorem dX7_cost_20 : decode cX7_cost 20 = .ok (.getfield 37, 3) := by decide +kernel
theorem dX7_cost_23 : decode cX7_cost 23 = .ok (.getfield 89, 3) := by decide +kernel
theorem dX7_cost_26 : decode cX7_cost 26 = .ok (.getfield 103, 3) := by decide +kernel
theorem dX7_cost_29 : decode cX7_cost 29 = .ok (.aload_n 0, 1) := by decide +kernel
theorem dX7_cost_30 : decode cX7_cost 30 = .ok (.getfield 37, 3) := by decide +kernel
theorem dX7_cost_33 : decode cX7_cost 33 = .ok (.getfield 112, 3) := by decide +kernel
theorem dX7_cost_36 : decode cX7_cost 36 = .ok (.iload_n 2, 1) := by decide +kernel
theorem dX7_cost_37 : decode cX7_cost 37 = .ok (.iaload, 1) := by decide +kernel
theorem dX7_cost_38 : decode cX7_cost 38 = .ok (.iaload, 1) := by decide +kernel
theorem dX7_cost_39 : decode cX7_cost 39 = .ok (.aload_n 0, 1) := by decide +kernel
theorem dX7_cost_40 : decode cX7_cost 40 = .ok (.getfield 37, 3) := by decide +kernel
theorem dX7_cost_43 : decode cX7_cost 43 = .ok (.getfield 114, 3) := by decide +kernel
theorem dX7_cost_46 : decode cX7_cost 46 = .ok (.iload_n 2, 1) := by decide +kernel
theorem dX7_cost_47 : decode cX7_cost 47 = .ok (.iaload, 1) := by decide +kernel
theorem dX7_cost_48 : decode cX7_cost 48 = .ok (.imul, 1) := by decide +kernel
theorem dX7_cost_49 : decode cX7_cost 49 = .ok (.iadd, 1) := by decide +kernel
theorem dX7_cost_50 : decode cX7_cost 50 = .ok (.istore_n 1, 1) := by decide +kernel
theorem dX7_cost_51 : decode cX7_cost 51 = .ok (.iinc 2 1, 3) := by decide +kernel
theorem dX7_cost_54 : decode cX7_cost 54 = .ok (.goto (-50), 3) := by decide +kernel
theorem dX7_cost_0 : decode cX7_cost 0 = .ok (.iconst 0, 1) := by decide +kernel
theorem dX7_cost_1 : decode cX7_cost 1 = .ok (.istore_n 1, 1) := by decide +kernel
theorem dX7_cost_2 : decode cX7_cost 2 = .ok (.iconst 0, 1) := by decide +kernel
theorem dX7_cost_3 : decode cX7_cost 3 = .ok (.istore_n 2, 1) := by decide +kernel
theorem dX7_cost_58 : decode cX7_cost 58 = .ok (.ireturn, 1) := by decide +kernel
theorem dX7_inputs_0 : decode cX7_inputs 0 = .ok (.aload_n 0, 1) := by decide +kernel
theorem dX7_inputs_1 : decode cX7_inputs 1 = .ok (.getfield 37, 3) := by decide +kernel
theorem dX7_inputs_4 : decode cX7_inputs 4 = .ok (.getfield 89, 3) := by decide +kernel
set_option maxRecDepth 20000 in
theorem ggX7_inputs_X2_inputCount : GoodIn wsX7_inputs wsX2_inputCount := gup gc_X2_inputCount
set_option maxRecDepth 20000 in
theorem gX7_inputs_X2_inputCount : GoodIn wsX7_inputs (wsV RX7 124 RX2 yX2_inputCount wsX2_inputCount) := gup (glV hw_569 hw_470 hw_471 hw_318 gc_X2_inputCount)
theorem dX7_inputs_7 : decode cX7_inputs 7 = .ok (.invokevirtual 124, 3) := by decide +kernel
theorem dX7_inputs_10 : decode cX7_inputs 10 = .ok (.ireturn, 1) := by decide +kernel
theorem dX7_input_0 : decode cX7_input 0 = .ok (.iload_n 1, 1) := by decide +kernel
theorem dX7_input_1 : decode cX7_input 1 = .ok (.aload_n 0, 1) := by decide +kernel
theorem dX7_input_2 : decode cX7_input 2 = .ok (.getfield 37, 3) := by decide +kernel
theorem dX7_input_5 : decode cX7_input 5 = .ok (.getfield 89, 3) := by decide +kernel
set_option maxRecDepth 20000 in
theorem ggX7_input_X2_inputCount : GoodIn wsX7_input wsX2_inputCount := gup gc_X2_inputCount
set_option maxRecDepth 20000 in
theorem gX7_input_X2_inputCount : GoodIn wsX7_input (wsV RX7 124 RX2 yX2_inputCount wsX2_inputCount) := gup (glV hw_569 hw_470 hw_471 hw_318 gc_X2_inputCount)
theorem dX7_input_8 : decode cX7_input 8 = .ok (.invokevirtual 124, 3) := by decide +kernel
set_option maxRecDepth 20000 in
theorem ggX7_input_X7_within : GoodIn wsX7_input wsX7_within := gup gc_X7_within
set_option maxRecDepth 20000 in
theorem gX7_input_X7_within : GoodIn wsX7_input (va_wsS RX7 95 yX7_within wsX7_within) := gup (glS hw_567 hw_325 hw_324 gc_X7_within)
theorem dX7_input_11 : decode cX7_input 11 = .ok (.invokestatic 95, 3) := by decide +kernel
theorem dX7_input_14 : decode cX7_input 14 = .ok (.ifCond .eq 20, 3) := by decide +kernel
theorem dX7_input_34 : decode cX7_input 34 = .ok (.iconst (-1), 1) := by decide +kernel
theorem dX7_input_17 : decode cX7_input 17 = .ok (.iload_n 2, 1) := by decide +kernel
theorem dX7_input_18 : decode cX7_input 18 = .ok (.aload_n 0, 1) := by decide +kernel
theorem dX7_input_19 : decode cX7_input 19 = .ok (.getfield 37, 3) := by decide +kernel
theorem dX7_input_22 : decode cX7_input 22 = .ok (.getfield 89, 3) := by decide +kernel
theorem dX7_input_25 : decode cX7_input 25 = .ok (.getfield 128, 3) := by decide +kernel
theorem dX7_input_28 : decode cX7_input 28 = .ok (.invokestatic 95, 3) := by decide +kernel
theorem dX7_input_31 : decode cX7_input 31 = .ok (.ifCond .ne 5, 3) := by decide +kernel
theorem dX7_input_36 : decode cX7_input 36 = .ok (.aload_n 0, 1) := by decide +kernel
theorem dX7_input_37 : decode cX7_input 37 = .ok (.getfield 37, 3) := by decide +kernel
theorem dX7_input_40 : decode cX7_input 40 = .ok (.getfield 89, 3) := by decide +kernel
theorem dX7_input_43 : decode cX7_input 43 = .ok (.iload_n 1, 1) := by decide +kernel
theorem dX7_input_44 : decode cX7_input 44 = .ok (.iload_n 2, 1) := by decide +kernel
set_option maxRecDepth 20000 in
theorem ggX7_input_X2_atFirst : GoodIn wsX7_input wsX2_atFirst := gup gc_X2_atFirst
set_option maxRecDepth 20000 in
theorem gX7_input_X2_atFirst : GoodIn wsX7_input (wsV RX7 131 RX2 yX2_atFirst wsX2_atFirst) := gup (glV hw_570 hw_333 hw_334 hw_318 gc_X2_atFirst)
theorem dX7_input_45 : decode cX7_input 45 = .ok (.invokevirtual 131, 3) := by decide +kernel
theorem dX7_input_35 : decode cX7_input 35 = .ok (.ireturn, 1) := by decide +kernel
theorem dX7_input_48 : decode cX7_input 48 = .ok (.ireturn, 1) := by decide +kernel
theorem dX7_canWalk_0 : decode cX7_canWalk 0 = .ok (.aload_n 0, 1) := by decide +kernel
theorem dX7_canWalk_1 : decode cX7_canWalk 1 = .ok (.getfield 37, 3) := by decide +kernel
theorem dX7_canWalk_4 : decode cX7_canWalk 4 = .ok (.getfield 89, 3) := by decide +kernel
theorem dX7_canWalk_7 : decode cX7_canWalk 7 = .ok (.getfield 106, 3) := by decide +kernel
theorem dX7_canWalk_10 : decode cX7_canWalk 10 = .ok (.ifCond .le 24, 3) := by decide +kernel
theorem dX7_canWalk_34 : decode cX7_canWalk 34 = .ok (.iconst 0, 1) := by decide +kernel
theorem dX7_canWalk_13 : decode cX7_canWalk 13 = .ok (.iload_n 1, 1) := by decide +kernel
theorem dX7_canWalk_14 : decode cX7_canWalk 14 = .ok (.aload_n 0, 1) := by decide +kernel
theorem dX7_canWalk_15 : decode cX7_canWalk 15 = .ok (.getfield 37, 3) := by decide +kernel
theorem dX7_canWalk_18 : decode cX7_canWalk 18 = .ok (.getfield 89, 3) := by decide +kernel
set_option maxRecDepth 20000 in
theorem ggX7_canWalk_X2_inputCount : GoodIn wsX7_canWalk wsX2_inputCount := gup gc_X2_inputCount
set_option maxRecDepth 20000 in
theorem gX7_canWalk_X2_inputCount : GoodIn wsX7_canWalk (wsV RX7 124 RX2 yX2_inputCount wsX2_inputCount) := gup (glV hw_569 hw_470 hw_471 hw_318 gc_X2_inputCount)
theorem dX7_canWalk_21 : decode cX7_canWalk 21 = .ok (.invokevirtual 124, 3) := by decide +kernel
set_option maxRecDepth 20000 in
theorem ggX7_canWalk_X7_within : GoodIn wsX7_canWalk wsX7_within := gup gc_X7_within
set_option maxRecDepth 20000 in
theorem gX7_canWalk_X7_within : GoodIn wsX7_canWalk (va_wsS RX7 95 yX7_within wsX7_within) := gup (glS hw_567 hw_325 hw_324 gc_X7_within)
theorem dX7_canWalk_24 : decode cX7_canWalk 24 = .ok (.invokestatic 95, 3) := by decide +kernel
theorem dX7_canWalk_27 : decode cX7_canWalk 27 = .ok (.ifCond .eq 7, 3) := by decide +kernel
theorem dX7_canWalk_30 : decode cX7_canWalk 30 = .ok (.iconst 1, 1) := by decide +kernel
theorem dX7_canWalk_31 : decode cX7_canWalk 31 = .ok (.goto 4, 3) := by decide +kernel
theorem dX7_canWalk_35 : decode cX7_canWalk 35 = .ok (.ireturn, 1) := by decide +kernel
theorem dX7_begin_0 : decode cX7_begin 0 = .ok (.aload_n 0, 1) := by decide +kernel
theorem dX7_begin_1 : decode cX7_begin 1 = .ok (.iload_n 1, 1) := by decide +kernel
set_option maxRecDepth 20000 in
theorem ggX7_begin_X7_canWalk : GoodIn wsX7_begin wsX7_canWalk := gup gc_X7_canWalk
set_option maxRecDepth 20000 in
theorem gX7_begin_X7_canWalk : GoodIn wsX7_begin (wsV RX7 135 RX7 yX7_canWalk wsX7_canWalk) := gup (glV hw_571 hw_572 hw_573 hw_324 gc_X7_canWalk)
theorem dX7_begin_2 : decode cX7_begin 2 = .ok (.invokevirtual 135, 3) := by decide +kernel
theorem dX7_begin_5 : decode cX7_begin 5 = .ok (.ifCond .ne 5, 3) := by decide +kernel
theorem dX7_begin_10 : decode cX7_begin 10 = .ok (.aload_n 0, 1) := by decide +kernel
theorem dX7_begin_11 : decode cX7_begin 11 = .ok (.getfield 37, 3) := by decide +kernel
theorem dX7_begin_14 : decode cX7_begin 14 = .ok (.iload_n 1, 1) := by decide +kernel
set_option maxRecDepth 20000 in
theorem ggX7_begin_X1_start : GoodIn wsX7_begin wsX1_start := gup gc_X1_start
set_option maxRecDepth 20000 in
theorem gX7_begin_X1_start : GoodIn wsX7_begin (wsV RX7 139 RX1 yX1_start wsX1_start) := gup (glV hw_574 hw_390 hw_391 hw_331 gc_X1_start)
theorem dX7_begin_15 : decode cX7_begin 15 = .ok (.invokevirtual 139, 3) := by decide +kernel
theorem dX7_begin_18 : decode cX7_begin 18 = .ok (.iconst 1, 1) := by decide +kernel
theorem dX7_begin_8 : decode cX7_begin 8 = .ok (.iconst 0, 1) := by decide +kernel
theorem dX7_begin_9 : decode cX7_begin 9 = .ok (.ireturn, 1) := by decide +kernel
theorem dX7_begin_19 : decode cX7_begin 19 = .ok (.ireturn, 1) := by decide +kernel
theorem dX7_state_0 : decode cX7_state 0 = .ok (.iload_n 1, 1) := by decide +kernel
theorem dX7_state_1 : decode cX7_state 1 = .ok (.tableswitch 88 0 3 #[31, 39, 72, 80], 31) := by decide +kernel
theorem dX7_state_32 : decode cX7_state 32 = .ok (.aload_n 0, 1) := by decide +kernel
theorem dX7_state_33 : decode cX7_state 33 = .ok (.getfield 37, 3) := by decide +kernel
theorem dX7_state_36 : decode cX7_state 36 = .ok (.getfield 155, 3) := by decide +kernel
theorem dX7_state_40 : decode cX7_state 40 = .ok (.aload_n 0, 1) := by decide +kernel
theorem dX7_state_41 : decode cX7_state 41 = .ok (.getfield 37, 3) := by decide +kernel
theorem dX7_state_44 : decode cX7_state 44 = .ok (.getfield 155, 3) := by decide +kernel
theorem dX7_state_47 : decode cX7_state 47 = .ok (.ifCond .eq 14, 3) := by decide +kernel
theorem dX7_state_61 : decode cX7_state 61 = .ok (.iconst (-1), 1) := by decide +kernel
theorem dX7_state_62 : decode cX7_state 62 = .ok (.goto 10, 3) := by decide +kernel
theorem dX7_state_50 : decode cX7_state 50 = .ok (.aload_n 0, 1) := by decide +kernel
theorem dX7_state_51 : decode cX7_state 51 = .ok (.getfield 37, 3) := by decide +kernel
theorem dX7_state_54 : decode cX7_state 54 = .ok (.getfield 155, 3) := by decide +kernel
theorem dX7_state_57 : decode cX7_state 57 = .ok (.iconst 2, 1) := by decide +kernel
theorem dX7_state_58 : decode cX7_state 58 = .ok (.if_icmp .ne 7, 3) := by decide +kernel
theorem dX7_state_65 : decode cX7_state 65 = .ok (.aload_n 0, 1) := by decide +kernel
theorem dX7_state_66 : decode cX7_state 66 = .ok (.getfield 37, 3) := by decide +kernel
theorem dX7_state_69 : decode cX7_state 69 = .ok (.getfield 158, 3) := by decide +kernel
theorem dX7_state_73 : decode cX7_state 73 = .ok (.aload_n 0, 1) := by decide +kernel
theorem dX7_state_74 : decode cX7_state 74 = .ok (.getfield 37, 3) := by decide +kernel
theorem dX7_state_77 : decode cX7_state 77 = .ok (.getfield 144, 3) := by decide +kernel
theorem dX7_state_81 : decode cX7_state 81 = .ok (.aload_n 0, 1) := by decide +kernel
theorem dX7_state_82 : decode cX7_state 82 = .ok (.getfield 37, 3) := by decide +kernel
theorem dX7_state_85 : decode cX7_state 85 = .ok (.getfield 161, 3) := by decide +kernel
theorem dX7_state_89 : decode cX7_state 89 = .ok (.iconst (-1), 1) := by decide +kernel
theorem dX7_state_39 : decode cX7_state 39 = .ok (.ireturn, 1) := by decide +kernel
theorem dX7_state_72 : decode cX7_state 72 = .ok (.ireturn, 1) := by decide +kernel
theorem dX7_state_80 : decode cX7_state 80 = .ok (.ireturn, 1) := by decide +kernel
theorem dX7_state_88 : decode cX7_state 88 = .ok (.ireturn, 1) := by decide +kernel
theorem dX7_state_90 : decode cX7_state 90 = .ok (.ireturn, 1) := by decide +kernel
theorem dX7_fresh_0 : decode cX7_fresh 0 = .ok (.aload_n 0, 1) := by decide +kernel
theorem dX7_fresh_1 : decode cX7_fresh 1 = .ok (.getfield 37, 3) := by decide +kernel
theorem dX7_fresh_4 : decode cX7_fresh 4 = .ok (.getfield 121, 3) := by decide +kernel
theorem dX7_fresh_7 : decode cX7_fresh 7 = .ok (.iconst 0, 1) := by decide +kernel
set_option maxRecDepth 20000 in
theorem ggX7_fresh_J7_fill_53178 : GoodIn wsX7_fresh wsJ7_fill_53178 := gup gc_J7_fill_53178
set_option maxRecDepth 20000 in
theorem gX7_fresh_J7_fill_53178 : GoodIn wsX7_fresh (va_wsS RX7 178 yJ7_fill_53178 wsJ7_fill_53178) := gup (glS hw_575 hw_371 hw_372 gc_J7_fill_53178)
theorem dX7_fresh_8 : decode cX7_fresh 8 = .ok (.invokestatic 178, 3) := by decide +kernel
theorem dX7_fresh_11 : decode cX7_fresh 11 = .ok (.iconst 1, 1) := by decide +kernel
theorem dX7_fresh_12 : decode cX7_fresh 12 = .ok (.ireturn, 1) := by decide +kernel
theorem dX7_count_0 : decode cX7_count 0 = .ok (.iload_n 1, 1) := by decide +kernel
theorem dX7_count_1 : decode cX7_count 1 = .ok (.tableswitch 87 0 4 #[35, 46, 57, 68, 79], 35) := by decide +kernel
theorem dX7_count_36 : decode cX7_count 36 = .ok (.aload_n 0, 1) := by decide +kernel
theorem dX7_count_37 : decode cX7_count 37 = .ok (.getfield 37, 3) := by decide +kernel
theorem dX7_count_40 : decode cX7_count 40 = .ok (.getfield 89, 3) := by decide +kernel
theorem dX7_count_43 : decode cX7_count 43 = .ok (.getfield 92, 3) := by decide +kernel
theorem dX7_count_47 : decode cX7_count 47 = .ok (.aload_n 0, 1) := by decide +kernel
theorem dX7_count_48 : decode cX7_count 48 = .ok (.getfield 37, 3) := by decide +kernel
theorem dX7_count_51 : decode cX7_count 51 = .ok (.getfield 89, 3) := by decide +kernel
theorem dX7_count_54 : decode cX7_count 54 = .ok (.getfield 128, 3) := by decide +kernel
theorem dX7_count_58 : decode cX7_count 58 = .ok (.aload_n 0, 1) := by decide +kernel
theorem dX7_count_59 : decode cX7_count 59 = .ok (.getfield 37, 3) := by decide +kernel
theorem dX7_count_62 : decode cX7_count 62 = .ok (.getfield 89, 3) := by decide +kernel
theorem dX7_count_65 : decode cX7_count 65 = .ok (.getfield 243, 3) := by decide +kernel
theorem dX7_count_69 : decode cX7_count 69 = .ok (.aload_n 0, 1) := by decide +kernel
theorem dX7_count_70 : decode cX7_count 70 = .ok (.getfield 37, 3) := by decide +kernel
theorem dX7_count_73 : decode cX7_count 73 = .ok (.getfield 89, 3) := by decide +kernel
theorem dX7_count_76 : decode cX7_count 76 = .ok (.getfield 106, 3) := by decide +kernel
theorem dX7_count_80 : decode cX7_count 80 = .ok (.aload_n 0, 1) := by decide +kernel
theorem dX7_count_81 : decode cX7_count 81 = .ok (.getfield 10, 3) := by decide +kernel
theorem dX7_count_84 : decode cX7_count 84 = .ok (.getfield 75, 3) := by decide +kernel
theorem dX7_count_88 : decode cX7_count 88 = .ok (.iconst (-1), 1) := by decide +kernel
theorem dX7_count_46 : decode cX7_count 46 = .ok (.ireturn, 1) := by decide +kernel
theorem dX7_count_57 : decode cX7_count 57 = .ok (.ireturn, 1) := by decide +kernel
theorem dX7_count_68 : decode cX7_count 68 = .ok (.ireturn, 1) := by decide +kernel
theorem dX7_count_79 : decode cX7_count 79 = .ok (.ireturn, 1) := by decide +kernel
theorem dX7_count_87 : decode cX7_count 87 = .ok (.ireturn, 1) := by decide +kernel
theorem dX7_count_89 : decode cX7_count 89 = .ok (.ireturn, 1) := by decide +kernel
def wW_X7_feed (ak : Nat → ClassId) (ad : Nat → Nat) (h7 : Nat) (xa : Nat → Nat) (ta : Nat → Nat) (Tlen : Int32) (Tcnt : Int32) (Tsigns : Nat → Int32) : va_W := [(h7, .inr (6, wob xa )), ((xa 0), .inr (5, tob ta (Tlen) (Tcnt))), ((ta 0), .inl (ak 2, 1000, .inl (Tsigns)))]
def wp_X7_feed (ya : Int64) (yb : Int64) (yc : Int64) (Tlen : Int32) (Tsigns : Nat → Int32) (Φ : Int32 → Int32 → (Nat → Int32) → Prop) : Prop := wp_X5_addBytes ya Tlen Tsigns (fun Tlen_2 Tsigns_3 => wp_X5_addBytes yb Tlen_2 Tsigns_3 (fun Tlen_6 Tsigns_7 => wp_X5_addBytes yc Tlen_6 Tsigns_7 (fun Tlen_10 Tsigns_11 => Φ Tlen_10 Tlen_10 Tsigns_11)))
set_option maxHeartbeats 4000000 in
set_option maxRecDepth 100000 in
theorem kj_X7_feed_e {p : Program} {l : Launch} {e : Env} {R : Room} {s : State} {m : MethodId} {args : Array Value} {below : List Frame} {meth : Method} {c : Code} {cells slots : Nat} {Q : State → Prop} {A : Nat → Prop} {D : va_G} {ak : Nat → ClassId} {ad : Nat → Nat} (hx : p.tables.exec = Jvm.exec) (hb : c.code = cX7_feed) (hown : s.vm.findClass RX7 = some m.cls) (hts : ∀ w ∈ wsX7_feed, w.before args s = true) (hml : c.maxLocals = 7) (hE : EV D ak s) (hT : ST D ak ad A s s.heap) (hA : ∀ q, s.heap.size ≤ q → A q) (hRf : 1 ≤ R.frames) (hRl : 24 ≤ R.locals) (hRc : cells ≤ R.cells ∧ slots ≤ R.slots) (h7 : Nat) (xa : Nat → Nat) (ta : Nat → Nat) (Tcnt : Int32) (ya : Int64) (yb : Int64) (yc : Int64)  (Φ : Int32 → Int32 → (Nat → Int32) → Prop)
    (kR32 : ∀ (r : Int32) (Tlen : Int32) (Tsigns : Nat → Int32) (H : Heap) (locs : List Loc) (ls : Array Slot), Φ r Tlen Tsigns → va_P D vwCl (wW_X7_feed ak ad h7 xa ta Tlen Tcnt Tsigns) H → va_D A (wW_X7_feed ak ad h7 xa ta Tlen Tcnt Tsigns) → va_S A s.heap H locs → W p l e R s m args below meth c H locs cells slots Q (F0 m 32 ls [.int r]))
    : ∀ (Tlen : Int32) (Tsigns : Nat → Int32) (H : Heap) (locs : List Loc) (ls : Array Slot), wp_X7_feed ya yb yc Tlen Tsigns Φ → va_P D vwCl (wW_X7_feed ak ad h7 xa ta Tlen Tcnt Tsigns) H → va_D A (wW_X7_feed ak ad h7 xa ta Tlen Tcnt Tsigns) → va_S A s.heap H locs → lv_has ls 7 [(0, .ref h7), (1, .long (ya)), (3, .long (yb)), (5, .long (yc))] → W p l e R s m args below meth c H locs cells slots Q (F0 m 0 ls ([])) := by
  intro Tlen Tsigns H locs ls hw hP hD hS hl
  delta wp_X7_feed at hw
  refine lv_aload_n hx hb dX7_feed_0 rfl (lv_at hl 0 rfl) ?_
  refine vt_get (D := D) (ci := 6) (v := .ref (xa 0)) (C := RX7) (T := TX7) (N := 10) hx hb hts (fun w h => wm_c (wc_X7 w h)) hown hE.1 hP 0 rfl rfl 0 (by decide) tX7_0 (hts (.fieldLink RX7 10 "WornLines" "tape" "LWornLines$Tape;") (wm_c hw_547)) (fun _ h9 => h9) rfl dX7_feed_1 ?_
  refine lv_lload_n hx hb dX7_feed_4 rfl (lv_at hl 1 rfl) ?_
  refine kc_v (wc := (wW_X5_addBytes ak ad (xa 0) ta Tlen Tcnt Tsigns)) (wr := [(h7, .inr (6, wob xa ))]) hP hD hS hA [1, 2] [0] rfl rfl (by decide) (by decide) (va_runV (As := [.long (ya)]) (rest := []) ⟨hx, hb, hml, hown, hts⟩ (c_X5_addBytes l D ak ad _ (xa 0) ta Tlen Tcnt Tsigns ya _ hw) (cwV 1 hts gX7_feed_X5_addBytes rfl rfl rfl hv_X5_addBytes ⟨(Nat.le_trans (Nat.le_of_ble_eq_true rfl) hRf), (Nat.le_trans (Nat.le_of_ble_eq_true rfl) hRl)⟩) (kc_preV (As := [.long (ya)]) (wc := (wW_X5_addBytes ak ad (xa 0) ta Tlen Tcnt Tsigns)) hE hT hP hD hS hA [1, 2] (by decide) rfl rfl 1 5 rfl rfl rfl) rfl rfl hl.1 rfl (lv_room (Nat.le_of_ble_eq_true rfl)) dX7_feed_5 ⟨hRc.1, hRc.2⟩) (fun u_1 H locs hw hP hD hS => ?_)
  obtain ⟨Tlen_2, Tsigns_3⟩ := u_1
  try dsimp -zeta only at hw
  have hP : va_P D vwCl (wW_X7_feed ak ad h7 xa ta Tlen_2 Tcnt Tsigns_3) H := hP.sub [0, 1, 2] rfl
  have hD : va_D A (wW_X7_feed ak ad h7 xa ta Tlen_2 Tcnt Tsigns_3) := hD.sub [0, 1, 2] (by decide) rfl
  refine lv_aload_n hx hb dX7_feed_8 rfl (lv_at hl 0 rfl) ?_
  refine vt_get (D := D) (ci := 6) (v := .ref (xa 0)) (C := RX7) (T := TX7) (N := 10) hx hb hts (fun w h => wm_c (wc_X7 w h)) hown hE.1 hP 0 rfl rfl 0 (by decide) tX7_0 (hts (.fieldLink RX7 10 "WornLines" "tape" "LWornLines$Tape;") (wm_c hw_547)) (fun _ h9 => h9) rfl dX7_feed_9 ?_
  refine lv_lload_n hx hb dX7_feed_12 rfl (lv_at hl 2 rfl) ?_
  refine kc_v (wc := (wW_X5_addBytes ak ad (xa 0) ta Tlen_2 Tcnt Tsigns_3)) (wr := [(h7, .inr (6, wob xa ))]) hP hD hS hA [1, 2] [0] rfl rfl (by decide) (by decide) (va_runV (As := [.long (yb)]) (rest := []) ⟨hx, hb, hml, hown, hts⟩ (c_X5_addBytes l D ak ad _ (xa 0) ta Tlen_2 Tcnt Tsigns_3 yb _ hw) (cwV 1 hts gX7_feed_X5_addBytes rfl rfl rfl hv_X5_addBytes ⟨(Nat.le_trans (Nat.le_of_ble_eq_true rfl) hRf), (Nat.le_trans (Nat.le_of_ble_eq_true rfl) hRl)⟩) (kc_preV (As := [.long (yb)]) (wc := (wW_X5_addBytes ak ad (xa 0) ta Tlen_2 Tcnt Tsigns_3)) hE hT hP hD hS hA [1, 2] (by decide) rfl rfl 1 5 rfl rfl rfl) rfl rfl hl.1 rfl (lv_room (Nat.le_of_ble_eq_true rfl)) dX7_feed_13 ⟨hRc.1, hRc.2⟩) (fun u_5 H locs hw hP hD hS => ?_)
  obtain ⟨Tlen_6, Tsigns_7⟩ := u_5
  try dsimp -zeta only at hw
  have hP : va_P D vwCl (wW_X7_feed ak ad h7 xa ta Tlen_6 Tcnt Tsigns_7) H := hP.sub [0, 1, 2] rfl
  have hD : va_D A (wW_X7_feed ak ad h7 xa ta Tlen_6 Tcnt Tsigns_7) := hD.sub [0, 1, 2] (by decide) rfl
  refine lv_aload_n hx hb dX7_feed_16 rfl (lv_at hl 0 rfl) ?_
  refine vt_get (D := D) (ci := 6) (v := .ref (xa 0)) (C := RX7) (T := TX7) (N := 10) hx hb hts (fun w h => wm_c (wc_X7 w h)) hown hE.1 hP 0 rfl rfl 0 (by decide) tX7_0 (hts (.fieldLink RX7 10 "WornLines" "tape" "LWornLines$Tape;") (wm_c hw_547)) (fun _ h9 => h9) rfl dX7_feed_17 ?_
  refine lv_lload hx hb dX7_feed_20 (lv_at hl 3 rfl) ?_
  refine kc_v (wc := (wW_X5_addBytes ak ad (xa 0) ta Tlen_6 Tcnt Tsigns_7)) (wr := [(h7, .inr (6, wob xa ))]) hP hD hS hA [1, 2] [0] rfl rfl (by decide) (by decide) (va_runV (As := [.long (yc)]) (rest := []) ⟨hx, hb, hml, hown, hts⟩ (c_X5_addBytes l D ak ad _ (xa 0) ta Tlen_6 Tcnt Tsigns_7 yc _ hw) (cwV 1 hts gX7_feed_X5_addBytes rfl rfl rfl hv_X5_addBytes ⟨(Nat.le_trans (Nat.le_of_ble_eq_true rfl) hRf), (Nat.le_trans (Nat.le_of_ble_eq_true rfl) hRl)⟩) (kc_preV (As := [.long (yc)]) (wc := (wW_X5_addBytes ak ad (xa 0) ta Tlen_6 Tcnt Tsigns_7)) hE hT hP hD hS hA [1, 2] (by decide) rfl rfl 1 5 rfl rfl rfl) rfl rfl hl.1 rfl (lv_room (Nat.le_of_ble_eq_true rfl)) dX7_feed_22 ⟨hRc.1, hRc.2⟩) (fun u_9 H locs hw hP hD hS => ?_)
  obtain ⟨Tlen_10, Tsigns_11⟩ := u_9
  try dsimp -zeta only at hw
  have hP : va_P D vwCl (wW_X7_feed ak ad h7 xa ta Tlen_10 Tcnt Tsigns_11) H := hP.sub [0, 1, 2] rfl
  have hD : va_D A (wW_X7_feed ak ad h7 xa ta Tlen_10 Tcnt Tsigns_11) := hD.sub [0, 1, 2] (by decide) rfl
  refine lv_aload_n hx hb dX7_feed_25 rfl (lv_at hl 0 rfl) ?_
  refine vt_get (D := D) (ci := 6) (v := .ref (xa 0)) (C := RX7) (T := TX7) (N := 10) hx hb hts (fun w h => wm_c (wc_X7 w h)) hown hE.1 hP 0 rfl rfl 0 (by decide) tX7_0 (hts (.fieldLink RX7 10 "WornLines" "tape" "LWornLines$Tape;") (wm_c hw_547)) (fun _ h9 => h9) rfl dX7_feed_26 ?_
  refine vt_get (D := D) (ci := 5) (v := .int (Tlen_10)) (C := RX5) (T := TX5) (N := 6) hx hb hts (fun w h => wm_c (wc_X5 w h)) hown hE.1 hP 1 rfl rfl 1 (by decide) tX5_1 (hts (.fieldLink RX7 75 "WornLines$Tape" "length" "I") (wm_c hw_548)) (fun _ h9 => h9) rfl dX7_feed_29 ?_
  exact kR32 Tlen_10 Tlen_10 Tsigns_11 _ _ _ hw hP hD hS
set_option maxHeartbeats 4000000 in
set_option maxRecDepth 100000 in
theorem c_X7_feed (l : Launch) (D : va_G) (ak : Nat → ClassId) (ad : Nat → Nat) (sz : Nat) (h7 : Nat) (xa : Nat → Nat) (ta : Nat → Nat) (Tlen : Int32) (Tcnt : Int32) (Tsigns : Nat → Int32) (ya : Int64) (yb : Int64) (yc : Int64) (Φ : Int32 → Int32 → (Nat → Int32) → Prop) (hf : wp_X7_feed ya yb yc Tlen Tsigns Φ) : Met l yX7_feed wsX7_feed ({ frames := 1, cells := 0, slots := 0, locals := 24 }) (cPre D ak ad [.ref h7, .long (ya), .long (yb), .long (yc)] ((wW_X7_feed ak ad h7 xa ta Tlen Tcnt Tsigns)) sz) (cI D (S := (Int32) × (Nat → Int32)) (fun (r : Int32) (u : (Int32) × (Nat → Int32)) => Φ r u.1 u.2) (fun u => (wW_X7_feed ak ad h7 xa ta u.1 Tcnt u.2)) ((wW_X7_feed ak ad h7 xa ta Tlen Tcnt Tsigns)) sz) 0 0 (va_A ((wW_X7_feed ak ad h7 xa ta Tlen Tcnt Tsigns)) sz) := by
  refine Met.ofW (cc := cX7_feed) (maxL := 7) (ret := (some .int)) (by decide) rfl ?_
  intro p e s m args below meth c s₁ B hml hv
  obtain ⟨rfl, hsz, hP, hE, hD0, hT⟩ := hv
  have hx := B.exec
  have hb := B.bytes
  have hr := B.returns
  have hts := atoms_spec (ws := wsX7_feed) B.pre
  have hown : s.vm.findClass RX7 = some m.cls := findClass_of_methodNamed B.named
  have hlocks := B.notSynchronized
  subst hsz
  have hD := hD0.self (sz := s.heap.size)
  generalize hAe : va_A ((wW_X7_feed ak ad h7 xa ta Tlen Tcnt Tsigns)) s.heap.size = A at hD hT ⊢
  have hA : ∀ q : Nat, s.heap.size ≤ q → A q := fun q h => by rw [← hAe]; exact Or.inr h
  have hS : va_S A s.heap s.heap [] := va_S.rf
  have hl := lv_entry ([.ref h7, .long (ya), .long (yb), .long (yc)]) (n := 7) (Nat.le_of_ble_eq_true rfl)
  rw [lg_entry_eq]
  generalize (lg_sl ([.ref h7, .long (ya), .long (yb), .long (yc)]) ++ List.replicate (7 - (lg_sl ([.ref h7, .long (ya), .long (yb), .long (yc)])).length) Slot.unset).toArray = ls at hl ⊢
  have hl : lv_has ls 7 [(0, .ref h7), (1, .long (ya)), (3, .long (yb)), (5, .long (yc))] := hl
  exact kj_X7_feed_e hx hb hown hts hml hE hT hA (Nat.le_of_ble_eq_true rfl) (Nat.le_of_ble_eq_true rfl) ⟨Nat.le_of_ble_eq_true rfl, Nat.le_of_ble_eq_true rfl⟩ h7 xa ta Tcnt ya yb yc Φ (fun r Tlen Tsigns H locs ls hw hP hD hS => W.iret (v := r) hx hb hr (fun t ht hW => ⟨⟨r, (Tlen, Tsigns), rfl, hw, by rw [ht]; exact hP, by rw [hAe]; exact hD⟩, by rw [hAe]; exact hS.F ht⟩) hS.2.2 dX7_feed_32) Tlen Tsigns _ _ _ hf hP hD hS hl

def wW_X7_stuff (ak : Nat → ClassId) (ad : Nat → Nat) (h7 : Nat) (xa : Nat → Nat) (ma : Nat → Nat) (pg : Nat) (Hway : Int32) (Hstate : Int32) (Hnext : Int32) (Hsteps : Int32) (Hwritten : Int32) : va_W := [(h7, .inr (6, wob xa )), ((xa 3), .inr (1, xob ma (pg) (Hway) (Hstate) (Hnext) (Hsteps) (Hwritten)))]
def wK_X7_stuff (ak : Nat → ClassId) (ad : Nat → Nat) (pg : Nat) (pa : Nat → Nat) (Pst : Int32) (Pce : Int32) (Pgi : Int32) (Pln : Int32) (Pbears : Nat → Int32) (Pcosts : Nat → Int32) : va_W := [(pg, .inr (2, pob pa (Pst) (Pce) (Pgi) (Pln))), ((pa 0), .inl (ak 0, 4, .inl (Pbears))), ((pa 1), .inl (ak 0, 4, .inl (Pcosts)))]
def wp_X7_stuff (Pst : Int32) (Pbears : Nat → Int32) (Pcosts : Nat → Int32) (xs : Int32) (xw : Int32)  (Φ : Int32 → Prop) : Prop := wp_X7_within xs Pst (fun r_2 => (¬ r_2 = 0 → (xw = 0 → vp_in xs 4 ∧ Φ (Pbears (xs).toNatClampNeg) ) ∧ (xw = 1 → vp_in xs 4 ∧ Φ (Pcosts (xs).toNatClampNeg) ) ∧ (¬ xw = 0 → ¬ xw = 1 → Φ (-1) )) ∧ (r_2 = 0 → Φ (-1) ))
set_option maxHeartbeats 4000000 in
set_option maxRecDepth 100000 in
theorem kj_X7_stuff_e {p : Program} {l : Launch} {e : Env} {R : Room} {s : State} {m : MethodId} {args : Array Value} {below : List Frame} {meth : Method} {c : Code} {cells slots : Nat} {Q : State → Prop} {A : Nat → Prop} {D : va_G} {ak : Nat → ClassId} {ad : Nat → Nat} (hx : p.tables.exec = Jvm.exec) (hb : c.code = cX7_stuff) (hown : s.vm.findClass RX7 = some m.cls) (hts : ∀ w ∈ wsX7_stuff, w.before args s = true) (hml : c.maxLocals = 3) (hE : EV D ak s) (hT : ST D ak ad A s s.heap) (hA : ∀ q, s.heap.size ≤ q → A q) (hRf : 1 ≤ R.frames) (hRl : 21 ≤ R.locals) (hRc : cells ≤ R.cells ∧ slots ≤ R.slots) (h7 : Nat) (xa : Nat → Nat) (ma : Nat → Nat) (pg : Nat) (pa : Nat → Nat) (Hway : Int32) (Hstate : Int32) (Hnext : Int32) (Hsteps : Int32) (Hwritten : Int32) (Pst : Int32) (Pce : Int32) (Pgi : Int32) (Pln : Int32) (Pbears : Nat → Int32) (Pcosts : Nat → Int32) (xs : Int32) (xw : Int32) (hKT : KT D A (wK_X7_stuff ak ad pg pa Pst Pce Pgi Pln Pbears Pcosts) s.heap)  (Φ : Int32 → Prop)
    (kR18 : ∀ (r : Int32)  (H : Heap) (locs : List Loc) (ls : Array Slot), Φ r  → va_P D vwCl (wW_X7_stuff ak ad h7 xa ma pg Hway Hstate Hnext Hsteps Hwritten) H → va_D A (wW_X7_stuff ak ad h7 xa ma pg Hway Hstate Hnext Hsteps Hwritten) → va_S A s.heap H locs → W p l e R s m args below meth c H locs cells slots Q (F0 m 18 ls [.int r]))
    (kR60 : ∀ (r : Int32)  (H : Heap) (locs : List Loc) (ls : Array Slot), Φ r  → va_P D vwCl (wW_X7_stuff ak ad h7 xa ma pg Hway Hstate Hnext Hsteps Hwritten) H → va_D A (wW_X7_stuff ak ad h7 xa ma pg Hway Hstate Hnext Hsteps Hwritten) → va_S A s.heap H locs → W p l e R s m args below meth c H locs cells slots Q (F0 m 60 ls [.int r]))
    (kR73 : ∀ (r : Int32)  (H : Heap) (locs : List Loc) (ls : Array Slot), Φ r  → va_P D vwCl (wW_X7_stuff ak ad h7 xa ma pg Hway Hstate Hnext Hsteps Hwritten) H → va_D A (wW_X7_stuff ak ad h7 xa ma pg Hway Hstate Hnext Hsteps Hwritten) → va_S A s.heap H locs → W p l e R s m args below meth c H locs cells slots Q (F0 m 73 ls [.int r]))
    (kR75 : ∀ (r : Int32)  (H : Heap) (locs : List Loc) (ls : Array Slot), Φ r  → va_P D vwCl (wW_X7_stuff ak ad h7 xa ma pg Hway Hstate Hnext Hsteps Hwritten) H → va_D A (wW_X7_stuff ak ad h7 xa ma pg Hway Hstate Hnext Hsteps Hwritten) → va_S A s.heap H locs → W p l e R s m args below meth c H locs cells slots Q (F0 m 75 ls [.int r]))
    : ∀  (H : Heap) (locs : List Loc) (ls : Array Slot), wp_X7_stuff Pst Pbears Pcosts xs xw  Φ → va_P D vwCl (wW_X7_stuff ak ad h7 xa ma pg Hway Hstate Hnext Hsteps Hwritten) H → va_D A (wW_X7_stuff ak ad h7 xa ma pg Hway Hstate Hnext Hsteps Hwritten) → va_S A s.heap H locs → lv_has ls 3 [(0, .ref h7), (1, .int (xs)), (2, .int (xw))] → W p l e R s m args below meth c H locs cells slots Q (F0 m 0 ls ([])) := by
  have hCW : ∀ {H : Heap} {locs : List Loc}, va_S A s.heap H locs → va_P D vwCl (wK_X7_stuff ak ad pg pa Pst Pce Pgi Pln Pbears Pcosts) H := fun hS => (hKT.kept hS.2.1).1
  intro  H locs ls hw hP hD hS hl
  delta wp_X7_stuff at hw
  refine lv_iload_n hx hb dX7_stuff_0 rfl (lv_at hl 1 rfl) ?_
  refine lv_aload_n hx hb dX7_stuff_1 rfl (lv_at hl 0 rfl) ?_
  refine vt_get (D := D) (ci := 6) (v := .ref (xa 3)) (C := RX7) (T := TX7) (N := 10) hx hb hts (fun w h => wm_c (wc_X7 w h)) hown hE.1 hP 0 rfl rfl 3 (by decide) tX7_3 (hts (.fieldLink RX7 37 "WornLines" "hand" "LWornLines$Machine;") (wm_c hw_540)) (fun _ h9 => h9) rfl dX7_stuff_2 ?_
  refine vt_get (D := D) (ci := 1) (v := .ref pg) (C := RX1) (T := TX1) (N := 12) hx hb hts (fun w h => wm_c (wc_X1 w h)) hown hE.1 hP 1 rfl rfl 0 (by decide) tX1_0 (hts (.fieldLink RX7 89 "WornLines$Machine" "programme" "LWornLines$Programme;") (wm_c hw_549)) (fun _ h9 => h9) rfl dX7_stuff_5 ?_
  refine vt_get (D := D) (ci := 2) (v := .int (Pst)) (C := RX2) (T := TX2) (N := 17) hx hb hts (fun w h => wm_c (wc_X2 w h)) hown hE.1 (hCW hS) 0 rfl rfl 0 (by decide) tX2_0 (hts (.fieldLink RX7 92 "WornLines$Programme" "stuffs" "I") (wm_c hw_550)) (fun _ h9 => h9) rfl dX7_stuff_8 ?_
  refine kc_i (wc := []) (wr := [(h7, .inr (6, wob xa )), ((xa 3), .inr (1, xob ma (pg) (Hway) (Hstate) (Hnext) (Hsteps) (Hwritten)))]) hP hD hS hA [] [0, 1] rfl rfl (by decide) (by decide) (va_runS (As := [.int (xs), .int (Pst)]) (rest := []) ⟨hx, hb, hml, hown, hts⟩ (c_X7_within l D ak ad _ xs Pst _ hw) (va_cwS 2 hts gX7_stuff_X7_within rfl rfl rfl hz_X7_within ⟨(Nat.le_trans (Nat.le_of_ble_eq_true rfl) hRf), (Nat.le_trans (Nat.le_of_ble_eq_true rfl) hRl)⟩) (kc_pre (As := [.int (xs), .int (Pst)]) (wc := []) hE hT hP hD hS hA [] (by decide) rfl rfl) rfl rfl hl.1 rfl (lv_room (Nat.le_of_ble_eq_true rfl)) dX7_stuff_11 ⟨hRc.1, hRc.2⟩) (fun r_2 u_1 H locs hw hP hD hS => ?_)
  try dsimp -zeta only at hw
  have hP : va_P D vwCl (wW_X7_stuff ak ad h7 xa ma pg Hway Hstate Hnext Hsteps Hwritten) H := hP.sub [0, 1] rfl
  have hD : va_D A (wW_X7_stuff ak ad h7 xa ma pg Hway Hstate Hnext Hsteps Hwritten) := hD.sub [0, 1] (by decide) rfl
  refine lv_if_ne (tgt := 19) hx hb dX7_stuff_14 (by decide) (fun c_3 => ?_) (fun c_3 => ?_)
  · replace hw := hw.1 c_3
    refine lv_iload_n hx hb dX7_stuff_19 rfl (lv_at hl 2 rfl) ?_
    by_cases k_20_0 : xw = (0 : Int32)
    · refine lv_lookup (tgt := 48) (off := 28) hx hb dX7_stuff_20 (by decide) (by rw [k_20_0]; rfl) (by decide) ?_
      replace hw := hw.1 k_20_0
      refine lv_aload_n hx hb dX7_stuff_48 rfl (lv_at hl 0 rfl) ?_
      refine vt_get (D := D) (ci := 6) (v := .ref (xa 3)) (C := RX7) (T := TX7) (N := 10) hx hb hts (fun w h => wm_c (wc_X7 w h)) hown hE.1 hP 0 rfl rfl 3 (by decide) tX7_3 (hts (.fieldLink RX7 37 "WornLines" "hand" "LWornLines$Machine;") (wm_c hw_540)) (fun _ h9 => h9) rfl dX7_stuff_49 ?_
      refine vt_get (D := D) (ci := 1) (v := .ref pg) (C := RX1) (T := TX1) (N := 12) hx hb hts (fun w h => wm_c (wc_X1 w h)) hown hE.1 hP 1 rfl rfl 0 (by decide) tX1_0 (hts (.fieldLink RX7 89 "WornLines$Machine" "programme" "LWornLines$Programme;") (wm_c hw_549)) (fun _ h9 => h9) rfl dX7_stuff_52 ?_
      refine vt_get (D := D) (ci := 2) (v := .ref (pa 0)) (C := RX2) (T := TX2) (N := 17) hx hb hts (fun w h => wm_c (wc_X2 w h)) hown hE.1 (hCW hS) 0 rfl rfl 1 (by decide) tX2_1 (hts (.fieldLink RX7 99 "WornLines$Programme" "bears" "[I") (wm_c hw_551)) (fun _ h9 => h9) rfl dX7_stuff_55 ?_
      refine lv_iload_n hx hb dX7_stuff_58 rfl (lv_at hl 1 rfl) ?_
      obtain ⟨h_4, hw⟩ := hw
      refine va_iald hx hb hE.1 (hCW hS) 1 0 rfl rfl (h_4) dX7_stuff_59 ?_
      exact kR60 (Pbears (xs).toNatClampNeg)  _ _ _ hw hP hD hS
    replace hw := hw.2
    by_cases k_20_1 : xw = (1 : Int32)
    · refine lv_lookup (tgt := 61) (off := 41) hx hb dX7_stuff_20 (by decide) (by rw [k_20_1]; rfl) (by decide) ?_
      replace hw := hw.1 k_20_1
      refine lv_aload_n hx hb dX7_stuff_61 rfl (lv_at hl 0 rfl) ?_
      refine vt_get (D := D) (ci := 6) (v := .ref (xa 3)) (C := RX7) (T := TX7) (N := 10) hx hb hts (fun w h => wm_c (wc_X7 w h)) hown hE.1 hP 0 rfl rfl 3 (by decide) tX7_3 (hts (.fieldLink RX7 37 "WornLines" "hand" "LWornLines$Machine;") (wm_c hw_540)) (fun _ h9 => h9) rfl dX7_stuff_62 ?_
      refine vt_get (D := D) (ci := 1) (v := .ref pg) (C := RX1) (T := TX1) (N := 12) hx hb hts (fun w h => wm_c (wc_X1 w h)) hown hE.1 hP 1 rfl rfl 0 (by decide) tX1_0 (hts (.fieldLink RX7 89 "WornLines$Machine" "programme" "LWornLines$Programme;") (wm_c hw_549)) (fun _ h9 => h9) rfl dX7_stuff_65 ?_
      refine vt_get (D := D) (ci := 2) (v := .ref (pa 1)) (C := RX2) (T := TX2) (N := 17) hx hb hts (fun w h => wm_c (wc_X2 w h)) hown hE.1 (hCW hS) 0 rfl rfl 2 (by decide) tX2_2 (hts (.fieldLink RX7 103 "WornLines$Programme" "costs" "[I") (wm_c hw_552)) (fun _ h9 => h9) rfl dX7_stuff_68 ?_
      refine lv_iload_n hx hb dX7_stuff_71 rfl (lv_at hl 1 rfl) ?_
      obtain ⟨h_5, hw⟩ := hw
      refine va_iald hx hb hE.1 (hCW hS) 2 0 rfl rfl (h_5) dX7_stuff_72 ?_
      exact kR73 (Pcosts (xs).toNatClampNeg)  _ _ _ hw hP hD hS
    replace hw := hw.2
    refine lv_lookup (tgt := 74) (off := 54) hx hb dX7_stuff_20 (by decide) (by show (if (0 : Int) = (xw : Int32).toInt then (28 : Int) else if (1 : Int) = (xw : Int32).toInt then (41 : Int) else (54 : Int)) = _; rw [if_neg (fun h9 => lv_neT k_20_0 rfl h9.symm), if_neg (fun h9 => lv_neT k_20_1 rfl h9.symm)]) (by decide) ?_
    replace hw := hw k_20_0 k_20_1
    refine lv_iconst (v := (-1)) hx hb dX7_stuff_74 (by decide) ?_
    exact kR75 (-1)  _ _ _ hw hP hD hS
  · replace hw := hw.2 c_3
    refine lv_iconst (v := (-1)) hx hb dX7_stuff_17 (by decide) ?_
    exact kR18 (-1)  _ _ _ hw hP hD hS
set_option maxHeartbeats 4000000 in
set_option maxRecDepth 100000 in
theorem c_X7_stuff (l : Launch) (D : va_G) (ak : Nat → ClassId) (ad : Nat → Nat) (sz : Nat) (h7 : Nat) (xa : Nat → Nat) (ma : Nat → Nat) (pg : Nat) (pa : Nat → Nat) (Hway : Int32) (Hstate : Int32) (Hnext : Int32) (Hsteps : Int32) (Hwritten : Int32) (Pst : Int32) (Pce : Int32) (Pgi : Int32) (Pln : Int32) (Pbears : Nat → Int32) (Pcosts : Nat → Int32) (xs : Int32) (xw : Int32) (Φ : Int32 → Prop) (hf : wp_X7_stuff Pst Pbears Pcosts xs xw Φ) : Met l yX7_stuff wsX7_stuff ({ frames := 1, cells := 0, slots := 0, locals := 21 }) (cPreK D ak ad [.ref h7, .int (xs), .int (xw)] ((wW_X7_stuff ak ad h7 xa ma pg Hway Hstate Hnext Hsteps Hwritten)) sz ((wK_X7_stuff ak ad pg pa Pst Pce Pgi Pln Pbears Pcosts))) (cI D (S := Unit) (fun (r : Int32) (u : Unit) => Φ r ) (fun u => (wW_X7_stuff ak ad h7 xa ma pg Hway Hstate Hnext Hsteps Hwritten)) ((wW_X7_stuff ak ad h7 xa ma pg Hway Hstate Hnext Hsteps Hwritten)) sz) 0 0 (va_A ((wW_X7_stuff ak ad h7 xa ma pg Hway Hstate Hnext Hsteps Hwritten)) sz) := by
  refine Met.ofW (cc := cX7_stuff) (maxL := 3) (ret := (some .int)) (by decide) rfl ?_
  intro p e s m args below meth c s₁ B hml hv
  obtain ⟨⟨rfl, hsz, hP, hE, hD0, hT⟩, hKT⟩ := hv
  have hx := B.exec
  have hb := B.bytes
  have hr := B.returns
  have hts := atoms_spec (ws := wsX7_stuff) B.pre
  have hown : s.vm.findClass RX7 = some m.cls := findClass_of_methodNamed B.named
  have hlocks := B.notSynchronized
  subst hsz
  have hD := hD0.self (sz := s.heap.size)
  generalize hAe : va_A ((wW_X7_stuff ak ad h7 xa ma pg Hway Hstate Hnext Hsteps Hwritten)) s.heap.size = A at hD hT hKT ⊢
  have hA : ∀ q : Nat, s.heap.size ≤ q → A q := fun q h => by rw [← hAe]; exact Or.inr h
  have hS : va_S A s.heap s.heap [] := va_S.rf
  have hl := lv_entry ([.ref h7, .int (xs), .int (xw)]) (n := 3) (Nat.le_of_ble_eq_true rfl)
  rw [lg_entry_eq]
  generalize (lg_sl ([.ref h7, .int (xs), .int (xw)]) ++ List.replicate (3 - (lg_sl ([.ref h7, .int (xs), .int (xw)])).length) Slot.unset).toArray = ls at hl ⊢
  have hl : lv_has ls 3 [(0, .ref h7), (1, .int (xs)), (2, .int (xw))] := hl
  exact kj_X7_stuff_e hx hb hown hts hml hE hT hA (Nat.le_of_ble_eq_true rfl) (Nat.le_of_ble_eq_true rfl) ⟨Nat.le_of_ble_eq_true rfl, Nat.le_of_ble_eq_true rfl⟩ h7 xa ma pg pa Hway Hstate Hnext Hsteps Hwritten Pst Pce Pgi Pln Pbears Pcosts xs xw hKT Φ (fun r  H locs ls hw hP hD hS => W.iret (v := r) hx hb hr (fun t ht hW => ⟨⟨r, (), rfl, hw, by rw [ht]; exact hP, by rw [hAe]; exact hD⟩, by rw [hAe]; exact hS.F ht⟩) hS.2.2 dX7_stuff_18) (fun r  H locs ls hw hP hD hS => W.iret (v := r) hx hb hr (fun t ht hW => ⟨⟨r, (), rfl, hw, by rw [ht]; exact hP, by rw [hAe]; exact hD⟩, by rw [hAe]; exact hS.F ht⟩) hS.2.2 dX7_stuff_60) (fun r  H locs ls hw hP hD hS => W.iret (v := r) hx hb hr (fun t ht hW => ⟨⟨r, (), rfl, hw, by rw [ht]; exact hP, by rw [hAe]; exact hD⟩, by rw [hAe]; exact hS.F ht⟩) hS.2.2 dX7_stuff_73) (fun r  H locs ls hw hP hD hS => W.iret (v := r) hx hb hr (fun t ht hW => ⟨⟨r, (), rfl, hw, by rw [ht]; exact hP, by rw [hAe]; exact hD⟩, by rw [hAe]; exact hS.F ht⟩) hS.2.2 dX7_stuff_75)  _ _ _ hf hP hD hS hl

def wW_X7_line (ak : Nat → ClassId) (ad : Nat → Nat) (h7 : Nat) (xa : Nat → Nat) (ma : Nat → Nat) (pg : Nat) (Hway : Int32) (Hstate : Int32) (Hnext : Int32) (Hsteps : Int32) (Hwritten : Int32) (Hstuffs : Nat → Int32) (Htwins : Nat → Int32) (Hworn : Nat → Int32) : va_W := [(h7, .inr (6, wob xa )), ((xa 3), .inr (1, xob ma (pg) (Hway) (Hstate) (Hnext) (Hsteps) (Hwritten))), ((ma 0), .inl (ak 0, 16, .inl (Hstuffs))), ((ma 1), .inl (ak 0, 16, .inl (Htwins))), ((ma 2), .inl (ak 0, 16, .inl (Hworn)))]
def wK_X7_line (ak : Nat → ClassId) (ad : Nat → Nat) (pg : Nat) (pa : Nat → Nat) (Pst : Int32) (Pce : Int32) (Pgi : Int32) (Pln : Int32) (Pbears : Nat → Int32) (Pact : Nat → Int32) : va_W := [(pg, .inr (2, pob pa (Pst) (Pce) (Pgi) (Pln))), ((pa 0), .inl (ak 0, 4, .inl (Pbears))), ((pa 6), .inl (ak 0, 16, .inl (Pact)))]
def wp_X7_line (Hstuffs : Nat → Int32) (Htwins : Nat → Int32) (Hworn : Nat → Int32) (Pln : Int32) (Pbears : Nat → Int32) (Pact : Nat → Int32) (xl : Int32) (xw : Int32)  (Φ : Int32 → Prop) : Prop := wp_X7_within xl Pln (fun r_2 => (¬ r_2 = 0 → (xw = 0 → vp_in xl 16 ∧ Φ (Pact (xl).toNatClampNeg) ) ∧ (xw = 1 → vp_in xl 16 ∧ Φ (Hstuffs (xl).toNatClampNeg) ) ∧ (xw = 2 → vp_in xl 16 ∧ Φ (Htwins (xl).toNatClampNeg) ) ∧ (xw = 3 → wp_X1_bearing Hstuffs Htwins Pbears xl (fun r_8 => Φ r_8 )) ∧ (xw = 4 → vp_in xl 16 ∧ Φ (Hworn (xl).toNatClampNeg) ) ∧ (((xw : Int32).toInt < 0 ∨ 4 < (xw : Int32).toInt) → Φ (-1) )) ∧ (r_2 = 0 → Φ (-1) ))
set_option maxHeartbeats 4000000 in
set_option maxRecDepth 100000 in
theorem kj_X7_line_e {p : Program} {l : Launch} {e : Env} {R : Room} {s : State} {m : MethodId} {args : Array Value} {below : List Frame} {meth : Method} {c : Code} {cells slots : Nat} {Q : State → Prop} {A : Nat → Prop} {D : va_G} {ak : Nat → ClassId} {ad : Nat → Nat} (hx : p.tables.exec = Jvm.exec) (hb : c.code = cX7_line) (hown : s.vm.findClass RX7 = some m.cls) (hts : ∀ w ∈ wsX7_line, w.before args s = true) (hml : c.maxLocals = 3) (hE : EV D ak s) (hT : ST D ak ad A s s.heap) (hA : ∀ q, s.heap.size ≤ q → A q) (hRf : 1 ≤ R.frames) (hRl : 21 ≤ R.locals) (hRc : cells ≤ R.cells ∧ slots ≤ R.slots) (h7 : Nat) (xa : Nat → Nat) (ma : Nat → Nat) (pg : Nat) (pa : Nat → Nat) (Hway : Int32) (Hstate : Int32) (Hnext : Int32) (Hsteps : Int32) (Hwritten : Int32) (Hstuffs : Nat → Int32) (Htwins : Nat → Int32) (Hworn : Nat → Int32) (Pst : Int32) (Pce : Int32) (Pgi : Int32) (Pln : Int32) (Pbears : Nat → Int32) (Pact : Nat → Int32) (xl : Int32) (xw : Int32) (hKT : KT D A (wK_X7_line ak ad pg pa Pst Pce Pgi Pln Pbears Pact) s.heap)  (Φ : Int32 → Prop)
    (kR18 : ∀ (r : Int32)  (H : Heap) (locs : List Loc) (ls : Array Slot), Φ r  → va_P D vwCl (wW_X7_line ak ad h7 xa ma pg Hway Hstate Hnext Hsteps Hwritten Hstuffs Htwins Hworn) H → va_D A (wW_X7_line ak ad h7 xa ma pg Hway Hstate Hnext Hsteps Hwritten Hstuffs Htwins Hworn) → va_S A s.heap H locs → W p l e R s m args below meth c H locs cells slots Q (F0 m 18 ls [.int r]))
    (kR68 : ∀ (r : Int32)  (H : Heap) (locs : List Loc) (ls : Array Slot), Φ r  → va_P D vwCl (wW_X7_line ak ad h7 xa ma pg Hway Hstate Hnext Hsteps Hwritten Hstuffs Htwins Hworn) H → va_D A (wW_X7_line ak ad h7 xa ma pg Hway Hstate Hnext Hsteps Hwritten Hstuffs Htwins Hworn) → va_S A s.heap H locs → W p l e R s m args below meth c H locs cells slots Q (F0 m 68 ls [.int r]))
    (kR78 : ∀ (r : Int32)  (H : Heap) (locs : List Loc) (ls : Array Slot), Φ r  → va_P D vwCl (wW_X7_line ak ad h7 xa ma pg Hway Hstate Hnext Hsteps Hwritten Hstuffs Htwins Hworn) H → va_D A (wW_X7_line ak ad h7 xa ma pg Hway Hstate Hnext Hsteps Hwritten Hstuffs Htwins Hworn) → va_S A s.heap H locs → W p l e R s m args below meth c H locs cells slots Q (F0 m 78 ls [.int r]))
    (kR88 : ∀ (r : Int32)  (H : Heap) (locs : List Loc) (ls : Array Slot), Φ r  → va_P D vwCl (wW_X7_line ak ad h7 xa ma pg Hway Hstate Hnext Hsteps Hwritten Hstuffs Htwins Hworn) H → va_D A (wW_X7_line ak ad h7 xa ma pg Hway Hstate Hnext Hsteps Hwritten Hstuffs Htwins Hworn) → va_S A s.heap H locs → W p l e R s m args below meth c H locs cells slots Q (F0 m 88 ls [.int r]))
    (kR97 : ∀ (r : Int32)  (H : Heap) (locs : List Loc) (ls : Array Slot), Φ r  → va_P D vwCl (wW_X7_line ak ad h7 xa ma pg Hway Hstate Hnext Hsteps Hwritten Hstuffs Htwins Hworn) H → va_D A (wW_X7_line ak ad h7 xa ma pg Hway Hstate Hnext Hsteps Hwritten Hstuffs Htwins Hworn) → va_S A s.heap H locs → W p l e R s m args below meth c H locs cells slots Q (F0 m 97 ls [.int r]))
    (kR107 : ∀ (r : Int32)  (H : Heap) (locs : List Loc) (ls : Array Slot), Φ r  → va_P D vwCl (wW_X7_line ak ad h7 xa ma pg Hway Hstate Hnext Hsteps Hwritten Hstuffs Htwins Hworn) H → va_D A (wW_X7_line ak ad h7 xa ma pg Hway Hstate Hnext Hsteps Hwritten Hstuffs Htwins Hworn) → va_S A s.heap H locs → W p l e R s m args below meth c H locs cells slots Q (F0 m 107 ls [.int r]))
    (kR109 : ∀ (r : Int32)  (H : Heap) (locs : List Loc) (ls : Array Slot), Φ r  → va_P D vwCl (wW_X7_line ak ad h7 xa ma pg Hway Hstate Hnext Hsteps Hwritten Hstuffs Htwins Hworn) H → va_D A (wW_X7_line ak ad h7 xa ma pg Hway Hstate Hnext Hsteps Hwritten Hstuffs Htwins Hworn) → va_S A s.heap H locs → W p l e R s m args below meth c H locs cells slots Q (F0 m 109 ls [.int r]))
    : ∀  (H : Heap) (locs : List Loc) (ls : Array Slot), wp_X7_line Hstuffs Htwins Hworn Pln Pbears Pact xl xw  Φ → va_P D vwCl (wW_X7_line ak ad h7 xa ma pg Hway Hstate Hnext Hsteps Hwritten Hstuffs Htwins Hworn) H → va_D A (wW_X7_line ak ad h7 xa ma pg Hway Hstate Hnext Hsteps Hwritten Hstuffs Htwins Hworn) → va_S A s.heap H locs → lv_has ls 3 [(0, .ref h7), (1, .int (xl)), (2, .int (xw))] → W p l e R s m args below meth c H locs cells slots Q (F0 m 0 ls ([])) := by
  have hCW : ∀ {H : Heap} {locs : List Loc}, va_S A s.heap H locs → va_P D vwCl (wK_X7_line ak ad pg pa Pst Pce Pgi Pln Pbears Pact) H := fun hS => (hKT.kept hS.2.1).1
  intro  H locs ls hw hP hD hS hl
  delta wp_X7_line at hw
  refine lv_iload_n hx hb dX7_line_0 rfl (lv_at hl 1 rfl) ?_
  refine lv_aload_n hx hb dX7_line_1 rfl (lv_at hl 0 rfl) ?_
  refine vt_get (D := D) (ci := 6) (v := .ref (xa 3)) (C := RX7) (T := TX7) (N := 10) hx hb hts (fun w h => wm_c (wc_X7 w h)) hown hE.1 hP 0 rfl rfl 3 (by decide) tX7_3 (hts (.fieldLink RX7 37 "WornLines" "hand" "LWornLines$Machine;") (wm_c hw_540)) (fun _ h9 => h9) rfl dX7_line_2 ?_
  refine vt_get (D := D) (ci := 1) (v := .ref pg) (C := RX1) (T := TX1) (N := 12) hx hb hts (fun w h => wm_c (wc_X1 w h)) hown hE.1 hP 1 rfl rfl 0 (by decide) tX1_0 (hts (.fieldLink RX7 89 "WornLines$Machine" "programme" "LWornLines$Programme;") (wm_c hw_549)) (fun _ h9 => h9) rfl dX7_line_5 ?_
  refine vt_get (D := D) (ci := 2) (v := .int (Pln)) (C := RX2) (T := TX2) (N := 17) hx hb hts (fun w h => wm_c (wc_X2 w h)) hown hE.1 (hCW hS) 0 rfl rfl 9 (by decide) tX2_9 (hts (.fieldLink RX7 106 "WornLines$Programme" "lines" "I") (wm_c hw_553)) (fun _ h9 => h9) rfl dX7_line_8 ?_
  refine kc_i (wc := []) (wr := [(h7, .inr (6, wob xa )), ((xa 3), .inr (1, xob ma (pg) (Hway) (Hstate) (Hnext) (Hsteps) (Hwritten))), ((ma 0), .inl (ak 0, 16, .inl (Hstuffs))), ((ma 1), .inl (ak 0, 16, .inl (Htwins))), ((ma 2), .inl (ak 0, 16, .inl (Hworn)))]) hP hD hS hA [] [0, 1, 2, 3, 4] rfl rfl (by decide) (by decide) (va_runS (As := [.int (xl), .int (Pln)]) (rest := []) ⟨hx, hb, hml, hown, hts⟩ (c_X7_within l D ak ad _ xl Pln _ hw) (va_cwS 2 hts gX7_line_X7_within rfl rfl rfl hz_X7_within ⟨(Nat.le_trans (Nat.le_of_ble_eq_true rfl) hRf), (Nat.le_trans (Nat.le_of_ble_eq_true rfl) hRl)⟩) (kc_pre (As := [.int (xl), .int (Pln)]) (wc := []) hE hT hP hD hS hA [] (by decide) rfl rfl) rfl rfl hl.1 rfl (lv_room (Nat.le_of_ble_eq_true rfl)) dX7_line_11 ⟨hRc.1, hRc.2⟩) (fun r_2 u_1 H locs hw hP hD hS => ?_)
  try dsimp -zeta only at hw
  have hP : va_P D vwCl (wW_X7_line ak ad h7 xa ma pg Hway Hstate Hnext Hsteps Hwritten Hstuffs Htwins Hworn) H := hP.sub [0, 1, 2, 3, 4] rfl
  have hD : va_D A (wW_X7_line ak ad h7 xa ma pg Hway Hstate Hnext Hsteps Hwritten Hstuffs Htwins Hworn) := hD.sub [0, 1, 2, 3, 4] (by decide) rfl
  refine lv_if_ne (tgt := 19) hx hb dX7_line_14 (by decide) (fun c_3 => ?_) (fun c_3 => ?_)
  · replace hw := hw.1 c_3
    refine lv_iload_n hx hb dX7_line_19 rfl (lv_at hl 2 rfl) ?_
    by_cases k_20_0 : xw = (0 : Int32)
    · refine lv_tableIn (tgt := 56) hx hb dX7_line_20 (by rw [k_20_0]; decide) (by rw [k_20_0]; decide) (off := 36) (by rw [k_20_0]; rfl) (by decide) ?_
      replace hw := hw.1 k_20_0
      refine lv_aload_n hx hb dX7_line_56 rfl (lv_at hl 0 rfl) ?_
      refine vt_get (D := D) (ci := 6) (v := .ref (xa 3)) (C := RX7) (T := TX7) (N := 10) hx hb hts (fun w h => wm_c (wc_X7 w h)) hown hE.1 hP 0 rfl rfl 3 (by decide) tX7_3 (hts (.fieldLink RX7 37 "WornLines" "hand" "LWornLines$Machine;") (wm_c hw_540)) (fun _ h9 => h9) rfl dX7_line_57 ?_
      refine vt_get (D := D) (ci := 1) (v := .ref pg) (C := RX1) (T := TX1) (N := 12) hx hb hts (fun w h => wm_c (wc_X1 w h)) hown hE.1 hP 1 rfl rfl 0 (by decide) tX1_0 (hts (.fieldLink RX7 89 "WornLines$Machine" "programme" "LWornLines$Programme;") (wm_c hw_549)) (fun _ h9 => h9) rfl dX7_line_60 ?_
      refine vt_get (D := D) (ci := 2) (v := .ref (pa 6)) (C := RX2) (T := TX2) (N := 17) hx hb hts (fun w h => wm_c (wc_X2 w h)) hown hE.1 (hCW hS) 0 rfl rfl 10 (by decide) tX2_10 (hts (.fieldLink RX7 109 "WornLines$Programme" "act" "[I") (wm_c hw_554)) (fun _ h9 => h9) rfl dX7_line_63 ?_
      refine lv_iload_n hx hb dX7_line_66 rfl (lv_at hl 1 rfl) ?_
      obtain ⟨h_4, hw⟩ := hw
      refine va_iald hx hb hE.1 (hCW hS) 2 0 rfl rfl (h_4) dX7_line_67 ?_
      exact kR68 (Pact (xl).toNatClampNeg)  _ _ _ hw hP hD hS
    replace hw := hw.2
    by_cases k_20_1 : xw = (1 : Int32)
    · refine lv_tableIn (tgt := 69) hx hb dX7_line_20 (by rw [k_20_1]; decide) (by rw [k_20_1]; decide) (off := 49) (by rw [k_20_1]; rfl) (by decide) ?_
      replace hw := hw.1 k_20_1
      refine lv_aload_n hx hb dX7_line_69 rfl (lv_at hl 0 rfl) ?_
      refine vt_get (D := D) (ci := 6) (v := .ref (xa 3)) (C := RX7) (T := TX7) (N := 10) hx hb hts (fun w h => wm_c (wc_X7 w h)) hown hE.1 hP 0 rfl rfl 3 (by decide) tX7_3 (hts (.fieldLink RX7 37 "WornLines" "hand" "LWornLines$Machine;") (wm_c hw_540)) (fun _ h9 => h9) rfl dX7_line_70 ?_
      refine vt_get (D := D) (ci := 1) (v := .ref (ma 0)) (C := RX1) (T := TX1) (N := 12) hx hb hts (fun w h => wm_c (wc_X1 w h)) hown hE.1 hP 1 rfl rfl 1 (by decide) tX1_1 (hts (.fieldLink RX7 112 "WornLines$Machine" "stuffs" "[I") (wm_c hw_555)) (fun _ h9 => h9) rfl dX7_line_73 ?_
      refine lv_iload_n hx hb dX7_line_76 rfl (lv_at hl 1 rfl) ?_
      obtain ⟨h_5, hw⟩ := hw
      refine va_iald hx hb hE.1 hP 2 0 rfl rfl (h_5) dX7_line_77 ?_
      exact kR78 (Hstuffs (xl).toNatClampNeg)  _ _ _ hw hP hD hS
    replace hw := hw.2
    by_cases k_20_2 : xw = (2 : Int32)
    · refine lv_tableIn (tgt := 79) hx hb dX7_line_20 (by rw [k_20_2]; decide) (by rw [k_20_2]; decide) (off := 59) (by rw [k_20_2]; rfl) (by decide) ?_
      replace hw := hw.1 k_20_2
      refine lv_aload_n hx hb dX7_line_79 rfl (lv_at hl 0 rfl) ?_
      refine vt_get (D := D) (ci := 6) (v := .ref (xa 3)) (C := RX7) (T := TX7) (N := 10) hx hb hts (fun w h => wm_c (wc_X7 w h)) hown hE.1 hP 0 rfl rfl 3 (by decide) tX7_3 (hts (.fieldLink RX7 37 "WornLines" "hand" "LWornLines$Machine;") (wm_c hw_540)) (fun _ h9 => h9) rfl dX7_line_80 ?_
      refine vt_get (D := D) (ci := 1) (v := .ref (ma 1)) (C := RX1) (T := TX1) (N := 12) hx hb hts (fun w h => wm_c (wc_X1 w h)) hown hE.1 hP 1 rfl rfl 2 (by decide) tX1_2 (hts (.fieldLink RX7 114 "WornLines$Machine" "twins" "[I") (wm_c hw_556)) (fun _ h9 => h9) rfl dX7_line_83 ?_
      refine lv_iload_n hx hb dX7_line_86 rfl (lv_at hl 1 rfl) ?_
      obtain ⟨h_6, hw⟩ := hw
      refine va_iald hx hb hE.1 hP 3 0 rfl rfl (h_6) dX7_line_87 ?_
      exact kR88 (Htwins (xl).toNatClampNeg)  _ _ _ hw hP hD hS
    replace hw := hw.2
    by_cases k_20_3 : xw = (3 : Int32)
    · refine lv_tableIn (tgt := 89) hx hb dX7_line_20 (by rw [k_20_3]; decide) (by rw [k_20_3]; decide) (off := 69) (by rw [k_20_3]; rfl) (by decide) ?_
      replace hw := hw.1 k_20_3
      refine lv_aload_n hx hb dX7_line_89 rfl (lv_at hl 0 rfl) ?_
      refine vt_get (D := D) (ci := 6) (v := .ref (xa 3)) (C := RX7) (T := TX7) (N := 10) hx hb hts (fun w h => wm_c (wc_X7 w h)) hown hE.1 hP 0 rfl rfl 3 (by decide) tX7_3 (hts (.fieldLink RX7 37 "WornLines" "hand" "LWornLines$Machine;") (wm_c hw_540)) (fun _ h9 => h9) rfl dX7_line_90 ?_
      refine lv_iload_n hx hb dX7_line_93 rfl (lv_at hl 1 rfl) ?_
      refine kc_i (wc := (wW_X1_bearing ak ad (xa 3) ma pg Hway Hstate Hnext Hsteps Hwritten Hstuffs Htwins)) (wr := [(h7, .inr (6, wob xa )), ((ma 2), .inl (ak 0, 16, .inl (Hworn)))]) hP hD hS hA [1, 2, 3] [0, 4] rfl rfl (by decide) (by decide) (va_runV (As := [.int (xl)]) (rest := []) ⟨hx, hb, hml, hown, hts⟩ (c_X1_bearing l D ak ad _ (xa 3) ma pg pa Hway Hstate Hnext Hsteps Hwritten Hstuffs Htwins Pst Pce Pgi Pln Pbears xl _ hw) (cwV 1 hts gX7_line_X1_bearing rfl rfl rfl hv_X1_bearing ⟨(Nat.le_trans (Nat.le_of_ble_eq_true rfl) hRf), (Nat.le_trans (Nat.le_of_ble_eq_true rfl) hRl)⟩) (kc_preVK (As := [.int (xl)]) (wc := (wW_X1_bearing ak ad (xa 3) ma pg Hway Hstate Hnext Hsteps Hwritten Hstuffs Htwins)) (ck := (wK_X1_bearing ak ad pg pa Pst Pce Pgi Pln Pbears)) hKT hE hT hP hD hS hA [1, 2, 3] [0, 1] (by decide) rfl rfl rfl hP 1 1 rfl rfl rfl) rfl rfl hl.1 rfl (lv_room (Nat.le_of_ble_eq_true rfl)) dX7_line_94 ⟨hRc.1, hRc.2⟩) (fun r_8 u_7 H locs hw hP hD hS => ?_)
      try dsimp -zeta only at hw
      have hP : va_P D vwCl (wW_X7_line ak ad h7 xa ma pg Hway Hstate Hnext Hsteps Hwritten Hstuffs Htwins Hworn) H := hP.sub [0, 2, 3, 4, 1] rfl
      have hD : va_D A (wW_X7_line ak ad h7 xa ma pg Hway Hstate Hnext Hsteps Hwritten Hstuffs Htwins Hworn) := hD.sub [0, 2, 3, 4, 1] (by decide) rfl
      exact kR97 r_8  _ _ _ hw hP hD hS
    replace hw := hw.2
    by_cases k_20_4 : xw = (4 : Int32)
    · refine lv_tableIn (tgt := 98) hx hb dX7_line_20 (by rw [k_20_4]; decide) (by rw [k_20_4]; decide) (off := 78) (by rw [k_20_4]; rfl) (by decide) ?_
      replace hw := hw.1 k_20_4
      refine lv_aload_n hx hb dX7_line_98 rfl (lv_at hl 0 rfl) ?_
      refine vt_get (D := D) (ci := 6) (v := .ref (xa 3)) (C := RX7) (T := TX7) (N := 10) hx hb hts (fun w h => wm_c (wc_X7 w h)) hown hE.1 hP 0 rfl rfl 3 (by decide) tX7_3 (hts (.fieldLink RX7 37 "WornLines" "hand" "LWornLines$Machine;") (wm_c hw_540)) (fun _ h9 => h9) rfl dX7_line_99 ?_
      refine vt_get (D := D) (ci := 1) (v := .ref (ma 2)) (C := RX1) (T := TX1) (N := 12) hx hb hts (fun w h => wm_c (wc_X1 w h)) hown hE.1 hP 1 rfl rfl 3 (by decide) tX1_3 (hts (.fieldLink RX7 121 "WornLines$Machine" "worn" "[I") (wm_c hw_557)) (fun _ h9 => h9) rfl dX7_line_102 ?_
      refine lv_iload_n hx hb dX7_line_105 rfl (lv_at hl 1 rfl) ?_
      obtain ⟨h_9, hw⟩ := hw
      refine va_iald hx hb hE.1 hP 4 0 rfl rfl (h_9) dX7_line_106 ?_
      exact kR107 (Hworn (xl).toNatClampNeg)  _ _ _ hw hP hD hS
    replace hw := hw.2
    have hout : (xw : Int32).toInt < 0 ∨ 4 < (xw : Int32).toInt := tsw_out _ 0 4 (by intro j h1 h2; have hj : j = 0 ∨ j = 1 ∨ j = 2 ∨ j = 3 ∨ j = 4 := (by omega); rcases hj with rfl | rfl | rfl | rfl | rfl <;> first | exact lv_neT k_20_0 rfl | exact lv_neT k_20_1 rfl | exact lv_neT k_20_2 rfl | exact lv_neT k_20_3 rfl | exact lv_neT k_20_4 rfl)
    refine lv_tableOut (tgt := 108) hx hb dX7_line_20 hout (by decide) ?_
    replace hw := hw hout
    refine lv_iconst (v := (-1)) hx hb dX7_line_108 (by decide) ?_
    exact kR109 (-1)  _ _ _ hw hP hD hS
  · replace hw := hw.2 c_3
    refine lv_iconst (v := (-1)) hx hb dX7_line_17 (by decide) ?_
    exact kR18 (-1)  _ _ _ hw hP hD hS
set_option maxHeartbeats 4000000 in
set_option maxRecDepth 100000 in
theorem c_X7_line (l : Launch) (D : va_G) (ak : Nat → ClassId) (ad : Nat → Nat) (sz : Nat) (h7 : Nat) (xa : Nat → Nat) (ma : Nat → Nat) (pg : Nat) (pa : Nat → Nat) (Hway : Int32) (Hstate : Int32) (Hnext : Int32) (Hsteps : Int32) (Hwritten : Int32) (Hstuffs : Nat → Int32) (Htwins : Nat → Int32) (Hworn : Nat → Int32) (Pst : Int32) (Pce : Int32) (Pgi : Int32) (Pln : Int32) (Pbears : Nat → Int32) (Pact : Nat → Int32) (xl : Int32) (xw : Int32) (Φ : Int32 → Prop) (hf : wp_X7_line Hstuffs Htwins Hworn Pln Pbears Pact xl xw Φ) : Met l yX7_line wsX7_line ({ frames := 1, cells := 0, slots := 0, locals := 21 }) (cPreK D ak ad [.ref h7, .int (xl), .int (xw)] ((wW_X7_line ak ad h7 xa ma pg Hway Hstate Hnext Hsteps Hwritten Hstuffs Htwins Hworn)) sz ((wK_X7_line ak ad pg pa Pst Pce Pgi Pln Pbears Pact))) (cI D (S := Unit) (fun (r : Int32) (u : Unit) => Φ r ) (fun u => (wW_X7_line ak ad h7 xa ma pg Hway Hstate Hnext Hsteps Hwritten Hstuffs Htwins Hworn)) ((wW_X7_line ak ad h7 xa ma pg Hway Hstate Hnext Hsteps Hwritten Hstuffs Htwins Hworn)) sz) 0 0 (va_A ((wW_X7_line ak ad h7 xa ma pg Hway Hstate Hnext Hsteps Hwritten Hstuffs Htwins Hworn)) sz) := by
  refine Met.ofW (cc := cX7_line) (maxL := 3) (ret := (some .int)) (by decide) rfl ?_
  intro p e s m args below meth c s₁ B hml hv
  obtain ⟨⟨rfl, hsz, hP, hE, hD0, hT⟩, hKT⟩ := hv
  have hx := B.exec
  have hb := B.bytes
  have hr := B.returns
  have hts := atoms_spec (ws := wsX7_line) B.pre
  have hown : s.vm.findClass RX7 = some m.cls := findClass_of_methodNamed B.named
  have hlocks := B.notSynchronized
  subst hsz
  have hD := hD0.self (sz := s.heap.size)
  generalize hAe : va_A ((wW_X7_line ak ad h7 xa ma pg Hway Hstate Hnext Hsteps Hwritten Hstuffs Htwins Hworn)) s.heap.size = A at hD hT hKT ⊢
  have hA : ∀ q : Nat, s.heap.size ≤ q → A q := fun q h => by rw [← hAe]; exact Or.inr h
  have hS : va_S A s.heap s.heap [] := va_S.rf
  have hl := lv_entry ([.ref h7, .int (xl), .int (xw)]) (n := 3) (Nat.le_of_ble_eq_true rfl)
  rw [lg_entry_eq]
  generalize (lg_sl ([.ref h7, .int (xl), .int (xw)]) ++ List.replicate (3 - (lg_sl ([.ref h7, .int (xl), .int (xw)])).length) Slot.unset).toArray = ls at hl ⊢
  have hl : lv_has ls 3 [(0, .ref h7), (1, .int (xl)), (2, .int (xw))] := hl
  exact kj_X7_line_e hx hb hown hts hml hE hT hA (Nat.le_of_ble_eq_true rfl) (Nat.le_of_ble_eq_true rfl) ⟨Nat.le_of_ble_eq_true rfl, Nat.le_of_ble_eq_true rfl⟩ h7 xa ma pg pa Hway Hstate Hnext Hsteps Hwritten Hstuffs Htwins Hworn Pst Pce Pgi Pln Pbears Pact xl xw hKT Φ (fun r  H locs ls hw hP hD hS => W.iret (v := r) hx hb hr (fun t ht hW => ⟨⟨r, (), rfl, hw, by rw [ht]; exact hP, by rw [hAe]; exact hD⟩, by rw [hAe]; exact hS.F ht⟩) hS.2.2 dX7_line_18) (fun r  H locs ls hw hP hD hS => W.iret (v := r) hx hb hr (fun t ht hW => ⟨⟨r, (), rfl, hw, by rw [ht]; exact hP, by rw [hAe]; exact hD⟩, by rw [hAe]; exact hS.F ht⟩) hS.2.2 dX7_line_68) (fun r  H locs ls hw hP hD hS => W.iret (v := r) hx hb hr (fun t ht hW => ⟨⟨r, (), rfl, hw, by rw [ht]; exact hP, by rw [hAe]; exact hD⟩, by rw [hAe]; exact hS.F ht⟩) hS.2.2 dX7_line_78) (fun r  H locs ls hw hP hD hS => W.iret (v := r) hx hb hr (fun t ht hW => ⟨⟨r, (), rfl, hw, by rw [ht]; exact hP, by rw [hAe]; exact hD⟩, by rw [hAe]; exact hS.F ht⟩) hS.2.2 dX7_line_88) (fun r  H locs ls hw hP hD hS => W.iret (v := r) hx hb hr (fun t ht hW => ⟨⟨r, (), rfl, hw, by rw [ht]; exact hP, by rw [hAe]; exact hD⟩, by rw [hAe]; exact hS.F ht⟩) hS.2.2 dX7_line_97) (fun r  H locs ls hw hP hD hS => W.iret (v := r) hx hb hr (fun t ht hW => ⟨⟨r, (), rfl, hw, by rw [ht]; exact hP, by rw [hAe]; exact hD⟩, by rw [hAe]; exact hS.F ht⟩) hS.2.2 dX7_line_107) (fun r  H locs ls hw hP hD hS => W.iret (v := r) hx hb hr (fun t ht hW => ⟨⟨r, (), rfl, hw, by rw [ht]; exact hP, by rw [hAe]; exact hD⟩, by rw [hAe]; exact hS.F ht⟩) hS.2.2 dX7_line_109)  _ _ _ hf hP hD hS hl

def wW_X7_lay (ak : Nat → ClassId) (ad : Nat → Nat) (h7 : Nat) (xa : Nat → Nat) (ma : Nat → Nat) (pg : Nat) (Hway : Int32) (Hstate : Int32) (Hnext : Int32) (Hsteps : Int32) (Hwritten : Int32) (Hstuffs : Nat → Int32) (Htwins : Nat → Int32) (Hworn : Nat → Int32) : va_W := [(h7, .inr (6, wob xa )), ((xa 3), .inr (1, xob ma (pg) (Hway) (Hstate) (Hnext) (Hsteps) (Hwritten))), ((ma 0), .inl (ak 0, 16, .inl (Hstuffs))), ((ma 1), .inl (ak 0, 16, .inl (Htwins))), ((ma 2), .inl (ak 0, 16, .inl (Hworn)))]
def wK_X7_lay (ak : Nat → ClassId) (ad : Nat → Nat) (pg : Nat) (pa : Nat → Nat) (Pst : Int32) (Pce : Int32) (Pgi : Int32) (Pln : Int32) : va_W := [(pg, .inr (2, pob pa (Pst) (Pce) (Pgi) (Pln)))]
def wp_X7_lay (Pst : Int32) (Pln : Int32) (xl : Int32) (xs : Int32) (xt : Int32) (Hstuffs : Nat → Int32) (Htwins : Nat → Int32) (Hworn : Nat → Int32) (Φ : Int32 → (Nat → Int32) → (Nat → Int32) → (Nat → Int32) → Prop) : Prop := wp_X7_within xl Pln (fun r_2 => (r_2 = 0 → Φ 0 Hstuffs Htwins Hworn) ∧ (¬ r_2 = 0 → wp_X7_within xs Pst (fun r_5 => (r_5 = 0 → Φ 0 Hstuffs Htwins Hworn) ∧ (¬ r_5 = 0 → (xt < 1 → Φ 0 Hstuffs Htwins Hworn) ∧ (¬ xt < 1 → (xt ≤ 4 → vp_in xl 16 ∧ vp_in xl 16 ∧ vp_in xl 16 ∧ Φ 1 (upd Hstuffs (xl).toNatClampNeg xs) (upd Htwins (xl).toNatClampNeg xt) (upd Hworn (xl).toNatClampNeg 0)) ∧ (¬ xt ≤ 4 → Φ 0 Hstuffs Htwins Hworn))))))
set_option maxHeartbeats 4000000 in
set_option maxRecDepth 100000 in
theorem kj_X7_lay_e {p : Program} {l : Launch} {e : Env} {R : Room} {s : State} {m : MethodId} {args : Array Value} {below : List Frame} {meth : Method} {c : Code} {cells slots : Nat} {Q : State → Prop} {A : Nat → Prop} {D : va_G} {ak : Nat → ClassId} {ad : Nat → Nat} (hx : p.tables.exec = Jvm.exec) (hb : c.code = cX7_lay) (hown : s.vm.findClass RX7 = some m.cls) (hts : ∀ w ∈ wsX7_lay, w.before args s = true) (hml : c.maxLocals = 4) (hE : EV D ak s) (hT : ST D ak ad A s s.heap) (hA : ∀ q, s.heap.size ≤ q → A q) (hRf : 1 ≤ R.frames) (hRl : 21 ≤ R.locals) (hRc : cells ≤ R.cells ∧ slots ≤ R.slots) (h7 : Nat) (xa : Nat → Nat) (ma : Nat → Nat) (pg : Nat) (pa : Nat → Nat) (Hway : Int32) (Hstate : Int32) (Hnext : Int32) (Hsteps : Int32) (Hwritten : Int32) (Pst : Int32) (Pce : Int32) (Pgi : Int32) (Pln : Int32) (xl : Int32) (xs : Int32) (xt : Int32) (hKT : KT D A (wK_X7_lay ak ad pg pa Pst Pce Pgi Pln) s.heap)  (Φ : Int32 → (Nat → Int32) → (Nat → Int32) → (Nat → Int32) → Prop)
    (kR45 : ∀ (r : Int32) (Hstuffs : Nat → Int32) (Htwins : Nat → Int32) (Hworn : Nat → Int32) (H : Heap) (locs : List Loc) (ls : Array Slot), (r = 0 ∨ r = 1) → Φ r Hstuffs Htwins Hworn → va_P D vwCl (wW_X7_lay ak ad h7 xa ma pg Hway Hstate Hnext Hsteps Hwritten Hstuffs Htwins Hworn) H → va_D A (wW_X7_lay ak ad h7 xa ma pg Hway Hstate Hnext Hsteps Hwritten Hstuffs Htwins Hworn) → va_S A s.heap H locs → W p l e R s m args below meth c H locs cells slots Q (F0 m 45 ls [.int r]))
    (kR77 : ∀ (r : Int32) (Hstuffs : Nat → Int32) (Htwins : Nat → Int32) (Hworn : Nat → Int32) (H : Heap) (locs : List Loc) (ls : Array Slot), (r = 0 ∨ r = 1) → Φ r Hstuffs Htwins Hworn → va_P D vwCl (wW_X7_lay ak ad h7 xa ma pg Hway Hstate Hnext Hsteps Hwritten Hstuffs Htwins Hworn) H → va_D A (wW_X7_lay ak ad h7 xa ma pg Hway Hstate Hnext Hsteps Hwritten Hstuffs Htwins Hworn) → va_S A s.heap H locs → W p l e R s m args below meth c H locs cells slots Q (F0 m 77 ls [.int r]))
    : ∀ (Hstuffs : Nat → Int32) (Htwins : Nat → Int32) (Hworn : Nat → Int32) (H : Heap) (locs : List Loc) (ls : Array Slot), wp_X7_lay Pst Pln xl xs xt Hstuffs Htwins Hworn Φ → va_P D vwCl (wW_X7_lay ak ad h7 xa ma pg Hway Hstate Hnext Hsteps Hwritten Hstuffs Htwins Hworn) H → va_D A (wW_X7_lay ak ad h7 xa ma pg Hway Hstate Hnext Hsteps Hwritten Hstuffs Htwins Hworn) → va_S A s.heap H locs → lv_has ls 4 [(0, .ref h7), (1, .int (xl)), (2, .int (xs)), (3, .int (xt))] → W p l e R s m args below meth c H locs cells slots Q (F0 m 0 ls ([])) := by
  have hCW : ∀ {H : Heap} {locs : List Loc}, va_S A s.heap H locs → va_P D vwCl (wK_X7_lay ak ad pg pa Pst Pce Pgi Pln) H := fun hS => (hKT.kept hS.2.1).1
  intro Hstuffs Htwins Hworn H locs ls hw hP hD hS hl
  delta wp_X7_lay at hw
  refine lv_iload_n hx hb dX7_lay_0 rfl (lv_at hl 1 rfl) ?_
  refine lv_aload_n hx hb dX7_lay_1 rfl (lv_at hl 0 rfl) ?_
  refine vt_get (D := D) (ci := 6) (v := .ref (xa 3)) (C := RX7) (T := TX7) (N := 10) hx hb hts (fun w h => wm_c (wc_X7 w h)) hown hE.1 hP 0 rfl rfl 3 (by decide) tX7_3 (hts (.fieldLink RX7 37 "WornLines" "hand" "LWornLines$Machine;") (wm_c hw_540)) (fun _ h9 => h9) rfl dX7_lay_2 ?_
  refine vt_get (D := D) (ci := 1) (v := .ref pg) (C := RX1) (T := TX1) (N := 12) hx hb hts (fun w h => wm_c (wc_X1 w h)) hown hE.1 hP 1 rfl rfl 0 (by decide) tX1_0 (hts (.fieldLink RX7 89 "WornLines$Machine" "programme" "LWornLines$Programme;") (wm_c hw_549)) (fun _ h9 => h9) rfl dX7_lay_5 ?_
  refine vt_get (D := D) (ci := 2) (v := .int (Pln)) (C := RX2) (T := TX2) (N := 17) hx hb hts (fun w h => wm_c (wc_X2 w h)) hown hE.1 (hCW hS) 0 rfl rfl 9 (by decide) tX2_9 (hts (.fieldLink RX7 106 "WornLines$Programme" "lines" "I") (wm_c hw_553)) (fun _ h9 => h9) rfl dX7_lay_8 ?_
  refine kc_i (wc := []) (wr := [(h7, .inr (6, wob xa )), ((xa 3), .inr (1, xob ma (pg) (Hway) (Hstate) (Hnext) (Hsteps) (Hwritten))), ((ma 0), .inl (ak 0, 16, .inl (Hstuffs))), ((ma 1), .inl (ak 0, 16, .inl (Htwins))), ((ma 2), .inl (ak 0, 16, .inl (Hworn)))]) hP hD hS hA [] [0, 1, 2, 3, 4] rfl rfl (by decide) (by decide) (va_runS (As := [.int (xl), .int (Pln)]) (rest := []) ⟨hx, hb, hml, hown, hts⟩ (c_X7_within l D ak ad _ xl Pln _ hw) (va_cwS 2 hts gX7_lay_X7_within rfl rfl rfl hz_X7_within ⟨(Nat.le_trans (Nat.le_of_ble_eq_true rfl) hRf), (Nat.le_trans (Nat.le_of_ble_eq_true rfl) hRl)⟩) (kc_pre (As := [.int (xl), .int (Pln)]) (wc := []) hE hT hP hD hS hA [] (by decide) rfl rfl) rfl rfl hl.1 rfl (lv_room (Nat.le_of_ble_eq_true rfl)) dX7_lay_11 ⟨hRc.1, hRc.2⟩) (fun r_2 u_1 H locs hw hP hD hS => ?_)
  try dsimp -zeta only at hw
  have hP : va_P D vwCl (wW_X7_lay ak ad h7 xa ma pg Hway Hstate Hnext Hsteps Hwritten Hstuffs Htwins Hworn) H := hP.sub [0, 1, 2, 3, 4] rfl
  have hD : va_D A (wW_X7_lay ak ad h7 xa ma pg Hway Hstate Hnext Hsteps Hwritten Hstuffs Htwins Hworn) := hD.sub [0, 1, 2, 3, 4] (by decide) rfl
  refine lv_if_eq (tgt := 44) hx hb dX7_lay_14 (by decide) (fun c_3 => ?_) (fun c_3 => ?_)
  · replace hw := hw.1 c_3
    refine lv_iconst (v := 0) hx hb dX7_lay_44 (by decide) ?_
    exact kR45 0 Hstuffs Htwins Hworn _ _ _ (Or.inl rfl) hw hP hD hS
  · replace hw := hw.2 c_3
    refine lv_iload_n hx hb dX7_lay_17 rfl (lv_at hl 2 rfl) ?_
    refine lv_aload_n hx hb dX7_lay_18 rfl (lv_at hl 0 rfl) ?_
    refine vt_get (D := D) (ci := 6) (v := .ref (xa 3)) (C := RX7) (T := TX7) (N := 10) hx hb hts (fun w h => wm_c (wc_X7 w h)) hown hE.1 hP 0 rfl rfl 3 (by decide) tX7_3 (hts (.fieldLink RX7 37 "WornLines" "hand" "LWornLines$Machine;") (wm_c hw_540)) (fun _ h9 => h9) rfl dX7_lay_19 ?_
    refine vt_get (D := D) (ci := 1) (v := .ref pg) (C := RX1) (T := TX1) (N := 12) hx hb hts (fun w h => wm_c (wc_X1 w h)) hown hE.1 hP 1 rfl rfl 0 (by decide) tX1_0 (hts (.fieldLink RX7 89 "WornLines$Machine" "programme" "LWornLines$Programme;") (wm_c hw_549)) (fun _ h9 => h9) rfl dX7_lay_22 ?_
    refine vt_get (D := D) (ci := 2) (v := .int (Pst)) (C := RX2) (T := TX2) (N := 17) hx hb hts (fun w h => wm_c (wc_X2 w h)) hown hE.1 (hCW hS) 0 rfl rfl 0 (by decide) tX2_0 (hts (.fieldLink RX7 92 "WornLines$Programme" "stuffs" "I") (wm_c hw_550)) (fun _ h9 => h9) rfl dX7_lay_25 ?_
    refine kc_i (wc := []) (wr := [(h7, .inr (6, wob xa )), ((xa 3), .inr (1, xob ma (pg) (Hway) (Hstate) (Hnext) (Hsteps) (Hwritten))), ((ma 0), .inl (ak 0, 16, .inl (Hstuffs))), ((ma 1), .inl (ak 0, 16, .inl (Htwins))), ((ma 2), .inl (ak 0, 16, .inl (Hworn)))]) hP hD hS hA [] [0, 1, 2, 3, 4] rfl rfl (by decide) (by decide) (va_runS (As := [.int (xs), .int (Pst)]) (rest := []) ⟨hx, hb, hml, hown, hts⟩ (c_X7_within l D ak ad _ xs Pst _ hw) (va_cwS 2 hts gX7_lay_X7_within rfl rfl rfl hz_X7_within ⟨(Nat.le_trans (Nat.le_of_ble_eq_true rfl) hRf), (Nat.le_trans (Nat.le_of_ble_eq_true rfl) hRl)⟩) (kc_pre (As := [.int (xs), .int (Pst)]) (wc := []) hE hT hP hD hS hA [] (by decide) rfl rfl) rfl rfl hl.1 rfl (lv_room (Nat.le_of_ble_eq_true rfl)) dX7_lay_28 ⟨hRc.1, hRc.2⟩) (fun r_5 u_4 H locs hw hP hD hS => ?_)
    try dsimp -zeta only at hw
    have hP : va_P D vwCl (wW_X7_lay ak ad h7 xa ma pg Hway Hstate Hnext Hsteps Hwritten Hstuffs Htwins Hworn) H := hP.sub [0, 1, 2, 3, 4] rfl
    have hD : va_D A (wW_X7_lay ak ad h7 xa ma pg Hway Hstate Hnext Hsteps Hwritten Hstuffs Htwins Hworn) := hD.sub [0, 1, 2, 3, 4] (by decide) rfl
    refine lv_if_eq (tgt := 44) hx hb dX7_lay_31 (by decide) (fun c_6 => ?_) (fun c_6 => ?_)
    · replace hw := hw.1 c_6
      refine lv_iconst (v := 0) hx hb dX7_lay_44 (by decide) ?_
      exact kR45 0 Hstuffs Htwins Hworn _ _ _ (Or.inl rfl) hw hP hD hS
    · replace hw := hw.2 c_6
      refine lv_iload_n hx hb dX7_lay_34 rfl (lv_at hl 3 rfl) ?_
      refine lv_iconst (v := 1) hx hb dX7_lay_35 (by decide) ?_
      refine lv_icmp_lt (tgt := 44) hx hb dX7_lay_36 (by decide) (fun c_7 => ?_) (fun c_7 => ?_)
      · replace hw := hw.1 c_7
        refine lv_iconst (v := 0) hx hb dX7_lay_44 (by decide) ?_
        exact kR45 0 Hstuffs Htwins Hworn _ _ _ (Or.inl rfl) hw hP hD hS
      · replace hw := hw.2 c_7
        refine lv_iload_n hx hb dX7_lay_39 rfl (lv_at hl 3 rfl) ?_
        refine lv_iconst (v := 4) hx hb dX7_lay_40 (by decide) ?_
        refine lv_icmp_le (tgt := 46) hx hb dX7_lay_41 (by decide) (fun c_8 => ?_) (fun c_8 => ?_)
        · replace hw := hw.1 c_8
          refine lv_aload_n hx hb dX7_lay_46 rfl (lv_at hl 0 rfl) ?_
          refine vt_get (D := D) (ci := 6) (v := .ref (xa 3)) (C := RX7) (T := TX7) (N := 10) hx hb hts (fun w h => wm_c (wc_X7 w h)) hown hE.1 hP 0 rfl rfl 3 (by decide) tX7_3 (hts (.fieldLink RX7 37 "WornLines" "hand" "LWornLines$Machine;") (wm_c hw_540)) (fun _ h9 => h9) rfl dX7_lay_47 ?_
          refine vt_get (D := D) (ci := 1) (v := .ref (ma 0)) (C := RX1) (T := TX1) (N := 12) hx hb hts (fun w h => wm_c (wc_X1 w h)) hown hE.1 hP 1 rfl rfl 1 (by decide) tX1_1 (hts (.fieldLink RX7 112 "WornLines$Machine" "stuffs" "[I") (wm_c hw_555)) (fun _ h9 => h9) rfl dX7_lay_50 ?_
          refine lv_iload_n hx hb dX7_lay_53 rfl (lv_at hl 1 rfl) ?_
          refine lv_iload_n hx hb dX7_lay_54 rfl (lv_at hl 2 rfl) ?_
          obtain ⟨h_9, hw⟩ := hw
          refine va_iast hx hb hE.1 hP hD hS 2 0 rfl rfl (h_9) dX7_lay_55 (fun H locs hP hD hS => ?_)
          have hP : va_P D vwCl (wW_X7_lay ak ad h7 xa ma pg Hway Hstate Hnext Hsteps Hwritten (upd Hstuffs (xl).toNatClampNeg xs) Htwins Hworn) H := hP
          have hD : va_D A (wW_X7_lay ak ad h7 xa ma pg Hway Hstate Hnext Hsteps Hwritten (upd Hstuffs (xl).toNatClampNeg xs) Htwins Hworn) := hD
          refine lv_aload_n hx hb dX7_lay_56 rfl (lv_at hl 0 rfl) ?_
          refine vt_get (D := D) (ci := 6) (v := .ref (xa 3)) (C := RX7) (T := TX7) (N := 10) hx hb hts (fun w h => wm_c (wc_X7 w h)) hown hE.1 hP 0 rfl rfl 3 (by decide) tX7_3 (hts (.fieldLink RX7 37 "WornLines" "hand" "LWornLines$Machine;") (wm_c hw_540)) (fun _ h9 => h9) rfl dX7_lay_57 ?_
          refine vt_get (D := D) (ci := 1) (v := .ref (ma 1)) (C := RX1) (T := TX1) (N := 12) hx hb hts (fun w h => wm_c (wc_X1 w h)) hown hE.1 hP 1 rfl rfl 2 (by decide) tX1_2 (hts (.fieldLink RX7 114 "WornLines$Machine" "twins" "[I") (wm_c hw_556)) (fun _ h9 => h9) rfl dX7_lay_60 ?_
          refine lv_iload_n hx hb dX7_lay_63 rfl (lv_at hl 1 rfl) ?_
          refine lv_iload_n hx hb dX7_lay_64 rfl (lv_at hl 3 rfl) ?_
          obtain ⟨h_10, hw⟩ := hw
          refine va_iast hx hb hE.1 hP hD hS 3 0 rfl rfl (h_10) dX7_lay_65 (fun H locs hP hD hS => ?_)
          have hP : va_P D vwCl (wW_X7_lay ak ad h7 xa ma pg Hway Hstate Hnext Hsteps Hwritten (upd Hstuffs (xl).toNatClampNeg xs) (upd Htwins (xl).toNatClampNeg xt) Hworn) H := hP
          have hD : va_D A (wW_X7_lay ak ad h7 xa ma pg Hway Hstate Hnext Hsteps Hwritten (upd Hstuffs (xl).toNatClampNeg xs) (upd Htwins (xl).toNatClampNeg xt) Hworn) := hD
          refine lv_aload_n hx hb dX7_lay_66 rfl (lv_at hl 0 rfl) ?_
          refine vt_get (D := D) (ci := 6) (v := .ref (xa 3)) (C := RX7) (T := TX7) (N := 10) hx hb hts (fun w h => wm_c (wc_X7 w h)) hown hE.1 hP 0 rfl rfl 3 (by decide) tX7_3 (hts (.fieldLink RX7 37 "WornLines" "hand" "LWornLines$Machine;") (wm_c hw_540)) (fun _ h9 => h9) rfl dX7_lay_67 ?_
          refine vt_get (D := D) (ci := 1) (v := .ref (ma 2)) (C := RX1) (T := TX1) (N := 12) hx hb hts (fun w h => wm_c (wc_X1 w h)) hown hE.1 hP 1 rfl rfl 3 (by decide) tX1_3 (hts (.fieldLink RX7 121 "WornLines$Machine" "worn" "[I") (wm_c hw_557)) (fun _ h9 => h9) rfl dX7_lay_70 ?_
          refine lv_iload_n hx hb dX7_lay_73 rfl (lv_at hl 1 rfl) ?_
          refine lv_iconst (v := 0) hx hb dX7_lay_74 (by decide) ?_
          obtain ⟨h_11, hw⟩ := hw
          refine va_iast hx hb hE.1 hP hD hS 4 0 rfl rfl (h_11) dX7_lay_75 (fun H locs hP hD hS => ?_)
          have hP : va_P D vwCl (wW_X7_lay ak ad h7 xa ma pg Hway Hstate Hnext Hsteps Hwritten (upd Hstuffs (xl).toNatClampNeg xs) (upd Htwins (xl).toNatClampNeg xt) (upd Hworn (xl).toNatClampNeg 0)) H := hP
          have hD : va_D A (wW_X7_lay ak ad h7 xa ma pg Hway Hstate Hnext Hsteps Hwritten (upd Hstuffs (xl).toNatClampNeg xs) (upd Htwins (xl).toNatClampNeg xt) (upd Hworn (xl).toNatClampNeg 0)) := hD
          refine lv_iconst (v := 1) hx hb dX7_lay_76 (by decide) ?_
          exact kR77 1 (upd Hstuffs (xl).toNatClampNeg xs) (upd Htwins (xl).toNatClampNeg xt) (upd Hworn (xl).toNatClampNeg 0) _ _ _ (Or.inr rfl) hw hP hD hS
        · replace hw := hw.2 c_8
          refine lv_iconst (v := 0) hx hb dX7_lay_44 (by decide) ?_
          exact kR45 0 Hstuffs Htwins Hworn _ _ _ (Or.inl rfl) hw hP hD hS
set_option maxHeartbeats 4000000 in
set_option maxRecDepth 100000 in
theorem c_X7_lay (l : Launch) (D : va_G) (ak : Nat → ClassId) (ad : Nat → Nat) (sz : Nat) (h7 : Nat) (xa : Nat → Nat) (ma : Nat → Nat) (pg : Nat) (pa : Nat → Nat) (Hway : Int32) (Hstate : Int32) (Hnext : Int32) (Hsteps : Int32) (Hwritten : Int32) (Hstuffs : Nat → Int32) (Htwins : Nat → Int32) (Hworn : Nat → Int32) (Pst : Int32) (Pce : Int32) (Pgi : Int32) (Pln : Int32) (xl : Int32) (xs : Int32) (xt : Int32) (Φ : Int32 → (Nat → Int32) → (Nat → Int32) → (Nat → Int32) → Prop) (hf : wp_X7_lay Pst Pln xl xs xt Hstuffs Htwins Hworn Φ) : Met l yX7_lay wsX7_lay ({ frames := 1, cells := 0, slots := 0, locals := 21 }) (cPreK D ak ad [.ref h7, .int (xl), .int (xs), .int (xt)] ((wW_X7_lay ak ad h7 xa ma pg Hway Hstate Hnext Hsteps Hwritten Hstuffs Htwins Hworn)) sz ((wK_X7_lay ak ad pg pa Pst Pce Pgi Pln))) (cI D (S := (Nat → Int32) × (Nat → Int32) × (Nat → Int32)) (fun (r : Int32) (u : (Nat → Int32) × (Nat → Int32) × (Nat → Int32)) => Φ r u.1 u.2.1 u.2.2) (fun u => (wW_X7_lay ak ad h7 xa ma pg Hway Hstate Hnext Hsteps Hwritten u.1 u.2.1 u.2.2)) ((wW_X7_lay ak ad h7 xa ma pg Hway Hstate Hnext Hsteps Hwritten Hstuffs Htwins Hworn)) sz) 0 0 (va_A ((wW_X7_lay ak ad h7 xa ma pg Hway Hstate Hnext Hsteps Hwritten Hstuffs Htwins Hworn)) sz) := by
  refine Met.ofW (cc := cX7_lay) (maxL := 4) (ret := (some .boolean)) (by decide) rfl ?_
  intro p e s m args below meth c s₁ B hml hv
  obtain ⟨⟨rfl, hsz, hP, hE, hD0, hT⟩, hKT⟩ := hv
  have hx := B.exec
  have hb := B.bytes
  have hr := B.returns
  have hts := atoms_spec (ws := wsX7_lay) B.pre
  have hown : s.vm.findClass RX7 = some m.cls := findClass_of_methodNamed B.named
  have hlocks := B.notSynchronized
  subst hsz
  have hD := hD0.self (sz := s.heap.size)
  generalize hAe : va_A ((wW_X7_lay ak ad h7 xa ma pg Hway Hstate Hnext Hsteps Hwritten Hstuffs Htwins Hworn)) s.heap.size = A at hD hT hKT ⊢
  have hA : ∀ q : Nat, s.heap.size ≤ q → A q := fun q h => by rw [← hAe]; exact Or.inr h
  have hS : va_S A s.heap s.heap [] := va_S.rf
  have hl := lv_entry ([.ref h7, .int (xl), .int (xs), .int (xt)]) (n := 4) (Nat.le_of_ble_eq_true rfl)
  rw [lg_entry_eq]
  generalize (lg_sl ([.ref h7, .int (xl), .int (xs), .int (xt)]) ++ List.replicate (4 - (lg_sl ([.ref h7, .int (xl), .int (xs), .int (xt)])).length) Slot.unset).toArray = ls at hl ⊢
  have hl : lv_has ls 4 [(0, .ref h7), (1, .int (xl)), (2, .int (xs)), (3, .int (xt))] := hl
  exact kj_X7_lay_e hx hb hown hts hml hE hT hA (Nat.le_of_ble_eq_true rfl) (Nat.le_of_ble_eq_true rfl) ⟨Nat.le_of_ble_eq_true rfl, Nat.le_of_ble_eq_true rfl⟩ h7 xa ma pg pa Hway Hstate Hnext Hsteps Hwritten Pst Pce Pgi Pln xl xs xt hKT Φ (fun r Hstuffs Htwins Hworn H locs ls hz hw hP hD hS => W.zret (v := r) hx hb hr (bl_zn hz) (fun t ht hW => ⟨⟨r, (Hstuffs, Htwins, Hworn), rfl, hw, by rw [ht]; exact hP, by rw [hAe]; exact hD⟩, by rw [hAe]; exact hS.F ht⟩) hS.2.2 dX7_lay_45) (fun r Hstuffs Htwins Hworn H locs ls hz hw hP hD hS => W.zret (v := r) hx hb hr (bl_zn hz) (fun t ht hW => ⟨⟨r, (Hstuffs, Htwins, Hworn), rfl, hw, by rw [ht]; exact hP, by rw [hAe]; exact hD⟩, by rw [hAe]; exact hS.F ht⟩) hS.2.2 dX7_lay_77) Hstuffs Htwins Hworn _ _ _ hf hP hD hS hl

def wW_X7_cost (ak : Nat → ClassId) (ad : Nat → Nat) (h7 : Nat) (xa : Nat → Nat) (ma : Nat → Nat) (pg : Nat) (Hway : Int32) (Hstate : Int32) (Hnext : Int32) (Hsteps : Int32) (Hwritten : Int32) (Hstuffs : Nat → Int32) (Htwins : Nat → Int32) : va_W := [(h7, .inr (6, wob xa )), ((xa 3), .inr (1, xob ma (pg) (Hway) (Hstate) (Hnext) (Hsteps) (Hwritten))), ((ma 0), .inl (ak 0, 16, .inl (Hstuffs))), ((ma 1), .inl (ak 0, 16, .inl (Htwins)))]
def wK_X7_cost (ak : Nat → ClassId) (ad : Nat → Nat) (pg : Nat) (pa : Nat → Nat) (Pst : Int32) (Pce : Int32) (Pgi : Int32) (Pln : Int32) (Pcosts : Nat → Int32) : va_W := [(pg, .inr (2, pob pa (Pst) (Pce) (Pgi) (Pln))), ((pa 1), .inl (ak 0, 4, .inl (Pcosts)))]
def lb_X7_cost_4 (Hstuffs : Nat → Int32) (Htwins : Nat → Int32) (Pln : Int32) (Pcosts : Nat → Int32)  (Φ : Int32 → Prop) (back : Int32 → Int32 → Prop) (l1 : Int32) (l2 : Int32) : Prop := (Pln ≤ l2 → Φ l1 ) ∧ (¬ Pln ≤ l2 → vp_in l2 16 ∧ vp_in (Hstuffs (l2).toNatClampNeg) 4 ∧ vp_in l2 16 ∧ back (l1 + ((Pcosts (Hstuffs (l2).toNatClampNeg).toNatClampNeg) * (Htwins (l2).toNatClampNeg))) (l2 + 1))
def lf_X7_cost_4 (Hstuffs : Nat → Int32) (Htwins : Nat → Int32) (Pln : Int32) (Pcosts : Nat → Int32)  (Φ : Int32 → Prop) : Nat → Int32 → Int32 → Prop
  | 0, _, _ => False
  | n_ + 1, l1, l2 => lb_X7_cost_4 Hstuffs Htwins Pln Pcosts  Φ (lf_X7_cost_4 Hstuffs Htwins Pln Pcosts  Φ n_) l1 l2
theorem li_X7_cost_4 (Hstuffs : Nat → Int32) (Htwins : Nat → Int32) (Pln : Int32) (Pcosts : Nat → Int32)  (Φ : Int32 → Prop) (Inv : Int32 → Int32 → Prop) (mu : Int32 → Int32 → Nat) (hs : ∀ (back : Int32 → Int32 → Prop) (l1 : Int32) (l2 : Int32), Inv l1 l2 → (∀ (l1' : Int32) (l2' : Int32), Inv l1' l2' → mu l1' l2' < mu l1 l2 → back l1' l2') → lb_X7_cost_4 Hstuffs Htwins Pln Pcosts  Φ back l1 l2) : ∀ (n_ : Nat) (l1 : Int32) (l2 : Int32), Inv l1 l2 → mu l1 l2 < n_ → lf_X7_cost_4 Hstuffs Htwins Pln Pcosts  Φ n_ l1 l2 := by
  intro n_
  induction n_ with
  | zero => intro l1 l2 _ h; exact absurd h (Nat.not_lt_zero _)
  | succ n_ ih => intro l1 l2 hI hm; exact hs _ l1 l2 hI (fun l1' l2' h1 h2 => ih l1' l2' h1 (by omega))
set_option maxHeartbeats 4000000 in
set_option maxRecDepth 100000 in
theorem lp_X7_cost_4 {p : Program} {l : Launch} {e : Env} {R : Room} {s : State} {m : MethodId} {args : Array Value} {below : List Frame} {meth : Method} {c : Code} {cells slots : Nat} {Q : State → Prop} {A : Nat → Prop} {D : va_G} {ak : Nat → ClassId} {ad : Nat → Nat} (hx : p.tables.exec = Jvm.exec) (hb : c.code = cX7_cost) (hown : s.vm.findClass RX7 = some m.cls) (hts : ∀ w ∈ wsX7_cost, w.before args s = true) (hml : c.maxLocals = 3) (hE : EV D ak s) (hT : ST D ak ad A s s.heap) (hA : ∀ q, s.heap.size ≤ q → A q) (h7 : Nat) (xa : Nat → Nat) (ma : Nat → Nat) (pg : Nat) (pa : Nat → Nat) (Hway : Int32) (Hstate : Int32) (Hnext : Int32) (Hsteps : Int32) (Hwritten : Int32) (Hstuffs : Nat → Int32) (Htwins : Nat → Int32) (Pst : Int32) (Pce : Int32) (Pgi : Int32) (Pln : Int32) (Pcosts : Nat → Int32) (hKT : KT D A (wK_X7_cost ak ad pg pa Pst Pce Pgi Pln Pcosts) s.heap)  (Φ : Int32 → Prop)
    (kR58 : ∀ (r : Int32)  (H : Heap) (locs : List Loc) (ls : Array Slot), Φ r  → va_P D vwCl (wW_X7_cost ak ad h7 xa ma pg Hway Hstate Hnext Hsteps Hwritten Hstuffs Htwins) H → va_D A (wW_X7_cost ak ad h7 xa ma pg Hway Hstate Hnext Hsteps Hwritten Hstuffs Htwins) → va_S A s.heap H locs → W p l e R s m args below meth c H locs cells slots Q (F0 m 58 ls [.int r]))
    : ∀ (n_ : Nat) (l1 : Int32) (l2 : Int32) (H : Heap) (locs : List Loc) (ls : Array Slot), lf_X7_cost_4 Hstuffs Htwins Pln Pcosts  Φ n_ l1 l2 → va_P D vwCl (wW_X7_cost ak ad h7 xa ma pg Hway Hstate Hnext Hsteps Hwritten Hstuffs Htwins) H → va_D A (wW_X7_cost ak ad h7 xa ma pg Hway Hstate Hnext Hsteps Hwritten Hstuffs Htwins) → va_S A s.heap H locs → lv_has ls 3 [(0, .ref h7), (1, .int (l1)), (2, .int (l2))] → W p l e R s m args below meth c H locs cells slots Q (F0 m 4 ls ([])) := by
  have hCW : ∀ {H : Heap} {locs : List Loc}, va_S A s.heap H locs → va_P D vwCl (wK_X7_cost ak ad pg pa Pst Pce Pgi Pln Pcosts) H := fun hS => (hKT.kept hS.2.1).1
  intro n_
  induction n_ with
  | zero =>
    intro l1 l2 H locs ls hw
    exact hw.elim
  | succ n_ ih =>
    intro l1 l2 H locs ls hw hP hD hS hl
    have hw : lb_X7_cost_4 Hstuffs Htwins Pln Pcosts  Φ (lf_X7_cost_4 Hstuffs Htwins Pln Pcosts  Φ n_) l1 l2 := hw
    delta lb_X7_cost_4 at hw
    refine lv_iload_n hx hb dX7_cost_4 rfl (lv_at hl 2 rfl) ?_
    refine lv_aload_n hx hb dX7_cost_5 rfl (lv_at hl 0 rfl) ?_
    refine vt_get (D := D) (ci := 6) (v := .ref (xa 3)) (C := RX7) (T := TX7) (N := 10) hx hb hts (fun w h => wm_c (wc_X7 w h)) hown hE.1 hP 0 rfl rfl 3 (by decide) tX7_3 (hts (.fieldLink RX7 37 "WornLines" "hand" "LWornLines$Machine;") (wm_c hw_540)) (fun _ h9 => h9) rfl dX7_cost_6 ?_
    refine vt_get (D := D) (ci := 1) (v := .ref pg) (C := RX1) (T := TX1) (N := 12) hx hb hts (fun w h => wm_c (wc_X1 w h)) hown hE.1 hP 1 rfl rfl 0 (by decide) tX1_0 (hts (.fieldLink RX7 89 "WornLines$Machine" "programme" "LWornLines$Programme;") (wm_c hw_549)) (fun _ h9 => h9) rfl dX7_cost_9 ?_
    refine vt_get (D := D) (ci := 2) (v := .int (Pln)) (C := RX2) (T := TX2) (N := 17) hx hb hts (fun w h => wm_c (wc_X2 w h)) hown hE.1 (hCW hS) 0 rfl rfl 9 (by decide) tX2_9 (hts (.fieldLink RX7 106 "WornLines$Programme" "lines" "I") (wm_c hw_553)) (fun _ h9 => h9) rfl dX7_cost_12 ?_
    refine lv_icmp_ge (tgt := 57) hx hb dX7_cost_15 (by decide) (fun c_1 => ?_) (fun c_1 => ?_)
    · replace hw := hw.1 c_1
      refine lv_iload_n hx hb dX7_cost_57 rfl (lv_at hl 1 rfl) ?_
      exact kR58 l1  _ _ _ hw hP hD hS
    · replace hw := hw.2 c_1
      refine lv_iload_n hx hb dX7_cost_18 rfl (lv_at hl 1 rfl) ?_
      refine lv_aload_n hx hb dX7_cost_19 rfl (lv_at hl 0 rfl) ?_
      refine vt_get (D := D) (ci := 6) (v := .ref (xa 3)) (C := RX7) (T := TX7) (N := 10) hx hb hts (fun w h => wm_c (wc_X7 w h)) hown hE.1 hP 0 rfl rfl 3 (by decide) tX7_3 (hts (.fieldLink RX7 37 "WornLines" "hand" "LWornLines$Machine;") (wm_c hw_540)) (fun _ h9 => h9) rfl dX7_cost_20 ?_
      refine vt_get (D := D) (ci := 1) (v := .ref pg) (C := RX1) (T := TX1) (N := 12) hx hb hts (fun w h => wm_c (wc_X1 w h)) hown hE.1 hP 1 rfl rfl 0 (by decide) tX1_0 (hts (.fieldLink RX7 89 "WornLines$Machine" "programme" "LWornLines$Programme;") (wm_c hw_549)) (fun _ h9 => h9) rfl dX7_cost_23 ?_
      refine vt_get (D := D) (ci := 2) (v := .ref (pa 1)) (C := RX2) (T := TX2) (N := 17) hx hb hts (fun w h => wm_c (wc_X2 w h)) hown hE.1 (hCW hS) 0 rfl rfl 2 (by decide) tX2_2 (hts (.fieldLink RX7 103 "WornLines$Programme" "costs" "[I") (wm_c hw_552)) (fun _ h9 => h9) rfl dX7_cost_26 ?_
      refine lv_aload_n hx hb dX7_cost_29 rfl (lv_at hl 0 rfl) ?_
      refine vt_get (D := D) (ci := 6) (v := .ref (xa 3)) (C := RX7) (T := TX7) (N := 10) hx hb hts (fun w h => wm_c (wc_X7 w h)) hown hE.1 hP 0 rfl rfl 3 (by decide) tX7_3 (hts (.fieldLink RX7 37 "WornLines" "hand" "LWornLines$Machine;") (wm_c hw_540)) (fun _ h9 => h9) rfl dX7_cost_30 ?_
      refine vt_get (D := D) (ci := 1) (v := .ref (ma 0)) (C := RX1) (T := TX1) (N := 12) hx hb hts (fun w h => wm_c (wc_X1 w h)) hown hE.1 hP 1 rfl rfl 1 (by decide) tX1_1 (hts (.fieldLink RX7 112 "WornLines$Machine" "stuffs" "[I") (wm_c hw_555)) (fun _ h9 => h9) rfl dX7_cost_33 ?_
      refine lv_iload_n hx hb dX7_cost_36 rfl (lv_at hl 2 rfl) ?_
      obtain ⟨h_2, hw⟩ := hw
      refine va_iald hx hb hE.1 hP 2 0 rfl rfl (h_2) dX7_cost_37 ?_
      obtain ⟨h_3, hw⟩ := hw
      refine va_iald hx hb hE.1 (hCW hS) 1 0 rfl rfl (h_3) dX7_cost_38 ?_
      refine lv_aload_n hx hb dX7_cost_39 rfl (lv_at hl 0 rfl) ?_
      refine vt_get (D := D) (ci := 6) (v := .ref (xa 3)) (C := RX7) (T := TX7) (N := 10) hx hb hts (fun w h => wm_c (wc_X7 w h)) hown hE.1 hP 0 rfl rfl 3 (by decide) tX7_3 (hts (.fieldLink RX7 37 "WornLines" "hand" "LWornLines$Machine;") (wm_c hw_540)) (fun _ h9 => h9) rfl dX7_cost_40 ?_
      refine vt_get (D := D) (ci := 1) (v := .ref (ma 1)) (C := RX1) (T := TX1) (N := 12) hx hb hts (fun w h => wm_c (wc_X1 w h)) hown hE.1 hP 1 rfl rfl 2 (by decide) tX1_2 (hts (.fieldLink RX7 114 "WornLines$Machine" "twins" "[I") (wm_c hw_556)) (fun _ h9 => h9) rfl dX7_cost_43 ?_
      refine lv_iload_n hx hb dX7_cost_46 rfl (lv_at hl 2 rfl) ?_
      obtain ⟨h_4, hw⟩ := hw
      refine va_iald hx hb hE.1 hP 3 0 rfl rfl (h_4) dX7_cost_47 ?_
      refine lv_imul hx hb dX7_cost_48 ?_
      refine lv_iadd hx hb dX7_cost_49 ?_
      refine lv_istore_n (lv' := [(1, .int (l1 + ((Pcosts (Hstuffs (l2).toNatClampNeg).toNatClampNeg) * (Htwins (l2).toNatClampNeg)))), (0, .ref h7), (2, .int (l2))]) hx hb dX7_cost_50 rfl hl (by decide) rfl (fun ls hl => ?_)
      refine lv_iinc (v := (l2 + 1)) (lv' := [(2, .int (l2 + 1)), (1, .int (l1 + ((Pcosts (Hstuffs (l2).toNatClampNeg).toNatClampNeg) * (Htwins (l2).toNatClampNeg)))), (0, .ref h7)]) hx hb dX7_cost_51 hl (k := 2) rfl (rfl) (by decide) rfl (fun ls hl => ?_)
      refine lv_goto (tgt := 4) hx hb dX7_cost_54 (by decide) ?_
      exact ih (l1 + ((Pcosts (Hstuffs (l2).toNatClampNeg).toNatClampNeg) * (Htwins (l2).toNatClampNeg))) (l2 + 1) _ _ _ hw hP hD hS (lv_sub hl [2, 1, 0] rfl)

def wp_X7_cost (Hstuffs : Nat → Int32) (Htwins : Nat → Int32) (Pln : Int32) (Pcosts : Nat → Int32)  (Φ : Int32 → Prop) : Prop := (∃ n_, lf_X7_cost_4 Hstuffs Htwins Pln Pcosts  Φ n_ 0 0)
set_option maxHeartbeats 4000000 in
set_option maxRecDepth 100000 in
theorem kj_X7_cost_e {p : Program} {l : Launch} {e : Env} {R : Room} {s : State} {m : MethodId} {args : Array Value} {below : List Frame} {meth : Method} {c : Code} {cells slots : Nat} {Q : State → Prop} {A : Nat → Prop} {D : va_G} {ak : Nat → ClassId} {ad : Nat → Nat} (hx : p.tables.exec = Jvm.exec) (hb : c.code = cX7_cost) (hown : s.vm.findClass RX7 = some m.cls) (hts : ∀ w ∈ wsX7_cost, w.before args s = true) (hml : c.maxLocals = 3) (hE : EV D ak s) (hT : ST D ak ad A s s.heap) (hA : ∀ q, s.heap.size ≤ q → A q) (h7 : Nat) (xa : Nat → Nat) (ma : Nat → Nat) (pg : Nat) (pa : Nat → Nat) (Hway : Int32) (Hstate : Int32) (Hnext : Int32) (Hsteps : Int32) (Hwritten : Int32) (Hstuffs : Nat → Int32) (Htwins : Nat → Int32) (Pst : Int32) (Pce : Int32) (Pgi : Int32) (Pln : Int32) (Pcosts : Nat → Int32) (hKT : KT D A (wK_X7_cost ak ad pg pa Pst Pce Pgi Pln Pcosts) s.heap)  (Φ : Int32 → Prop)
    (kR58 : ∀ (r : Int32)  (H : Heap) (locs : List Loc) (ls : Array Slot), Φ r  → va_P D vwCl (wW_X7_cost ak ad h7 xa ma pg Hway Hstate Hnext Hsteps Hwritten Hstuffs Htwins) H → va_D A (wW_X7_cost ak ad h7 xa ma pg Hway Hstate Hnext Hsteps Hwritten Hstuffs Htwins) → va_S A s.heap H locs → W p l e R s m args below meth c H locs cells slots Q (F0 m 58 ls [.int r]))
    : ∀  (H : Heap) (locs : List Loc) (ls : Array Slot), wp_X7_cost Hstuffs Htwins Pln Pcosts  Φ → va_P D vwCl (wW_X7_cost ak ad h7 xa ma pg Hway Hstate Hnext Hsteps Hwritten Hstuffs Htwins) H → va_D A (wW_X7_cost ak ad h7 xa ma pg Hway Hstate Hnext Hsteps Hwritten Hstuffs Htwins) → va_S A s.heap H locs → lv_has ls 3 [(0, .ref h7)] → W p l e R s m args below meth c H locs cells slots Q (F0 m 0 ls ([])) := by
  have hCW : ∀ {H : Heap} {locs : List Loc}, va_S A s.heap H locs → va_P D vwCl (wK_X7_cost ak ad pg pa Pst Pce Pgi Pln Pcosts) H := fun hS => (hKT.kept hS.2.1).1
  intro  H locs ls hw hP hD hS hl
  delta wp_X7_cost at hw
  refine lv_iconst (v := 0) hx hb dX7_cost_0 (by decide) ?_
  refine lv_istore_n (lv' := [(1, .int (0)), (0, .ref h7)]) hx hb dX7_cost_1 rfl hl (by decide) rfl (fun ls hl => ?_)
  refine lv_iconst (v := 0) hx hb dX7_cost_2 (by decide) ?_
  refine lv_istore_n (lv' := [(2, .int (0)), (1, .int (0)), (0, .ref h7)]) hx hb dX7_cost_3 rfl hl (by decide) rfl (fun ls hl => ?_)
  obtain ⟨n1_, hw⟩ := hw
  exact lp_X7_cost_4 hx hb hown hts hml hE hT hA h7 xa ma pg pa Hway Hstate Hnext Hsteps Hwritten Hstuffs Htwins Pst Pce Pgi Pln Pcosts hKT  Φ  kR58 n1_ 0 0 _ _ _ hw hP hD hS (lv_sub hl [2, 1, 0] rfl)
set_option maxHeartbeats 4000000 in
set_option maxRecDepth 100000 in
theorem c_X7_cost (l : Launch) (D : va_G) (ak : Nat → ClassId) (ad : Nat → Nat) (sz : Nat) (h7 : Nat) (xa : Nat → Nat) (ma : Nat → Nat) (pg : Nat) (pa : Nat → Nat) (Hway : Int32) (Hstate : Int32) (Hnext : Int32) (Hsteps : Int32) (Hwritten : Int32) (Hstuffs : Nat → Int32) (Htwins : Nat → Int32) (Pst : Int32) (Pce : Int32) (Pgi : Int32) (Pln : Int32) (Pcosts : Nat → Int32) (Φ : Int32 → Prop) (hf : wp_X7_cost Hstuffs Htwins Pln Pcosts Φ) : Met l yX7_cost wsX7_cost ({ frames := 0, cells := 0, slots := 0, locals := 0 }) (cPreK D ak ad [.ref h7] ((wW_X7_cost ak ad h7 xa ma pg Hway Hstate Hnext Hsteps Hwritten Hstuffs Htwins)) sz ((wK_X7_cost ak ad pg pa Pst Pce Pgi Pln Pcosts))) (cI D (S := Unit) (fun (r : Int32) (u : Unit) => Φ r ) (fun u => (wW_X7_cost ak ad h7 xa ma pg Hway Hstate Hnext Hsteps Hwritten Hstuffs Htwins)) ((wW_X7_cost ak ad h7 xa ma pg Hway Hstate Hnext Hsteps Hwritten Hstuffs Htwins)) sz) 0 0 (va_A ((wW_X7_cost ak ad h7 xa ma pg Hway Hstate Hnext Hsteps Hwritten Hstuffs Htwins)) sz) := by
  refine Met.ofW (cc := cX7_cost) (maxL := 3) (ret := (some .int)) (by decide) rfl ?_
  intro p e s m args below meth c s₁ B hml hv
  obtain ⟨⟨rfl, hsz, hP, hE, hD0, hT⟩, hKT⟩ := hv
  have hx := B.exec
  have hb := B.bytes
  have hr := B.returns
  have hts := atoms_spec (ws := wsX7_cost) B.pre
  have hown : s.vm.findClass RX7 = some m.cls := findClass_of_methodNamed B.named
  have hlocks := B.notSynchronized
  subst hsz
  have hD := hD0.self (sz := s.heap.size)
  generalize hAe : va_A ((wW_X7_cost ak ad h7 xa ma pg Hway Hstate Hnext Hsteps Hwritten Hstuffs Htwins)) s.heap.size = A at hD hT hKT ⊢
  have hA : ∀ q : Nat, s.heap.size ≤ q → A q := fun q h => by rw [← hAe]; exact Or.inr h
  have hS : va_S A s.heap s.heap [] := va_S.rf
  have hl := lv_entry ([.ref h7]) (n := 3) (Nat.le_of_ble_eq_true rfl)
  rw [lg_entry_eq]
  generalize (lg_sl ([.ref h7]) ++ List.replicate (3 - (lg_sl ([.ref h7])).length) Slot.unset).toArray = ls at hl ⊢
  have hl : lv_has ls 3 [(0, .ref h7)] := hl
  exact kj_X7_cost_e hx hb hown hts hml hE hT hA h7 xa ma pg pa Hway Hstate Hnext Hsteps Hwritten Hstuffs Htwins Pst Pce Pgi Pln Pcosts hKT Φ (fun r  H locs ls hw hP hD hS => W.iret (v := r) hx hb hr (fun t ht hW => ⟨⟨r, (), rfl, hw, by rw [ht]; exact hP, by rw [hAe]; exact hD⟩, by rw [hAe]; exact hS.F ht⟩) hS.2.2 dX7_cost_58)  _ _ _ hf hP hD hS hl

def wW_X7_inputs (ak : Nat → ClassId) (ad : Nat → Nat) (h7 : Nat) (xa : Nat → Nat) (ma : Nat → Nat) (pg : Nat) (Hway : Int32) (Hstate : Int32) (Hnext : Int32) (Hsteps : Int32) (Hwritten : Int32) : va_W := [(h7, .inr (6, wob xa )), ((xa 3), .inr (1, xob ma (pg) (Hway) (Hstate) (Hnext) (Hsteps) (Hwritten)))]
def wK_X7_inputs (ak : Nat → ClassId) (ad : Nat → Nat) (pg : Nat) (pa : Nat → Nat) (Pst : Int32) (Pce : Int32) (Pgi : Int32) (Pln : Int32) (Pleast : Nat → Int32) (Pgreat : Nat → Int32) : va_W := [(pg, .inr (2, pob pa (Pst) (Pce) (Pgi) (Pln))), ((pa 4), .inl (ak 0, 2, .inl (Pleast))), ((pa 5), .inl (ak 0, 2, .inl (Pgreat)))]
def wp_X7_inputs (Pgi : Int32) (Pleast : Nat → Int32) (Pgreat : Nat → Int32)  (Φ : Int32 → Prop) : Prop := wp_X2_inputCount Pgi Pleast Pgreat (fun r_2 => Φ r_2 )
set_option maxHeartbeats 4000000 in
set_option maxRecDepth 100000 in
theorem kj_X7_inputs_e {p : Program} {l : Launch} {e : Env} {R : Room} {s : State} {m : MethodId} {args : Array Value} {below : List Frame} {meth : Method} {c : Code} {cells slots : Nat} {Q : State → Prop} {A : Nat → Prop} {D : va_G} {ak : Nat → ClassId} {ad : Nat → Nat} (hx : p.tables.exec = Jvm.exec) (hb : c.code = cX7_inputs) (hown : s.vm.findClass RX7 = some m.cls) (hts : ∀ w ∈ wsX7_inputs, w.before args s = true) (hml : c.maxLocals = 1) (hE : EV D ak s) (hT : ST D ak ad A s s.heap) (hA : ∀ q, s.heap.size ≤ q → A q) (hRf : 3 ≤ R.frames) (hRl : 56 ≤ R.locals) (hRc : cells ≤ R.cells ∧ slots ≤ R.slots) (h7 : Nat) (xa : Nat → Nat) (ma : Nat → Nat) (pg : Nat) (pa : Nat → Nat) (Hway : Int32) (Hstate : Int32) (Hnext : Int32) (Hsteps : Int32) (Hwritten : Int32) (Pst : Int32) (Pce : Int32) (Pgi : Int32) (Pln : Int32) (Pleast : Nat → Int32) (Pgreat : Nat → Int32) (hKT : KT D A (wK_X7_inputs ak ad pg pa Pst Pce Pgi Pln Pleast Pgreat) s.heap)  (Φ : Int32 → Prop)
    (kR10 : ∀ (r : Int32)  (H : Heap) (locs : List Loc) (ls : Array Slot), Φ r  → va_P D vwCl (wW_X7_inputs ak ad h7 xa ma pg Hway Hstate Hnext Hsteps Hwritten) H → va_D A (wW_X7_inputs ak ad h7 xa ma pg Hway Hstate Hnext Hsteps Hwritten) → va_S A s.heap H locs → W p l e R s m args below meth c H locs cells slots Q (F0 m 10 ls [.int r]))
    : ∀  (H : Heap) (locs : List Loc) (ls : Array Slot), wp_X7_inputs Pgi Pleast Pgreat  Φ → va_P D vwCl (wW_X7_inputs ak ad h7 xa ma pg Hway Hstate Hnext Hsteps Hwritten) H → va_D A (wW_X7_inputs ak ad h7 xa ma pg Hway Hstate Hnext Hsteps Hwritten) → va_S A s.heap H locs → lv_has ls 1 [(0, .ref h7)] → W p l e R s m args below meth c H locs cells slots Q (F0 m 0 ls ([])) := by
  have hCW : ∀ {H : Heap} {locs : List Loc}, va_S A s.heap H locs → va_P D vwCl (wK_X7_inputs ak ad pg pa Pst Pce Pgi Pln Pleast Pgreat) H := fun hS => (hKT.kept hS.2.1).1
  intro  H locs ls hw hP hD hS hl
  delta wp_X7_inputs at hw
  refine lv_aload_n hx hb dX7_inputs_0 rfl (lv_at hl 0 rfl) ?_
  refine vt_get (D := D) (ci := 6) (v := .ref (xa 3)) (C := RX7) (T := TX7) (N := 10) hx hb hts (fun w h => wm_c (wc_X7 w h)) hown hE.1 hP 0 rfl rfl 3 (by decide) tX7_3 (hts (.fieldLink RX7 37 "WornLines" "hand" "LWornLines$Machine;") (wm_c hw_540)) (fun _ h9 => h9) rfl dX7_inputs_1 ?_
  refine vt_get (D := D) (ci := 1) (v := .ref pg) (C := RX1) (T := TX1) (N := 12) hx hb hts (fun w h => wm_c (wc_X1 w h)) hown hE.1 hP 1 rfl rfl 0 (by decide) tX1_0 (hts (.fieldLink RX7 89 "WornLines$Machine" "programme" "LWornLines$Programme;") (wm_c hw_549)) (fun _ h9 => h9) rfl dX7_inputs_4 ?_
  refine kc_i (wc := []) (wr := [(h7, .inr (6, wob xa )), ((xa 3), .inr (1, xob ma (pg) (Hway) (Hstate) (Hnext) (Hsteps) (Hwritten)))]) hP hD hS hA [] [0, 1] rfl rfl (by decide) (by decide) (va_runV (As := []) (rest := []) ⟨hx, hb, hml, hown, hts⟩ (c_X2_inputCount l D ak ad _ pg pa Pst Pce Pgi Pln Pleast Pgreat _ hw) (cwV 0 hts gX7_inputs_X2_inputCount rfl rfl rfl hv_X2_inputCount ⟨(Nat.le_trans (Nat.le_of_ble_eq_true rfl) hRf), (Nat.le_trans (Nat.le_of_ble_eq_true rfl) hRl)⟩) (kc_preVK (As := []) (wc := []) (ck := (wK_X2_inputCount ak ad pg pa Pst Pce Pgi Pln Pleast Pgreat)) hKT hE hT hP hD hS hA [] [0, 1, 2] (by decide) rfl rfl rfl (hCW hS) 0 2 rfl rfl rfl) rfl rfl hl.1 rfl (lv_room (Nat.le_of_ble_eq_true rfl)) dX7_inputs_7 ⟨hRc.1, hRc.2⟩) (fun r_2 u_1 H locs hw hP hD hS => ?_)
  try dsimp -zeta only at hw
  have hP : va_P D vwCl (wW_X7_inputs ak ad h7 xa ma pg Hway Hstate Hnext Hsteps Hwritten) H := hP.sub [0, 1] rfl
  have hD : va_D A (wW_X7_inputs ak ad h7 xa ma pg Hway Hstate Hnext Hsteps Hwritten) := hD.sub [0, 1] (by decide) rfl
  exact kR10 r_2  _ _ _ hw hP hD hS
set_option maxHeartbeats 4000000 in
set_option maxRecDepth 100000 in
theorem c_X7_inputs (l : Launch) (D : va_G) (ak : Nat → ClassId) (ad : Nat → Nat) (sz : Nat) (h7 : Nat) (xa : Nat → Nat) (ma : Nat → Nat) (pg : Nat) (pa : Nat → Nat) (Hway : Int32) (Hstate : Int32) (Hnext : Int32) (Hsteps : Int32) (Hwritten : Int32) (Pst : Int32) (Pce : Int32) (Pgi : Int32) (Pln : Int32) (Pleast : Nat → Int32) (Pgreat : Nat → Int32) (Φ : Int32 → Prop) (hf : wp_X7_inputs Pgi Pleast Pgreat Φ) : Met l yX7_inputs wsX7_inputs ({ frames := 3, cells := 0, slots := 0, locals := 56 }) (cPreK D ak ad [.ref h7] ((wW_X7_inputs ak ad h7 xa ma pg Hway Hstate Hnext Hsteps Hwritten)) sz ((wK_X7_inputs ak ad pg pa Pst Pce Pgi Pln Pleast Pgreat))) (cI D (S := Unit) (fun (r : Int32) (u : Unit) => Φ r ) (fun u => (wW_X7_inputs ak ad h7 xa ma pg Hway Hstate Hnext Hsteps Hwritten)) ((wW_X7_inputs ak ad h7 xa ma pg Hway Hstate Hnext Hsteps Hwritten)) sz) 0 0 (va_A ((wW_X7_inputs ak ad h7 xa ma pg Hway Hstate Hnext Hsteps Hwritten)) sz) := by
  refine Met.ofW (cc := cX7_inputs) (maxL := 1) (ret := (some .int)) (by decide) rfl ?_
  intro p e s m args below meth c s₁ B hml hv
  obtain ⟨⟨rfl, hsz, hP, hE, hD0, hT⟩, hKT⟩ := hv
  have hx := B.exec
  have hb := B.bytes
  have hr := B.returns
  have hts := atoms_spec (ws := wsX7_inputs) B.pre
  have hown : s.vm.findClass RX7 = some m.cls := findClass_of_methodNamed B.named
  have hlocks := B.notSynchronized
  subst hsz
  have hD := hD0.self (sz := s.heap.size)
  generalize hAe : va_A ((wW_X7_inputs ak ad h7 xa ma pg Hway Hstate Hnext Hsteps Hwritten)) s.heap.size = A at hD hT hKT ⊢
  have hA : ∀ q : Nat, s.heap.size ≤ q → A q := fun q h => by rw [← hAe]; exact Or.inr h
  have hS : va_S A s.heap s.heap [] := va_S.rf
  have hl := lv_entry ([.ref h7]) (n := 1) (Nat.le_of_ble_eq_true rfl)
  rw [lg_entry_eq]
  generalize (lg_sl ([.ref h7]) ++ List.replicate (1 - (lg_sl ([.ref h7])).length) Slot.unset).toArray = ls at hl ⊢
  have hl : lv_has ls 1 [(0, .ref h7)] := hl
  exact kj_X7_inputs_e hx hb hown hts hml hE hT hA (Nat.le_of_ble_eq_true rfl) (Nat.le_of_ble_eq_true rfl) ⟨Nat.le_of_ble_eq_true rfl, Nat.le_of_ble_eq_true rfl⟩ h7 xa ma pg pa Hway Hstate Hnext Hsteps Hwritten Pst Pce Pgi Pln Pleast Pgreat hKT Φ (fun r  H locs ls hw hP hD hS => W.iret (v := r) hx hb hr (fun t ht hW => ⟨⟨r, (), rfl, hw, by rw [ht]; exact hP, by rw [hAe]; exact hD⟩, by rw [hAe]; exact hS.F ht⟩) hS.2.2 dX7_inputs_10)  _ _ _ hf hP hD hS hl

def wW_X7_input (ak : Nat → ClassId) (ad : Nat → Nat) (h7 : Nat) (xa : Nat → Nat) (ma : Nat → Nat) (pg : Nat) (Hway : Int32) (Hstate : Int32) (Hnext : Int32) (Hsteps : Int32) (Hwritten : Int32) : va_W := [(h7, .inr (6, wob xa )), ((xa 3), .inr (1, xob ma (pg) (Hway) (Hstate) (Hnext) (Hsteps) (Hwritten)))]
def wK_X7_input (ak : Nat → ClassId) (ad : Nat → Nat) (pg : Nat) (pa : Nat → Nat) (Pst : Int32) (Pce : Int32) (Pgi : Int32) (Pln : Int32) (Ptold : Nat → Int32) (PgivenC : Nat → Int32) (Pleast : Nat → Int32) (Pgreat : Nat → Int32) : va_W := [(pg, .inr (2, pob pa (Pst) (Pce) (Pgi) (Pln))), ((pa 2), .inl (ak 0, 6, .inl (Ptold))), ((pa 3), .inl (ak 0, 2, .inl (PgivenC))), ((pa 4), .inl (ak 0, 2, .inl (Pleast))), ((pa 5), .inl (ak 0, 2, .inl (Pgreat)))]
def wp_X7_input (Pce : Int32) (Pgi : Int32) (Ptold : Nat → Int32) (PgivenC : Nat → Int32) (Pleast : Nat → Int32) (Pgreat : Nat → Int32) (xi : Int32) (xc : Int32)  (Φ : Int32 → Prop) : Prop := wp_X2_inputCount Pgi Pleast Pgreat (fun r_2 => wp_X7_within xi r_2 (fun r_4 => (r_4 = 0 → Φ (-1) ) ∧ (¬ r_4 = 0 → wp_X7_within xc Pce (fun r_7 => (¬ r_7 = 0 → wp_X2_atFirst Pgi Ptold PgivenC Pleast Pgreat xi xc (fun r_10 => Φ r_10 )) ∧ (r_7 = 0 → Φ (-1) )))))
set_option maxHeartbeats 4000000 in
set_option maxRecDepth 100000 in
theorem kj_X7_input_e {p : Program} {l : Launch} {e : Env} {R : Room} {s : State} {m : MethodId} {args : Array Value} {below : List Frame} {meth : Method} {c : Code} {cells slots : Nat} {Q : State → Prop} {A : Nat → Prop} {D : va_G} {ak : Nat → ClassId} {ad : Nat → Nat} (hx : p.tables.exec = Jvm.exec) (hb : c.code = cX7_input) (hown : s.vm.findClass RX7 = some m.cls) (hts : ∀ w ∈ wsX7_input, w.before args s = true) (hml : c.maxLocals = 3) (hE : EV D ak s) (hT : ST D ak ad A s s.heap) (hA : ∀ q, s.heap.size ≤ q → A q) (hRf : 3 ≤ R.frames) (hRl : 60 ≤ R.locals) (hRc : cells ≤ R.cells ∧ slots ≤ R.slots) (h7 : Nat) (xa : Nat → Nat) (ma : Nat → Nat) (pg : Nat) (pa : Nat → Nat) (Hway : Int32) (Hstate : Int32) (Hnext : Int32) (Hsteps : Int32) (Hwritten : Int32) (Pst : Int32) (Pce : Int32) (Pgi : Int32) (Pln : Int32) (Ptold : Nat → Int32) (PgivenC : Nat → Int32) (Pleast : Nat → Int32) (Pgreat : Nat → Int32) (xi : Int32) (xc : Int32) (hKT : KT D A (wK_X7_input ak ad pg pa Pst Pce Pgi Pln Ptold PgivenC Pleast Pgreat) s.heap)  (Φ : Int32 → Prop)
    (kR35 : ∀ (r : Int32)  (H : Heap) (locs : List Loc) (ls : Array Slot), Φ r  → va_P D vwCl (wW_X7_input ak ad h7 xa ma pg Hway Hstate Hnext Hsteps Hwritten) H → va_D A (wW_X7_input ak ad h7 xa ma pg Hway Hstate Hnext Hsteps Hwritten) → va_S A s.heap H locs → W p l e R s m args below meth c H locs cells slots Q (F0 m 35 ls [.int r]))
    (kR48 : ∀ (r : Int32)  (H : Heap) (locs : List Loc) (ls : Array Slot), Φ r  → va_P D vwCl (wW_X7_input ak ad h7 xa ma pg Hway Hstate Hnext Hsteps Hwritten) H → va_D A (wW_X7_input ak ad h7 xa ma pg Hway Hstate Hnext Hsteps Hwritten) → va_S A s.heap H locs → W p l e R s m args below meth c H locs cells slots Q (F0 m 48 ls [.int r]))
    : ∀  (H : Heap) (locs : List Loc) (ls : Array Slot), wp_X7_input Pce Pgi Ptold PgivenC Pleast Pgreat xi xc  Φ → va_P D vwCl (wW_X7_input ak ad h7 xa ma pg Hway Hstate Hnext Hsteps Hwritten) H → va_D A (wW_X7_input ak ad h7 xa ma pg Hway Hstate Hnext Hsteps Hwritten) → va_S A s.heap H locs → lv_has ls 3 [(0, .ref h7), (1, .int (xi)), (2, .int (xc))] → W p l e R s m args below meth c H locs cells slots Q (F0 m 0 ls ([])) := by
  have hCW : ∀ {H : Heap} {locs : List Loc}, va_S A s.heap H locs → va_P D vwCl (wK_X7_input ak ad pg pa Pst Pce Pgi Pln Ptold PgivenC Pleast Pgreat) H := fun hS => (hKT.kept hS.2.1).1
  intro  H locs ls hw hP hD hS hl
  delta wp_X7_input at hw
  refine lv_iload_n hx hb dX7_input_0 rfl (lv_at hl 1 rfl) ?_
  refine lv_aload_n hx hb dX7_input_1 rfl (lv_at hl 0 rfl) ?_
  refine vt_get (D := D) (ci := 6) (v := .ref (xa 3)) (C := RX7) (T := TX7) (N := 10) hx hb hts (fun w h => wm_c (wc_X7 w h)) hown hE.1 hP 0 rfl rfl 3 (by decide) tX7_3 (hts (.fieldLink RX7 37 "WornLines" "hand" "LWornLines$Machine;") (wm_c hw_540)) (fun _ h9 => h9) rfl dX7_input_2 ?_
  refine vt_get (D := D) (ci := 1) (v := .ref pg) (C := RX1) (T := TX1) (N := 12) hx hb hts (fun w h => wm_c (wc_X1 w h)) hown hE.1 hP 1 rfl rfl 0 (by decide) tX1_0 (hts (.fieldLink RX7 89 "WornLines$Machine" "programme" "LWornLines$Programme;") (wm_c hw_549)) (fun _ h9 => h9) rfl dX7_input_5 ?_
  refine kc_i (wc := []) (wr := [(h7, .inr (6, wob xa )), ((xa 3), .inr (1, xob ma (pg) (Hway) (Hstate) (Hnext) (Hsteps) (Hwritten)))]) hP hD hS hA [] [0, 1] rfl rfl (by decide) (by decide) (va_runV (As := []) (rest := [.int (xi)]) ⟨hx, hb, hml, hown, hts⟩ (c_X2_inputCount l D ak ad _ pg pa Pst Pce Pgi Pln Pleast Pgreat _ hw) (cwV 0 hts gX7_input_X2_inputCount rfl rfl rfl hv_X2_inputCount ⟨(Nat.le_trans (Nat.le_of_ble_eq_true rfl) hRf), (Nat.le_trans (Nat.le_of_ble_eq_true rfl) hRl)⟩) (kc_preVK (As := []) (wc := []) (ck := (wK_X2_inputCount ak ad pg pa Pst Pce Pgi Pln Pleast Pgreat)) hKT hE hT hP hD hS hA [] [0, 3, 4] (by decide) rfl rfl rfl (hCW hS) 0 2 rfl rfl rfl) rfl rfl hl.1 rfl (lv_room (Nat.le_of_ble_eq_true rfl)) dX7_input_8 ⟨hRc.1, hRc.2⟩) (fun r_2 u_1 H locs hw hP hD hS => ?_)
  try dsimp -zeta only at hw
  have hP : va_P D vwCl (wW_X7_input ak ad h7 xa ma pg Hway Hstate Hnext Hsteps Hwritten) H := hP.sub [0, 1] rfl
  have hD : va_D A (wW_X7_input ak ad h7 xa ma pg Hway Hstate Hnext Hsteps Hwritten) := hD.sub [0, 1] (by decide) rfl
  refine kc_i (wc := []) (wr := [(h7, .inr (6, wob xa )), ((xa 3), .inr (1, xob ma (pg) (Hway) (Hstate) (Hnext) (Hsteps) (Hwritten)))]) hP hD hS hA [] [0, 1] rfl rfl (by decide) (by decide) (va_runS (As := [.int (xi), .int (r_2)]) (rest := []) ⟨hx, hb, hml, hown, hts⟩ (c_X7_within l D ak ad _ xi r_2 _ hw) (va_cwS 2 hts gX7_input_X7_within rfl rfl rfl hz_X7_within ⟨(Nat.le_trans (Nat.le_of_ble_eq_true rfl) hRf), (Nat.le_trans (Nat.le_of_ble_eq_true rfl) hRl)⟩) (kc_pre (As := [.int (xi), .int (r_2)]) (wc := []) hE hT hP hD hS hA [] (by decide) rfl rfl) rfl rfl hl.1 rfl (lv_room (Nat.le_of_ble_eq_true rfl)) dX7_input_11 ⟨hRc.1, hRc.2⟩) (fun r_4 u_3 H locs hw hP hD hS => ?_)
  try dsimp -zeta only at hw
  have hP : va_P D vwCl (wW_X7_input ak ad h7 xa ma pg Hway Hstate Hnext Hsteps Hwritten) H := hP.sub [0, 1] rfl
  have hD : va_D A (wW_X7_input ak ad h7 xa ma pg Hway Hstate Hnext Hsteps Hwritten) := hD.sub [0, 1] (by decide) rfl
  refine lv_if_eq (tgt := 34) hx hb dX7_input_14 (by decide) (fun c_5 => ?_) (fun c_5 => ?_)
  · replace hw := hw.1 c_5
    refine lv_iconst (v := (-1)) hx hb dX7_input_34 (by decide) ?_
    exact kR35 (-1)  _ _ _ hw hP hD hS
  · replace hw := hw.2 c_5
    refine lv_iload_n hx hb dX7_input_17 rfl (lv_at hl 2 rfl) ?_
    refine lv_aload_n hx hb dX7_input_18 rfl (lv_at hl 0 rfl) ?_
    refine vt_get (D := D) (ci := 6) (v := .ref (xa 3)) (C := RX7) (T := TX7) (N := 10) hx hb hts (fun w h => wm_c (wc_X7 w h)) hown hE.1 hP 0 rfl rfl 3 (by decide) tX7_3 (hts (.fieldLink RX7 37 "WornLines" "hand" "LWornLines$Machine;") (wm_c hw_540)) (fun _ h9 => h9) rfl dX7_input_19 ?_
    refine vt_get (D := D) (ci := 1) (v := .ref pg) (C := RX1) (T := TX1) (N := 12) hx hb hts (fun w h => wm_c (wc_X1 w h)) hown hE.1 hP 1 rfl rfl 0 (by decide) tX1_0 (hts (.fieldLink RX7 89 "WornLines$Machine" "programme" "LWornLines$Programme;") (wm_c hw_549)) (fun _ h9 => h9) rfl dX7_input_22 ?_
    refine vt_get (D := D) (ci := 2) (v := .int (Pce)) (C := RX2) (T := TX2) (N := 17) hx hb hts (fun w h => wm_c (wc_X2 w h)) hown hE.1 (hCW hS) 0 rfl rfl 3 (by decide) tX2_3 (hts (.fieldLink RX7 128 "WornLines$Programme" "cells" "I") (wm_c hw_558)) (fun _ h9 => h9) rfl dX7_input_25 ?_
    refine kc_i (wc := []) (wr := [(h7, .inr (6, wob xa )), ((xa 3), .inr (1, xob ma (pg) (Hway) (Hstate) (Hnext) (Hsteps) (Hwritten)))]) hP hD hS hA [] [0, 1] rfl rfl (by decide) (by decide) (va_runS (As := [.int (xc), .int (Pce)]) (rest := []) ⟨hx, hb, hml, hown, hts⟩ (c_X7_within l D ak ad _ xc Pce _ hw) (va_cwS 2 hts gX7_input_X7_within rfl rfl rfl hz_X7_within ⟨(Nat.le_trans (Nat.le_of_ble_eq_true rfl) hRf), (Nat.le_trans (Nat.le_of_ble_eq_true rfl) hRl)⟩) (kc_pre (As := [.int (xc), .int (Pce)]) (wc := []) hE hT hP hD hS hA [] (by decide) rfl rfl) rfl rfl hl.1 rfl (lv_room (Nat.le_of_ble_eq_true rfl)) dX7_input_28 ⟨hRc.1, hRc.2⟩) (fun r_7 u_6 H locs hw hP hD hS => ?_)
    try dsimp -zeta only at hw
    have hP : va_P D vwCl (wW_X7_input ak ad h7 xa ma pg Hway Hstate Hnext Hsteps Hwritten) H := hP.sub [0, 1] rfl
    have hD : va_D A (wW_X7_input ak ad h7 xa ma pg Hway Hstate Hnext Hsteps Hwritten) := hD.sub [0, 1] (by decide) rfl
    refine lv_if_ne (tgt := 36) hx hb dX7_input_31 (by decide) (fun c_8 => ?_) (fun c_8 => ?_)
    · replace hw := hw.1 c_8
      refine lv_aload_n hx hb dX7_input_36 rfl (lv_at hl 0 rfl) ?_
      refine vt_get (D := D) (ci := 6) (v := .ref (xa 3)) (C := RX7) (T := TX7) (N := 10) hx hb hts (fun w h => wm_c (wc_X7 w h)) hown hE.1 hP 0 rfl rfl 3 (by decide) tX7_3 (hts (.fieldLink RX7 37 "WornLines" "hand" "LWornLines$Machine;") (wm_c hw_540)) (fun _ h9 => h9) rfl dX7_input_37 ?_
      refine vt_get (D := D) (ci := 1) (v := .ref pg) (C := RX1) (T := TX1) (N := 12) hx hb hts (fun w h => wm_c (wc_X1 w h)) hown hE.1 hP 1 rfl rfl 0 (by decide) tX1_0 (hts (.fieldLink RX7 89 "WornLines$Machine" "programme" "LWornLines$Programme;") (wm_c hw_549)) (fun _ h9 => h9) rfl dX7_input_40 ?_
      refine lv_iload_n hx hb dX7_input_43 rfl (lv_at hl 1 rfl) ?_
      refine lv_iload_n hx hb dX7_input_44 rfl (lv_at hl 2 rfl) ?_
      refine kc_i (wc := []) (wr := [(h7, .inr (6, wob xa )), ((xa 3), .inr (1, xob ma (pg) (Hway) (Hstate) (Hnext) (Hsteps) (Hwritten)))]) hP hD hS hA [] [0, 1] rfl rfl (by decide) (by decide) (va_runV (As := [.int (xi), .int (xc)]) (rest := []) ⟨hx, hb, hml, hown, hts⟩ (c_X2_atFirst l D ak ad _ pg pa Pst Pce Pgi Pln Ptold PgivenC Pleast Pgreat xi xc _ hw) (cwV 2 hts gX7_input_X2_atFirst rfl rfl rfl hv_X2_atFirst ⟨(Nat.le_trans (Nat.le_of_ble_eq_true rfl) hRf), (Nat.le_trans (Nat.le_of_ble_eq_true rfl) hRl)⟩) (kc_preVK (As := [.int (xi), .int (xc)]) (wc := []) (ck := (wK_X2_atFirst ak ad pg pa Pst Pce Pgi Pln Ptold PgivenC Pleast Pgreat)) hKT hE hT hP hD hS hA [] [0, 1, 2, 3, 4] (by decide) rfl rfl rfl (hCW hS) 0 2 rfl rfl rfl) rfl rfl hl.1 rfl (lv_room (Nat.le_of_ble_eq_true rfl)) dX7_input_45 ⟨hRc.1, hRc.2⟩) (fun r_10 u_9 H locs hw hP hD hS => ?_)
      try dsimp -zeta only at hw
      have hP : va_P D vwCl (wW_X7_input ak ad h7 xa ma pg Hway Hstate Hnext Hsteps Hwritten) H := hP.sub [0, 1] rfl
      have hD : va_D A (wW_X7_input ak ad h7 xa ma pg Hway Hstate Hnext Hsteps Hwritten) := hD.sub [0, 1] (by decide) rfl
      exact kR48 r_10  _ _ _ hw hP hD hS
    · replace hw := hw.2 c_8
      refine lv_iconst (v := (-1)) hx hb dX7_input_34 (by decide) ?_
      exact kR35 (-1)  _ _ _ hw hP hD hS
set_option maxHeartbeats 4000000 in
set_option maxRecDepth 100000 in
theorem c_X7_input (l : Launch) (D : va_G) (ak : Nat → ClassId) (ad : Nat → Nat) (sz : Nat) (h7 : Nat) (xa : Nat → Nat) (ma : Nat → Nat) (pg : Nat) (pa : Nat → Nat) (Hway : Int32) (Hstate : Int32) (Hnext : Int32) (Hsteps : Int32) (Hwritten : Int32) (Pst : Int32) (Pce : Int32) (Pgi : Int32) (Pln : Int32) (Ptold : Nat → Int32) (PgivenC : Nat → Int32) (Pleast : Nat → Int32) (Pgreat : Nat → Int32) (xi : Int32) (xc : Int32) (Φ : Int32 → Prop) (hf : wp_X7_input Pce Pgi Ptold PgivenC Pleast Pgreat xi xc Φ) : Met l yX7_input wsX7_input ({ frames := 3, cells := 0, slots := 0, locals := 60 }) (cPreK D ak ad [.ref h7, .int (xi), .int (xc)] ((wW_X7_input ak ad h7 xa ma pg Hway Hstate Hnext Hsteps Hwritten)) sz ((wK_X7_input ak ad pg pa Pst Pce Pgi Pln Ptold PgivenC Pleast Pgreat))) (cI D (S := Unit) (fun (r : Int32) (u : Unit) => Φ r ) (fun u => (wW_X7_input ak ad h7 xa ma pg Hway Hstate Hnext Hsteps Hwritten)) ((wW_X7_input ak ad h7 xa ma pg Hway Hstate Hnext Hsteps Hwritten)) sz) 0 0 (va_A ((wW_X7_input ak ad h7 xa ma pg Hway Hstate Hnext Hsteps Hwritten)) sz) := by
  refine Met.ofW (cc := cX7_input) (maxL := 3) (ret := (some .int)) (by decide) rfl ?_
  intro p e s m args below meth c s₁ B hml hv
  obtain ⟨⟨rfl, hsz, hP, hE, hD0, hT⟩, hKT⟩ := hv
  have hx := B.exec
  have hb := B.bytes
  have hr := B.returns
  have hts := atoms_spec (ws := wsX7_input) B.pre
  have hown : s.vm.findClass RX7 = some m.cls := findClass_of_methodNamed B.named
  have hlocks := B.notSynchronized
  subst hsz
  have hD := hD0.self (sz := s.heap.size)
  generalize hAe : va_A ((wW_X7_input ak ad h7 xa ma pg Hway Hstate Hnext Hsteps Hwritten)) s.heap.size = A at hD hT hKT ⊢
  have hA : ∀ q : Nat, s.heap.size ≤ q → A q := fun q h => by rw [← hAe]; exact Or.inr h
  have hS : va_S A s.heap s.heap [] := va_S.rf
  have hl := lv_entry ([.ref h7, .int (xi), .int (xc)]) (n := 3) (Nat.le_of_ble_eq_true rfl)
  rw [lg_entry_eq]
  generalize (lg_sl ([.ref h7, .int (xi), .int (xc)]) ++ List.replicate (3 - (lg_sl ([.ref h7, .int (xi), .int (xc)])).length) Slot.unset).toArray = ls at hl ⊢
  have hl : lv_has ls 3 [(0, .ref h7), (1, .int (xi)), (2, .int (xc))] := hl
  exact kj_X7_input_e hx hb hown hts hml hE hT hA (Nat.le_of_ble_eq_true rfl) (Nat.le_of_ble_eq_true rfl) ⟨Nat.le_of_ble_eq_true rfl, Nat.le_of_ble_eq_true rfl⟩ h7 xa ma pg pa Hway Hstate Hnext Hsteps Hwritten Pst Pce Pgi Pln Ptold PgivenC Pleast Pgreat xi xc hKT Φ (fun r  H locs ls hw hP hD hS => W.iret (v := r) hx hb hr (fun t ht hW => ⟨⟨r, (), rfl, hw, by rw [ht]; exact hP, by rw [hAe]; exact hD⟩, by rw [hAe]; exact hS.F ht⟩) hS.2.2 dX7_input_35) (fun r  H locs ls hw hP hD hS => W.iret (v := r) hx hb hr (fun t ht hW => ⟨⟨r, (), rfl, hw, by rw [ht]; exact hP, by rw [hAe]; exact hD⟩, by rw [hAe]; exact hS.F ht⟩) hS.2.2 dX7_input_48)  _ _ _ hf hP hD hS hl

def wW_X7_canWalk (ak : Nat → ClassId) (ad : Nat → Nat) (h7 : Nat) (xa : Nat → Nat) (ma : Nat → Nat) (pg : Nat) (Hway : Int32) (Hstate : Int32) (Hnext : Int32) (Hsteps : Int32) (Hwritten : Int32) : va_W := [(h7, .inr (6, wob xa )), ((xa 3), .inr (1, xob ma (pg) (Hway) (Hstate) (Hnext) (Hsteps) (Hwritten)))]
def wK_X7_canWalk (ak : Nat → ClassId) (ad : Nat → Nat) (pg : Nat) (pa : Nat → Nat) (Pst : Int32) (Pce : Int32) (Pgi : Int32) (Pln : Int32) (Pleast : Nat → Int32) (Pgreat : Nat → Int32) : va_W := [(pg, .inr (2, pob pa (Pst) (Pce) (Pgi) (Pln))), ((pa 4), .inl (ak 0, 2, .inl (Pleast))), ((pa 5), .inl (ak 0, 2, .inl (Pgreat)))]
def wp_X7_canWalk (Pgi : Int32) (Pln : Int32) (Pleast : Nat → Int32) (Pgreat : Nat → Int32) (xi : Int32)  (Φ : Int32 → Prop) : Prop := (Pln ≤ 0 → Φ 0 ) ∧ (¬ Pln ≤ 0 → wp_X2_inputCount Pgi Pleast Pgreat (fun r_3 => wp_X7_within xi r_3 (fun r_5 => (r_5 = 0 → Φ 0 ) ∧ (¬ r_5 = 0 → Φ 1 ))))
set_option maxHeartbeats 4000000 in
set_option maxRecDepth 100000 in
theorem kj_X7_canWalk_e {p : Program} {l : Launch} {e : Env} {R : Room} {s : State} {m : MethodId} {args : Array Value} {below : List Frame} {meth : Method} {c : Code} {cells slots : Nat} {Q : State → Prop} {A : Nat → Prop} {D : va_G} {ak : Nat → ClassId} {ad : Nat → Nat} (hx : p.tables.exec = Jvm.exec) (hb : c.code = cX7_canWalk) (hown : s.vm.findClass RX7 = some m.cls) (hts : ∀ w ∈ wsX7_canWalk, w.before args s = true) (hml : c.maxLocals = 2) (hE : EV D ak s) (hT : ST D ak ad A s s.heap) (hA : ∀ q, s.heap.size ≤ q → A q) (hRf : 3 ≤ R.frames) (hRl : 56 ≤ R.locals) (hRc : cells ≤ R.cells ∧ slots ≤ R.slots) (h7 : Nat) (xa : Nat → Nat) (ma : Nat → Nat) (pg : Nat) (pa : Nat → Nat) (Hway : Int32) (Hstate : Int32) (Hnext : Int32) (Hsteps : Int32) (Hwritten : Int32) (Pst : Int32) (Pce : Int32) (Pgi : Int32) (Pln : Int32) (Pleast : Nat → Int32) (Pgreat : Nat → Int32) (xi : Int32) (hKT : KT D A (wK_X7_canWalk ak ad pg pa Pst Pce Pgi Pln Pleast Pgreat) s.heap)  (Φ : Int32 → Prop)
    (kR35 : ∀ (r : Int32)  (H : Heap) (locs : List Loc) (ls : Array Slot), (r = 0 ∨ r = 1) → Φ r  → va_P D vwCl (wW_X7_canWalk ak ad h7 xa ma pg Hway Hstate Hnext Hsteps Hwritten) H → va_D A (wW_X7_canWalk ak ad h7 xa ma pg Hway Hstate Hnext Hsteps Hwritten) → va_S A s.heap H locs → W p l e R s m args below meth c H locs cells slots Q (F0 m 35 ls [.int r]))
    : ∀  (H : Heap) (locs : List Loc) (ls : Array Slot), wp_X7_canWalk Pgi Pln Pleast Pgreat xi  Φ → va_P D vwCl (wW_X7_canWalk ak ad h7 xa ma pg Hway Hstate Hnext Hsteps Hwritten) H → va_D A (wW_X7_canWalk ak ad h7 xa ma pg Hway Hstate Hnext Hsteps Hwritten) → va_S A s.heap H locs → lv_has ls 2 [(0, .ref h7), (1, .int (xi))] → W p l e R s m args below meth c H locs cells slots Q (F0 m 0 ls ([])) := by
  have hCW : ∀ {H : Heap} {locs : List Loc}, va_S A s.heap H locs → va_P D vwCl (wK_X7_canWalk ak ad pg pa Pst Pce Pgi Pln Pleast Pgreat) H := fun hS => (hKT.kept hS.2.1).1
  intro  H locs ls hw hP hD hS hl
  delta wp_X7_canWalk at hw
  refine lv_aload_n hx hb dX7_canWalk_0 rfl (lv_at hl 0 rfl) ?_
  refine vt_get (D := D) (ci := 6) (v := .ref (xa 3)) (C := RX7) (T := TX7) (N := 10) hx hb hts (fun w h => wm_c (wc_X7 w h)) hown hE.1 hP 0 rfl rfl 3 (by decide) tX7_3 (hts (.fieldLink RX7 37 "WornLines" "hand" "LWornLines$Machine;") (wm_c hw_540)) (fun _ h9 => h9) rfl dX7_canWalk_1 ?_
  refine vt_get (D := D) (ci := 1) (v := .ref pg) (C := RX1) (T := TX1) (N := 12) hx hb hts (fun w h => wm_c (wc_X1 w h)) hown hE.1 hP 1 rfl rfl 0 (by decide) tX1_0 (hts (.fieldLink RX7 89 "WornLines$Machine" "programme" "LWornLines$Programme;") (wm_c hw_549)) (fun _ h9 => h9) rfl dX7_canWalk_4 ?_
  refine vt_get (D := D) (ci := 2) (v := .int (Pln)) (C := RX2) (T := TX2) (N := 17) hx hb hts (fun w h => wm_c (wc_X2 w h)) hown hE.1 (hCW hS) 0 rfl rfl 9 (by decide) tX2_9 (hts (.fieldLink RX7 106 "WornLines$Programme" "lines" "I") (wm_c hw_553)) (fun _ h9 => h9) rfl dX7_canWalk_7 ?_
  refine lv_if_le (tgt := 34) hx hb dX7_canWalk_10 (by decide) (fun c_1 => ?_) (fun c_1 => ?_)
  · replace hw := hw.1 c_1
    refine lv_iconst (v := 0) hx hb dX7_canWalk_34 (by decide) ?_
    exact kR35 0  _ _ _ (Or.inl rfl) hw hP hD hS
  · replace hw := hw.2 c_1
    refine lv_iload_n hx hb dX7_canWalk_13 rfl (lv_at hl 1 rfl) ?_
    refine lv_aload_n hx hb dX7_canWalk_14 rfl (lv_at hl 0 rfl) ?_
    refine vt_get (D := D) (ci := 6) (v := .ref (xa 3)) (C := RX7) (T := TX7) (N := 10) hx hb hts (fun w h => wm_c (wc_X7 w h)) hown hE.1 hP 0 rfl rfl 3 (by decide) tX7_3 (hts (.fieldLink RX7 37 "WornLines" "hand" "LWornLines$Machine;") (wm_c hw_540)) (fun _ h9 => h9) rfl dX7_canWalk_15 ?_
    refine vt_get (D := D) (ci := 1) (v := .ref pg) (C := RX1) (T := TX1) (N := 12) hx hb hts (fun w h => wm_c (wc_X1 w h)) hown hE.1 hP 1 rfl rfl 0 (by decide) tX1_0 (hts (.fieldLink RX7 89 "WornLines$Machine" "programme" "LWornLines$Programme;") (wm_c hw_549)) (fun _ h9 => h9) rfl dX7_canWalk_18 ?_
    refine kc_i (wc := []) (wr := [(h7, .inr (6, wob xa )), ((xa 3), .inr (1, xob ma (pg) (Hway) (Hstate) (Hnext) (Hsteps) (Hwritten)))]) hP hD hS hA [] [0, 1] rfl rfl (by decide) (by decide) (va_runV (As := []) (rest := [.int (xi)]) ⟨hx, hb, hml, hown, hts⟩ (c_X2_inputCount l D ak ad _ pg pa Pst Pce Pgi Pln Pleast Pgreat _ hw) (cwV 0 hts gX7_canWalk_X2_inputCount rfl rfl rfl hv_X2_inputCount ⟨(Nat.le_trans (Nat.le_of_ble_eq_true rfl) hRf), (Nat.le_trans (Nat.le_of_ble_eq_true rfl) hRl)⟩) (kc_preVK (As := []) (wc := []) (ck := (wK_X2_inputCount ak ad pg pa Pst Pce Pgi Pln Pleast Pgreat)) hKT hE hT hP hD hS hA [] [0, 1, 2] (by decide) rfl rfl rfl (hCW hS) 0 2 rfl rfl rfl) rfl rfl hl.1 rfl (lv_room (Nat.le_of_ble_eq_true rfl)) dX7_canWalk_21 ⟨hRc.1, hRc.2⟩) (fun r_3 u_2 H locs hw hP hD hS => ?_)
    try dsimp -zeta only at hw
    have hP : va_P D vwCl (wW_X7_canWalk ak ad h7 xa ma pg Hway Hstate Hnext Hsteps Hwritten) H := hP.sub [0, 1] rfl
    have hD : va_D A (wW_X7_canWalk ak ad h7 xa ma pg Hway Hstate Hnext Hsteps Hwritten) := hD.sub [0, 1] (by decide) rfl
    refine kc_i (wc := []) (wr := [(h7, .inr (6, wob xa )), ((xa 3), .inr (1, xob ma (pg) (Hway) (Hstate) (Hnext) (Hsteps) (Hwritten)))]) hP hD hS hA [] [0, 1] rfl rfl (by decide) (by decide) (va_runS (As := [.int (xi), .int (r_3)]) (rest := []) ⟨hx, hb, hml, hown, hts⟩ (c_X7_within l D ak ad _ xi r_3 _ hw) (va_cwS 2 hts gX7_canWalk_X7_within rfl rfl rfl hz_X7_within ⟨(Nat.le_trans (Nat.le_of_ble_eq_true rfl) hRf), (Nat.le_trans (Nat.le_of_ble_eq_true rfl) hRl)⟩) (kc_pre (As := [.int (xi), .int (r_3)]) (wc := []) hE hT hP hD hS hA [] (by decide) rfl rfl) rfl rfl hl.1 rfl (lv_room (Nat.le_of_ble_eq_true rfl)) dX7_canWalk_24 ⟨hRc.1, hRc.2⟩) (fun r_5 u_4 H locs hw hP hD hS => ?_)
    try dsimp -zeta only at hw
    have hP : va_P D vwCl (wW_X7_canWalk ak ad h7 xa ma pg Hway Hstate Hnext Hsteps Hwritten) H := hP.sub [0, 1] rfl
    have hD : va_D A (wW_X7_canWalk ak ad h7 xa ma pg Hway Hstate Hnext Hsteps Hwritten) := hD.sub [0, 1] (by decide) rfl
    refine lv_if_eq (tgt := 34) hx hb dX7_canWalk_27 (by decide) (fun c_6 => ?_) (fun c_6 => ?_)
    · replace hw := hw.1 c_6
      refine lv_iconst (v := 0) hx hb dX7_canWalk_34 (by decide) ?_
      exact kR35 0  _ _ _ (Or.inl rfl) hw hP hD hS
    · replace hw := hw.2 c_6
      refine lv_iconst (v := 1) hx hb dX7_canWalk_30 (by decide) ?_
      refine lv_goto (tgt := 35) hx hb dX7_canWalk_31 (by decide) ?_
      exact kR35 1  _ _ _ (Or.inr rfl) hw hP hD hS
set_option maxHeartbeats 4000000 in
set_option maxRecDepth 100000 in
theorem c_X7_canWalk (l : Launch) (D : va_G) (ak : Nat → ClassId) (ad : Nat → Nat) (sz : Nat) (h7 : Nat) (xa : Nat → Nat) (ma : Nat → Nat) (pg : Nat) (pa : Nat → Nat) (Hway : Int32) (Hstate : Int32) (Hnext : Int32) (Hsteps : Int32) (Hwritten : Int32) (Pst : Int32) (Pce : Int32) (Pgi : Int32) (Pln : Int32) (Pleast : Nat → Int32) (Pgreat : Nat → Int32) (xi : Int32) (Φ : Int32 → Prop) (hf : wp_X7_canWalk Pgi Pln Pleast Pgreat xi Φ) : Met l yX7_canWalk wsX7_canWalk ({ frames := 3, cells := 0, slots := 0, locals := 56 }) (cPreK D ak ad [.ref h7, .int (xi)] ((wW_X7_canWalk ak ad h7 xa ma pg Hway Hstate Hnext Hsteps Hwritten)) sz ((wK_X7_canWalk ak ad pg pa Pst Pce Pgi Pln Pleast Pgreat))) (cI D (S := Unit) (fun (r : Int32) (u : Unit) => Φ r ) (fun u => (wW_X7_canWalk ak ad h7 xa ma pg Hway Hstate Hnext Hsteps Hwritten)) ((wW_X7_canWalk ak ad h7 xa ma pg Hway Hstate Hnext Hsteps Hwritten)) sz) 0 0 (va_A ((wW_X7_canWalk ak ad h7 xa ma pg Hway Hstate Hnext Hsteps Hwritten)) sz) := by
  refine Met.ofW (cc := cX7_canWalk) (maxL := 2) (ret := (some .boolean)) (by decide) rfl ?_
  intro p e s m args below meth c s₁ B hml hv
  obtain ⟨⟨rfl, hsz, hP, hE, hD0, hT⟩, hKT⟩ := hv
  have hx := B.exec
  have hb := B.bytes
  have hr := B.returns
  have hts := atoms_spec (ws := wsX7_canWalk) B.pre
  have hown : s.vm.findClass RX7 = some m.cls := findClass_of_methodNamed B.named
  have hlocks := B.notSynchronized
  subst hsz
  have hD := hD0.self (sz := s.heap.size)
  generalize hAe : va_A ((wW_X7_canWalk ak ad h7 xa ma pg Hway Hstate Hnext Hsteps Hwritten)) s.heap.size = A at hD hT hKT ⊢
  have hA : ∀ q : Nat, s.heap.size ≤ q → A q := fun q h => by rw [← hAe]; exact Or.inr h
  have hS : va_S A s.heap s.heap [] := va_S.rf
  have hl := lv_entry ([.ref h7, .int (xi)]) (n := 2) (Nat.le_of_ble_eq_true rfl)
  rw [lg_entry_eq]
  generalize (lg_sl ([.ref h7, .int (xi)]) ++ List.replicate (2 - (lg_sl ([.ref h7, .int (xi)])).length) Slot.unset).toArray = ls at hl ⊢
  have hl : lv_has ls 2 [(0, .ref h7), (1, .int (xi))] := hl
  exact kj_X7_canWalk_e hx hb hown hts hml hE hT hA (Nat.le_of_ble_eq_true rfl) (Nat.le_of_ble_eq_true rfl) ⟨Nat.le_of_ble_eq_true rfl, Nat.le_of_ble_eq_true rfl⟩ h7 xa ma pg pa Hway Hstate Hnext Hsteps Hwritten Pst Pce Pgi Pln Pleast Pgreat xi hKT Φ (fun r  H locs ls hz hw hP hD hS => W.zret (v := r) hx hb hr (bl_zn hz) (fun t ht hW => ⟨⟨r, (), rfl, hw, by rw [ht]; exact hP, by rw [hAe]; exact hD⟩, by rw [hAe]; exact hS.F ht⟩) hS.2.2 dX7_canWalk_35)  _ _ _ hf hP hD hS hl

def wW_X7_begin (ak : Nat → ClassId) (ad : Nat → Nat) (h7 : Nat) (xa : Nat → Nat) (ma : Nat → Nat) (pg : Nat) (Hway : Int32) (Hstate : Int32) (Hnext : Int32) (Hsteps : Int32) (Hwritten : Int32) (Hcells : Nat → Int32) : va_W := [(h7, .inr (6, wob xa )), ((xa 3), .inr (1, xob ma (pg) (Hway) (Hstate) (Hnext) (Hsteps) (Hwritten))), ((ma 3), .inl (ak 0, 6, .inl (Hcells)))]
def wK_X7_begin (ak : Nat → ClassId) (ad : Nat → Nat) (pg : Nat) (pa : Nat → Nat) (Pst : Int32) (Pce : Int32) (Pgi : Int32) (Pln : Int32) (Ptold : Nat → Int32) (PgivenC : Nat → Int32) (Pleast : Nat → Int32) (Pgreat : Nat → Int32) : va_W := [(pg, .inr (2, pob pa (Pst) (Pce) (Pgi) (Pln))), ((pa 2), .inl (ak 0, 6, .inl (Ptold))), ((pa 3), .inl (ak 0, 2, .inl (PgivenC))), ((pa 4), .inl (ak 0, 2, .inl (Pleast))), ((pa 5), .inl (ak 0, 2, .inl (Pgreat)))]
def wp_X7_begin (Pce : Int32) (Pgi : Int32) (Pln : Int32) (Ptold : Nat → Int32) (PgivenC : Nat → Int32) (Pleast : Nat → Int32) (Pgreat : Nat → Int32) (xi : Int32) (Hstate : Int32) (Hnext : Int32) (Hsteps : Int32) (Hwritten : Int32) (Hcells : Nat → Int32) (Φ : Int32 → Int32 → Int32 → Int32 → Int32 → (Nat → Int32) → Prop) : Prop := wp_X7_canWalk Pgi Pln Pleast Pgreat xi (fun r_2 => (¬ r_2 = 0 → wp_X1_start Pce Pgi Ptold PgivenC Pleast Pgreat xi Hstate Hnext Hsteps Hwritten Hcells (fun Mstate_5 Mnext_6 Msteps_7 Mwritten_8 Mcells_9 => Φ 1 Mstate_5 Mnext_6 Msteps_7 Mwritten_8 Mcells_9)) ∧ (r_2 = 0 → Φ 0 Hstate Hnext Hsteps Hwritten Hcells))
set_option maxHeartbeats 4000000 in
set_option maxRecDepth 100000 in
theorem kj_X7_begin_e {p : Program} {l : Launch} {e : Env} {R : Room} {s : State} {m : MethodId} {args : Array Value} {below : List Frame} {meth : Method} {c : Code} {cells slots : Nat} {Q : State → Prop} {A : Nat → Prop} {D : va_G} {ak : Nat → ClassId} {ad : Nat → Nat} (hx : p.tables.exec = Jvm.exec) (hb : c.code = cX7_begin) (hown : s.vm.findClass RX7 = some m.cls) (hts : ∀ w ∈ wsX7_begin, w.before args s = true) (hml : c.maxLocals = 2) (hE : EV D ak s) (hT : ST D ak ad A s s.heap) (hA : ∀ q, s.heap.size ≤ q → A q) (hRf : 4 ≤ R.frames) (hRl : 82 ≤ R.locals) (hRc : cells ≤ R.cells ∧ slots ≤ R.slots) (h7 : Nat) (xa : Nat → Nat) (ma : Nat → Nat) (pg : Nat) (pa : Nat → Nat) (Hway : Int32) (Pst : Int32) (Pce : Int32) (Pgi : Int32) (Pln : Int32) (Ptold : Nat → Int32) (PgivenC : Nat → Int32) (Pleast : Nat → Int32) (Pgreat : Nat → Int32) (xi : Int32) (hKT : KT D A (wK_X7_begin ak ad pg pa Pst Pce Pgi Pln Ptold PgivenC Pleast Pgreat) s.heap)  (Φ : Int32 → Int32 → Int32 → Int32 → Int32 → (Nat → Int32) → Prop)
    (kR9 : ∀ (r : Int32) (Hstate : Int32) (Hnext : Int32) (Hsteps : Int32) (Hwritten : Int32) (Hcells : Nat → Int32) (H : Heap) (locs : List Loc) (ls : Array Slot), (r = 0 ∨ r = 1) → Φ r Hstate Hnext Hsteps Hwritten Hcells → va_P D vwCl (wW_X7_begin ak ad h7 xa ma pg Hway Hstate Hnext Hsteps Hwritten Hcells) H → va_D A (wW_X7_begin ak ad h7 xa ma pg Hway Hstate Hnext Hsteps Hwritten Hcells) → va_S A s.heap H locs → W p l e R s m args below meth c H locs cells slots Q (F0 m 9 ls [.int r]))
    (kR19 : ∀ (r : Int32) (Hstate : Int32) (Hnext : Int32) (Hsteps : Int32) (Hwritten : Int32) (Hcells : Nat → Int32) (H : Heap) (locs : List Loc) (ls : Array Slot), (r = 0 ∨ r = 1) → Φ r Hstate Hnext Hsteps Hwritten Hcells → va_P D vwCl (wW_X7_begin ak ad h7 xa ma pg Hway Hstate Hnext Hsteps Hwritten Hcells) H → va_D A (wW_X7_begin ak ad h7 xa ma pg Hway Hstate Hnext Hsteps Hwritten Hcells) → va_S A s.heap H locs → W p l e R s m args below meth c H locs cells slots Q (F0 m 19 ls [.int r]))
    : ∀ (Hstate : Int32) (Hnext : Int32) (Hsteps : Int32) (Hwritten : Int32) (Hcells : Nat → Int32) (H : Heap) (locs : List Loc) (ls : Array Slot), wp_X7_begin Pce Pgi Pln Ptold PgivenC Pleast Pgreat xi Hstate Hnext Hsteps Hwritten Hcells Φ → va_P D vwCl (wW_X7_begin ak ad h7 xa ma pg Hway Hstate Hnext Hsteps Hwritten Hcells) H → va_D A (wW_X7_begin ak ad h7 xa ma pg Hway Hstate Hnext Hsteps Hwritten Hcells) → va_S A s.heap H locs → lv_has ls 2 [(0, .ref h7), (1, .int (xi))] → W p l e R s m args below meth c H locs cells slots Q (F0 m 0 ls ([])) := by
  have hCW : ∀ {H : Heap} {locs : List Loc}, va_S A s.heap H locs → va_P D vwCl (wK_X7_begin ak ad pg pa Pst Pce Pgi Pln Ptold PgivenC Pleast Pgreat) H := fun hS => (hKT.kept hS.2.1).1
  intro Hstate Hnext Hsteps Hwritten Hcells H locs ls hw hP hD hS hl
  delta wp_X7_begin at hw
  refine lv_aload_n hx hb dX7_begin_0 rfl (lv_at hl 0 rfl) ?_
  refine lv_iload_n hx hb dX7_begin_1 rfl (lv_at hl 1 rfl) ?_
  refine kc_i (wc := (wW_X7_canWalk ak ad h7 xa ma pg Hway Hstate Hnext Hsteps Hwritten)) (wr := [((ma 3), .inl (ak 0, 6, .inl (Hcells)))]) hP hD hS hA [0, 1] [2] rfl rfl (by decide) (by decide) (va_runV (As := [.int (xi)]) (rest := []) ⟨hx, hb, hml, hown, hts⟩ (c_X7_canWalk l D ak ad _ h7 xa ma pg pa Hway Hstate Hnext Hsteps Hwritten Pst Pce Pgi Pln Pleast Pgreat xi _ hw) (cwV 1 hts gX7_begin_X7_canWalk rfl rfl rfl hv_X7_canWalk ⟨(Nat.le_trans (Nat.le_of_ble_eq_true rfl) hRf), (Nat.le_trans (Nat.le_of_ble_eq_true rfl) hRl)⟩) (kc_preVK (As := [.int (xi)]) (wc := (wW_X7_canWalk ak ad h7 xa ma pg Hway Hstate Hnext Hsteps Hwritten)) (ck := (wK_X7_canWalk ak ad pg pa Pst Pce Pgi Pln Pleast Pgreat)) hKT hE hT hP hD hS hA [0, 1] [0, 3, 4] (by decide) rfl rfl rfl hP 0 6 rfl rfl rfl) rfl rfl hl.1 rfl (lv_room (Nat.le_of_ble_eq_true rfl)) dX7_begin_2 ⟨hRc.1, hRc.2⟩) (fun r_2 u_1 H locs hw hP hD hS => ?_)
  try dsimp -zeta only at hw
  have hP : va_P D vwCl (wW_X7_begin ak ad h7 xa ma pg Hway Hstate Hnext Hsteps Hwritten Hcells) H := hP.sub [1, 2, 0] rfl
  have hD : va_D A (wW_X7_begin ak ad h7 xa ma pg Hway Hstate Hnext Hsteps Hwritten Hcells) := hD.sub [1, 2, 0] (by decide) rfl
  refine lv_if_ne (tgt := 10) hx hb dX7_begin_5 (by decide) (fun c_3 => ?_) (fun c_3 => ?_)
  · replace hw := hw.1 c_3
    refine lv_aload_n hx hb dX7_begin_10 rfl (lv_at hl 0 rfl) ?_
    refine vt_get (D := D) (ci := 6) (v := .ref (xa 3)) (C := RX7) (T := TX7) (N := 10) hx hb hts (fun w h => wm_c (wc_X7 w h)) hown hE.1 hP 0 rfl rfl 3 (by decide) tX7_3 (hts (.fieldLink RX7 37 "WornLines" "hand" "LWornLines$Machine;") (wm_c hw_540)) (fun _ h9 => h9) rfl dX7_begin_11 ?_
    refine lv_iload_n hx hb dX7_begin_14 rfl (lv_at hl 1 rfl) ?_
    refine kc_v (wc := (wW_X1_start ak ad (xa 3) ma pg Hway Hstate Hnext Hsteps Hwritten Hcells)) (wr := [(h7, .inr (6, wob xa ))]) hP hD hS hA [1, 2] [0] rfl rfl (by decide) (by decide) (va_runV (As := [.int (xi)]) (rest := []) ⟨hx, hb, hml, hown, hts⟩ (c_X1_start l D ak ad _ (xa 3) ma pg pa Hway Hstate Hnext Hsteps Hwritten Hcells Pst Pce Pgi Pln Ptold PgivenC Pleast Pgreat xi _ hw) (cwV 1 hts gX7_begin_X1_start rfl rfl rfl hv_X1_start ⟨(Nat.le_trans (Nat.le_of_ble_eq_true rfl) hRf), (Nat.le_trans (Nat.le_of_ble_eq_true rfl) hRl)⟩) (kc_preVK (As := [.int (xi)]) (wc := (wW_X1_start ak ad (xa 3) ma pg Hway Hstate Hnext Hsteps Hwritten Hcells)) (ck := (wK_X1_start ak ad pg pa Pst Pce Pgi Pln Ptold PgivenC Pleast Pgreat)) hKT hE hT hP hD hS hA [1, 2] [0, 1, 2, 3, 4] (by decide) rfl rfl rfl hP 1 1 rfl rfl rfl) rfl rfl hl.1 rfl (lv_room (Nat.le_of_ble_eq_true rfl)) dX7_begin_15 ⟨hRc.1, hRc.2⟩) (fun u_4 H locs hw hP hD hS => ?_)
    obtain ⟨Mstate_5, Mnext_6, Msteps_7, Mwritten_8, Mcells_9⟩ := u_4
    try dsimp -zeta only at hw
    have hP : va_P D vwCl (wW_X7_begin ak ad h7 xa ma pg Hway Mstate_5 Mnext_6 Msteps_7 Mwritten_8 Mcells_9) H := hP.sub [0, 1, 2] rfl
    have hD : va_D A (wW_X7_begin ak ad h7 xa ma pg Hway Mstate_5 Mnext_6 Msteps_7 Mwritten_8 Mcells_9) := hD.sub [0, 1, 2] (by decide) rfl
    refine lv_iconst (v := 1) hx hb dX7_begin_18 (by decide) ?_
    exact kR19 1 Mstate_5 Mnext_6 Msteps_7 Mwritten_8 Mcells_9 _ _ _ (Or.inr rfl) hw hP hD hS
  · replace hw := hw.2 c_3
    refine lv_iconst (v := 0) hx hb dX7_begin_8 (by decide) ?_
    exact kR9 0 Hstate Hnext Hsteps Hwritten Hcells _ _ _ (Or.inl rfl) hw hP hD hS
set_option maxHeartbeats 4000000 in
set_option maxRecDepth 100000 in
theorem c_X7_begin (l : Launch) (D : va_G) (ak : Nat → ClassId) (ad : Nat → Nat) (sz : Nat) (h7 : Nat) (xa : Nat → Nat) (ma : Nat → Nat) (pg : Nat) (pa : Nat → Nat) (Hway : Int32) (Hstate : Int32) (Hnext : Int32) (Hsteps : Int32) (Hwritten : Int32) (Hcells : Nat → Int32) (Pst : Int32) (Pce : Int32) (Pgi : Int32) (Pln : Int32) (Ptold : Nat → Int32) (PgivenC : Nat → Int32) (Pleast : Nat → Int32) (Pgreat : Nat → Int32) (xi : Int32) (Φ : Int32 → Int32 → Int32 → Int32 → Int32 → (Nat → Int32) → Prop) (hf : wp_X7_begin Pce Pgi Pln Ptold PgivenC Pleast Pgreat xi Hstate Hnext Hsteps Hwritten Hcells Φ) : Met l yX7_begin wsX7_begin ({ frames := 4, cells := 0, slots := 0, locals := 82 }) (cPreK D ak ad [.ref h7, .int (xi)] ((wW_X7_begin ak ad h7 xa ma pg Hway Hstate Hnext Hsteps Hwritten Hcells)) sz ((wK_X7_begin ak ad pg pa Pst Pce Pgi Pln Ptold PgivenC Pleast Pgreat))) (cI D (S := (Int32) × (Int32) × (Int32) × (Int32) × (Nat → Int32)) (fun (r : Int32) (u : (Int32) × (Int32) × (Int32) × (Int32) × (Nat → Int32)) => Φ r u.1 u.2.1 u.2.2.1 u.2.2.2.1 u.2.2.2.2) (fun u => (wW_X7_begin ak ad h7 xa ma pg Hway u.1 u.2.1 u.2.2.1 u.2.2.2.1 u.2.2.2.2)) ((wW_X7_begin ak ad h7 xa ma pg Hway Hstate Hnext Hsteps Hwritten Hcells)) sz) 0 0 (va_A ((wW_X7_begin ak ad h7 xa ma pg Hway Hstate Hnext Hsteps Hwritten Hcells)) sz) := by
  refine Met.ofW (cc := cX7_begin) (maxL := 2) (ret := (some .boolean)) (by decide) rfl ?_
  intro p e s m args below meth c s₁ B hml hv
  obtain ⟨⟨rfl, hsz, hP, hE, hD0, hT⟩, hKT⟩ := hv
  have hx := B.exec
  have hb := B.bytes
  have hr := B.returns
  have hts := atoms_spec (ws := wsX7_begin) B.pre
  have hown : s.vm.findClass RX7 = some m.cls := findClass_of_methodNamed B.named
  have hlocks := B.notSynchronized
  subst hsz
  have hD := hD0.self (sz := s.heap.size)
  generalize hAe : va_A ((wW_X7_begin ak ad h7 xa ma pg Hway Hstate Hnext Hsteps Hwritten Hcells)) s.heap.size = A at hD hT hKT ⊢
  have hA : ∀ q : Nat, s.heap.size ≤ q → A q := fun q h => by rw [← hAe]; exact Or.inr h
  have hS : va_S A s.heap s.heap [] := va_S.rf
  have hl := lv_entry ([.ref h7, .int (xi)]) (n := 2) (Nat.le_of_ble_eq_true rfl)
  rw [lg_entry_eq]
  generalize (lg_sl ([.ref h7, .int (xi)]) ++ List.replicate (2 - (lg_sl ([.ref h7, .int (xi)])).length) Slot.unset).toArray = ls at hl ⊢
  have hl : lv_has ls 2 [(0, .ref h7), (1, .int (xi))] := hl
  exact kj_X7_begin_e hx hb hown hts hml hE hT hA (Nat.le_of_ble_eq_true rfl) (Nat.le_of_ble_eq_true rfl) ⟨Nat.le_of_ble_eq_true rfl, Nat.le_of_ble_eq_true rfl⟩ h7 xa ma pg pa Hway Pst Pce Pgi Pln Ptold PgivenC Pleast Pgreat xi hKT Φ (fun r Hstate Hnext Hsteps Hwritten Hcells H locs ls hz hw hP hD hS => W.zret (v := r) hx hb hr (bl_zn hz) (fun t ht hW => ⟨⟨r, (Hstate, Hnext, Hsteps, Hwritten, Hcells), rfl, hw, by rw [ht]; exact hP, by rw [hAe]; exact hD⟩, by rw [hAe]; exact hS.F ht⟩) hS.2.2 dX7_begin_9) (fun r Hstate Hnext Hsteps Hwritten Hcells H locs ls hz hw hP hD hS => W.zret (v := r) hx hb hr (bl_zn hz) (fun t ht hW => ⟨⟨r, (Hstate, Hnext, Hsteps, Hwritten, Hcells), rfl, hw, by rw [ht]; exact hP, by rw [hAe]; exact hD⟩, by rw [hAe]; exact hS.F ht⟩) hS.2.2 dX7_begin_19) Hstate Hnext Hsteps Hwritten Hcells _ _ _ hf hP hD hS hl

def wW_X7_state (ak : Nat → ClassId) (ad : Nat → Nat) (h7 : Nat) (xa : Nat → Nat) (ma : Nat → Nat) (pg : Nat) (Hway : Int32) (Hstate : Int32) (Hnext : Int32) (Hsteps : Int32) (Hwritten : Int32) : va_W := [(h7, .inr (6, wob xa )), ((xa 3), .inr (1, xob ma (pg) (Hway) (Hstate) (Hnext) (Hsteps) (Hwritten)))]
def wp_X7_state (Hstate : Int32) (Hnext : Int32) (Hsteps : Int32) (Hwritten : Int32) (xw : Int32)  (Φ : Int32 → Prop) : Prop := (xw = 0 → Φ Hstate ) ∧ (xw = 1 → (Hstate = 0 → Φ (-1) ) ∧ (¬ Hstate = 0 → (¬ Hstate = 2 → Φ Hnext ) ∧ (Hstate = 2 → Φ (-1) ))) ∧ (xw = 2 → Φ Hsteps ) ∧ (xw = 3 → Φ Hwritten ) ∧ (((xw : Int32).toInt < 0 ∨ 3 < (xw : Int32).toInt) → Φ (-1) )
set_option maxHeartbeats 4000000 in
set_option maxRecDepth 100000 in
theorem kj_X7_state_e {p : Program} {l : Launch} {e : Env} {R : Room} {s : State} {m : MethodId} {args : Array Value} {below : List Frame} {meth : Method} {c : Code} {cells slots : Nat} {Q : State → Prop} {A : Nat → Prop} {D : va_G} {ak : Nat → ClassId} {ad : Nat → Nat} (hx : p.tables.exec = Jvm.exec) (hb : c.code = cX7_state) (hown : s.vm.findClass RX7 = some m.cls) (hts : ∀ w ∈ wsX7_state, w.before args s = true) (hml : c.maxLocals = 2) (hE : EV D ak s) (hT : ST D ak ad A s s.heap) (hA : ∀ q, s.heap.size ≤ q → A q) (h7 : Nat) (xa : Nat → Nat) (ma : Nat → Nat) (pg : Nat) (Hway : Int32) (Hstate : Int32) (Hnext : Int32) (Hsteps : Int32) (Hwritten : Int32) (xw : Int32)  (Φ : Int32 → Prop)
    (kR39 : ∀ (r : Int32)  (H : Heap) (locs : List Loc) (ls : Array Slot), Φ r  → va_P D vwCl (wW_X7_state ak ad h7 xa ma pg Hway Hstate Hnext Hsteps Hwritten) H → va_D A (wW_X7_state ak ad h7 xa ma pg Hway Hstate Hnext Hsteps Hwritten) → va_S A s.heap H locs → W p l e R s m args below meth c H locs cells slots Q (F0 m 39 ls [.int r]))
    (kR72 : ∀ (r : Int32)  (H : Heap) (locs : List Loc) (ls : Array Slot), Φ r  → va_P D vwCl (wW_X7_state ak ad h7 xa ma pg Hway Hstate Hnext Hsteps Hwritten) H → va_D A (wW_X7_state ak ad h7 xa ma pg Hway Hstate Hnext Hsteps Hwritten) → va_S A s.heap H locs → W p l e R s m args below meth c H locs cells slots Q (F0 m 72 ls [.int r]))
    (kR80 : ∀ (r : Int32)  (H : Heap) (locs : List Loc) (ls : Array Slot), Φ r  → va_P D vwCl (wW_X7_state ak ad h7 xa ma pg Hway Hstate Hnext Hsteps Hwritten) H → va_D A (wW_X7_state ak ad h7 xa ma pg Hway Hstate Hnext Hsteps Hwritten) → va_S A s.heap H locs → W p l e R s m args below meth c H locs cells slots Q (F0 m 80 ls [.int r]))
    (kR88 : ∀ (r : Int32)  (H : Heap) (locs : List Loc) (ls : Array Slot), Φ r  → va_P D vwCl (wW_X7_state ak ad h7 xa ma pg Hway Hstate Hnext Hsteps Hwritten) H → va_D A (wW_X7_state ak ad h7 xa ma pg Hway Hstate Hnext Hsteps Hwritten) → va_S A s.heap H locs → W p l e R s m args below meth c H locs cells slots Q (F0 m 88 ls [.int r]))
    (kR90 : ∀ (r : Int32)  (H : Heap) (locs : List Loc) (ls : Array Slot), Φ r  → va_P D vwCl (wW_X7_state ak ad h7 xa ma pg Hway Hstate Hnext Hsteps Hwritten) H → va_D A (wW_X7_state ak ad h7 xa ma pg Hway Hstate Hnext Hsteps Hwritten) → va_S A s.heap H locs → W p l e R s m args below meth c H locs cells slots Q (F0 m 90 ls [.int r]))
    : ∀  (H : Heap) (locs : List Loc) (ls : Array Slot), wp_X7_state Hstate Hnext Hsteps Hwritten xw  Φ → va_P D vwCl (wW_X7_state ak ad h7 xa ma pg Hway Hstate Hnext Hsteps Hwritten) H → va_D A (wW_X7_state ak ad h7 xa ma pg Hway Hstate Hnext Hsteps Hwritten) → va_S A s.heap H locs → lv_has ls 2 [(0, .ref h7), (1, .int (xw))] → W p l e R s m args below meth c H locs cells slots Q (F0 m 0 ls ([])) := by
  intro  H locs ls hw hP hD hS hl
  delta wp_X7_state at hw
  refine lv_iload_n hx hb dX7_state_0 rfl (lv_at hl 1 rfl) ?_
  by_cases k_1_0 : xw = (0 : Int32)
  · refine lv_tableIn (tgt := 32) hx hb dX7_state_1 (by rw [k_1_0]; decide) (by rw [k_1_0]; decide) (off := 31) (by rw [k_1_0]; rfl) (by decide) ?_
    replace hw := hw.1 k_1_0
    refine lv_aload_n hx hb dX7_state_32 rfl (lv_at hl 0 rfl) ?_
    refine vt_get (D := D) (ci := 6) (v := .ref (xa 3)) (C := RX7) (T := TX7) (N := 10) hx hb hts (fun w h => wm_c (wc_X7 w h)) hown hE.1 hP 0 rfl rfl 3 (by decide) tX7_3 (hts (.fieldLink RX7 37 "WornLines" "hand" "LWornLines$Machine;") (wm_c hw_540)) (fun _ h9 => h9) rfl dX7_state_33 ?_
    refine vt_get (D := D) (ci := 1) (v := .int (Hstate)) (C := RX1) (T := TX1) (N := 12) hx hb hts (fun w h => wm_c (wc_X1 w h)) hown hE.1 hP 1 rfl rfl 8 (by decide) tX1_8 (hts (.fieldLink RX7 155 "WornLines$Machine" "state" "I") (wm_c hw_559)) (fun _ h9 => h9) rfl dX7_state_36 ?_
    exact kR39 Hstate  _ _ _ hw hP hD hS
  replace hw := hw.2
  by_cases k_1_1 : xw = (1 : Int32)
  · refine lv_tableIn (tgt := 40) hx hb dX7_state_1 (by rw [k_1_1]; decide) (by rw [k_1_1]; decide) (off := 39) (by rw [k_1_1]; rfl) (by decide) ?_
    replace hw := hw.1 k_1_1
    refine lv_aload_n hx hb dX7_state_40 rfl (lv_at hl 0 rfl) ?_
    refine vt_get (D := D) (ci := 6) (v := .ref (xa 3)) (C := RX7) (T := TX7) (N := 10) hx hb hts (fun w h => wm_c (wc_X7 w h)) hown hE.1 hP 0 rfl rfl 3 (by decide) tX7_3 (hts (.fieldLink RX7 37 "WornLines" "hand" "LWornLines$Machine;") (wm_c hw_540)) (fun _ h9 => h9) rfl dX7_state_41 ?_
    refine vt_get (D := D) (ci := 1) (v := .int (Hstate)) (C := RX1) (T := TX1) (N := 12) hx hb hts (fun w h => wm_c (wc_X1 w h)) hown hE.1 hP 1 rfl rfl 8 (by decide) tX1_8 (hts (.fieldLink RX7 155 "WornLines$Machine" "state" "I") (wm_c hw_559)) (fun _ h9 => h9) rfl dX7_state_44 ?_
    refine lv_if_eq (tgt := 61) hx hb dX7_state_47 (by decide) (fun c_1 => ?_) (fun c_1 => ?_)
    · replace hw := hw.1 c_1
      refine lv_iconst (v := (-1)) hx hb dX7_state_61 (by decide) ?_
      refine lv_goto (tgt := 72) hx hb dX7_state_62 (by decide) ?_
      exact kR72 (-1)  _ _ _ hw hP hD hS
    · replace hw := hw.2 c_1
      refine lv_aload_n hx hb dX7_state_50 rfl (lv_at hl 0 rfl) ?_
      refine vt_get (D := D) (ci := 6) (v := .ref (xa 3)) (C := RX7) (T := TX7) (N := 10) hx hb hts (fun w h => wm_c (wc_X7 w h)) hown hE.1 hP 0 rfl rfl 3 (by decide) tX7_3 (hts (.fieldLink RX7 37 "WornLines" "hand" "LWornLines$Machine;") (wm_c hw_540)) (fun _ h9 => h9) rfl dX7_state_51 ?_
      refine vt_get (D := D) (ci := 1) (v := .int (Hstate)) (C := RX1) (T := TX1) (N := 12) hx hb hts (fun w h => wm_c (wc_X1 w h)) hown hE.1 hP 1 rfl rfl 8 (by decide) tX1_8 (hts (.fieldLink RX7 155 "WornLines$Machine" "state" "I") (wm_c hw_559)) (fun _ h9 => h9) rfl dX7_state_54 ?_
      refine lv_iconst (v := 2) hx hb dX7_state_57 (by decide) ?_
      refine lv_icmp_ne (tgt := 65) hx hb dX7_state_58 (by decide) (fun c_2 => ?_) (fun c_2 => ?_)
      · replace hw := hw.1 c_2
        refine lv_aload_n hx hb dX7_state_65 rfl (lv_at hl 0 rfl) ?_
        refine vt_get (D := D) (ci := 6) (v := .ref (xa 3)) (C := RX7) (T := TX7) (N := 10) hx hb hts (fun w h => wm_c (wc_X7 w h)) hown hE.1 hP 0 rfl rfl 3 (by decide) tX7_3 (hts (.fieldLink RX7 37 "WornLines" "hand" "LWornLines$Machine;") (wm_c hw_540)) (fun _ h9 => h9) rfl dX7_state_66 ?_
        refine vt_get (D := D) (ci := 1) (v := .int (Hnext)) (C := RX1) (T := TX1) (N := 12) hx hb hts (fun w h => wm_c (wc_X1 w h)) hown hE.1 hP 1 rfl rfl 9 (by decide) tX1_9 (hts (.fieldLink RX7 158 "WornLines$Machine" "next" "I") (wm_c hw_560)) (fun _ h9 => h9) rfl dX7_state_69 ?_
        exact kR72 Hnext  _ _ _ hw hP hD hS
      · replace hw := hw.2 c_2
        refine lv_iconst (v := (-1)) hx hb dX7_state_61 (by decide) ?_
        refine lv_goto (tgt := 72) hx hb dX7_state_62 (by decide) ?_
        exact kR72 (-1)  _ _ _ hw hP hD hS
  replace hw := hw.2
  by_cases k_1_2 : xw = (2 : Int32)
  · refine lv_tableIn (tgt := 73) hx hb dX7_state_1 (by rw [k_1_2]; decide) (by rw [k_1_2]; decide) (off := 72) (by rw [k_1_2]; rfl) (by decide) ?_
    replace hw := hw.1 k_1_2
    refine lv_aload_n hx hb dX7_state_73 rfl (lv_at hl 0 rfl) ?_
    refine vt_get (D := D) (ci := 6) (v := .ref (xa 3)) (C := RX7) (T := TX7) (N := 10) hx hb hts (fun w h => wm_c (wc_X7 w h)) hown hE.1 hP 0 rfl rfl 3 (by decide) tX7_3 (hts (.fieldLink RX7 37 "WornLines" "hand" "LWornLines$Machine;") (wm_c hw_540)) (fun _ h9 => h9) rfl dX7_state_74 ?_
    refine vt_get (D := D) (ci := 1) (v := .int (Hsteps)) (C := RX1) (T := TX1) (N := 12) hx hb hts (fun w h => wm_c (wc_X1 w h)) hown hE.1 hP 1 rfl rfl 10 (by decide) tX1_10 (hts (.fieldLink RX7 144 "WornLines$Machine" "steps" "I") (wm_c hw_561)) (fun _ h9 => h9) rfl dX7_state_77 ?_
    exact kR80 Hsteps  _ _ _ hw hP hD hS
  replace hw := hw.2
  by_cases k_1_3 : xw = (3 : Int32)
  · refine lv_tableIn (tgt := 81) hx hb dX7_state_1 (by rw [k_1_3]; decide) (by rw [k_1_3]; decide) (off := 80) (by rw [k_1_3]; rfl) (by decide) ?_
    replace hw := hw.1 k_1_3
    refine lv_aload_n hx hb dX7_state_81 rfl (lv_at hl 0 rfl) ?_
    refine vt_get (D := D) (ci := 6) (v := .ref (xa 3)) (C := RX7) (T := TX7) (N := 10) hx hb hts (fun w h => wm_c (wc_X7 w h)) hown hE.1 hP 0 rfl rfl 3 (by decide) tX7_3 (hts (.fieldLink RX7 37 "WornLines" "hand" "LWornLines$Machine;") (wm_c hw_540)) (fun _ h9 => h9) rfl dX7_state_82 ?_
    refine va_get (D := D) (ci := 1) (v := .int (Hwritten)) (C := RX1) (T := TX1) (N := 12) hx hb hts (fun w h => wm_c (wc_X1 w h)) hown hE.1 hP 1 rfl rfl 11 (by decide) (hts (.fieldLink RX7 161 "WornLines$Machine" "written" "I") (wm_c hw_562)) (fun _ h9 => h9) rfl dX7_state_85 ?_
    exact kR88 Hwritten  _ _ _ hw hP hD hS
  replace hw := hw.2
  have hout : (xw : Int32).toInt < 0 ∨ 3 < (xw : Int32).toInt := tsw_out _ 0 3 (by intro j h1 h2; have hj : j = 0 ∨ j = 1 ∨ j = 2 ∨ j = 3 := (by omega); rcases hj with rfl | rfl | rfl | rfl <;> first | exact lv_neT k_1_0 rfl | exact lv_neT k_1_1 rfl | exact lv_neT k_1_2 rfl | exact lv_neT k_1_3 rfl)
  refine lv_tableOut (tgt := 89) hx hb dX7_state_1 hout (by decide) ?_
  replace hw := hw hout
  refine lv_iconst (v := (-1)) hx hb dX7_state_89 (by decide) ?_
  exact kR90 (-1)  _ _ _ hw hP hD hS
set_option maxHeartbeats 4000000 in
set_option maxRecDepth 100000 in
theorem c_X7_state (l : Launch) (D : va_G) (ak : Nat → ClassId) (ad : Nat → Nat) (sz : Nat) (h7 : Nat) (xa : Nat → Nat) (ma : Nat → Nat) (pg : Nat) (Hway : Int32) (Hstate : Int32) (Hnext : Int32) (Hsteps : Int32) (Hwritten : Int32) (xw : Int32) (Φ : Int32 → Prop) (hf : wp_X7_state Hstate Hnext Hsteps Hwritten xw Φ) : Met l yX7_state wsX7_state ({ frames := 0, cells := 0, slots := 0, locals := 0 }) (cPre D ak ad [.ref h7, .int (xw)] ((wW_X7_state ak ad h7 xa ma pg Hway Hstate Hnext Hsteps Hwritten)) sz) (cI D (S := Unit) (fun (r : Int32) (u : Unit) => Φ r ) (fun u => (wW_X7_state ak ad h7 xa ma pg Hway Hstate Hnext Hsteps Hwritten)) ((wW_X7_state ak ad h7 xa ma pg Hway Hstate Hnext Hsteps Hwritten)) sz) 0 0 (va_A ((wW_X7_state ak ad h7 xa ma pg Hway Hstate Hnext Hsteps Hwritten)) sz) := by
  refine Met.ofW (cc := cX7_state) (maxL := 2) (ret := (some .int)) (by decide) rfl ?_
  intro p e s m args below meth c s₁ B hml hv
  obtain ⟨rfl, hsz, hP, hE, hD0, hT⟩ := hv
  have hx := B.exec
  have hb := B.bytes
  have hr := B.returns
  have hts := atoms_spec (ws := wsX7_state) B.pre
  have hown : s.vm.findClass RX7 = some m.cls := findClass_of_methodNamed B.named
  have hlocks := B.notSynchronized
  subst hsz
  have hD := hD0.self (sz := s.heap.size)
  generalize hAe : va_A ((wW_X7_state ak ad h7 xa ma pg Hway Hstate Hnext Hsteps Hwritten)) s.heap.size = A at hD hT ⊢
  have hA : ∀ q : Nat, s.heap.size ≤ q → A q := fun q h => by rw [← hAe]; exact Or.inr h
  have hS : va_S A s.heap s.heap [] := va_S.rf
  have hl := lv_entry ([.ref h7, .int (xw)]) (n := 2) (Nat.le_of_ble_eq_true rfl)
  rw [lg_entry_eq]
  generalize (lg_sl ([.ref h7, .int (xw)]) ++ List.replicate (2 - (lg_sl ([.ref h7, .int (xw)])).length) Slot.unset).toArray = ls at hl ⊢
  have hl : lv_has ls 2 [(0, .ref h7), (1, .int (xw))] := hl
  exact kj_X7_state_e hx hb hown hts hml hE hT hA h7 xa ma pg Hway Hstate Hnext Hsteps Hwritten xw Φ (fun r  H locs ls hw hP hD hS => W.iret (v := r) hx hb hr (fun t ht hW => ⟨⟨r, (), rfl, hw, by rw [ht]; exact hP, by rw [hAe]; exact hD⟩, by rw [hAe]; exact hS.F ht⟩) hS.2.2 dX7_state_39) (fun r  H locs ls hw hP hD hS => W.iret (v := r) hx hb hr (fun t ht hW => ⟨⟨r, (), rfl, hw, by rw [ht]; exact hP, by rw [hAe]; exact hD⟩, by rw [hAe]; exact hS.F ht⟩) hS.2.2 dX7_state_72) (fun r  H locs ls hw hP hD hS => W.iret (v := r) hx hb hr (fun t ht hW => ⟨⟨r, (), rfl, hw, by rw [ht]; exact hP, by rw [hAe]; exact hD⟩, by rw [hAe]; exact hS.F ht⟩) hS.2.2 dX7_state_80) (fun r  H locs ls hw hP hD hS => W.iret (v := r) hx hb hr (fun t ht hW => ⟨⟨r, (), rfl, hw, by rw [ht]; exact hP, by rw [hAe]; exact hD⟩, by rw [hAe]; exact hS.F ht⟩) hS.2.2 dX7_state_88) (fun r  H locs ls hw hP hD hS => W.iret (v := r) hx hb hr (fun t ht hW => ⟨⟨r, (), rfl, hw, by rw [ht]; exact hP, by rw [hAe]; exact hD⟩, by rw [hAe]; exact hS.F ht⟩) hS.2.2 dX7_state_90)  _ _ _ hf hP hD hS hl

def wW_X7_fresh (ak : Nat → ClassId) (ad : Nat → Nat) (h7 : Nat) (xa : Nat → Nat) (ma : Nat → Nat) (pg : Nat) (Hway : Int32) (Hstate : Int32) (Hnext : Int32) (Hsteps : Int32) (Hwritten : Int32) (Hworn : Nat → Int32) : va_W := [(h7, .inr (6, wob xa )), ((xa 3), .inr (1, xob ma (pg) (Hway) (Hstate) (Hnext) (Hsteps) (Hwritten))), ((ma 2), .inl (ak 0, 16, .inl (Hworn)))]
def wp_X7_fresh  (Hworn : Nat → Int32) (Φ : Int32 → (Nat → Int32) → Prop) : Prop := wp_J7_fill_53178 16 0 Hworn (fun Ar_2 => Φ 1 Ar_2)
set_option maxHeartbeats 4000000 in
set_option maxRecDepth 100000 in
theorem kj_X7_fresh_e {p : Program} {l : Launch} {e : Env} {R : Room} {s : State} {m : MethodId} {args : Array Value} {below : List Frame} {meth : Method} {c : Code} {cells slots : Nat} {Q : State → Prop} {A : Nat → Prop} {D : va_G} {ak : Nat → ClassId} {ad : Nat → Nat} (hx : p.tables.exec = Jvm.exec) (hb : c.code = cX7_fresh) (hown : s.vm.findClass RX7 = some m.cls) (hts : ∀ w ∈ wsX7_fresh, w.before args s = true) (hml : c.maxLocals = 1) (hE : EV D ak s) (hT : ST D ak ad A s s.heap) (hA : ∀ q, s.heap.size ≤ q → A q) (hRf : 1 ≤ R.frames) (hRl : 23 ≤ R.locals) (hRc : cells ≤ R.cells ∧ slots ≤ R.slots) (h7 : Nat) (xa : Nat → Nat) (ma : Nat → Nat) (pg : Nat) (Hway : Int32) (Hstate : Int32) (Hnext : Int32) (Hsteps : Int32) (Hwritten : Int32)  (Φ : Int32 → (Nat → Int32) → Prop)
    (kR12 : ∀ (r : Int32) (Hworn : Nat → Int32) (H : Heap) (locs : List Loc) (ls : Array Slot), (r = 0 ∨ r = 1) → Φ r Hworn → va_P D vwCl (wW_X7_fresh ak ad h7 xa ma pg Hway Hstate Hnext Hsteps Hwritten Hworn) H → va_D A (wW_X7_fresh ak ad h7 xa ma pg Hway Hstate Hnext Hsteps Hwritten Hworn) → va_S A s.heap H locs → W p l e R s m args below meth c H locs cells slots Q (F0 m 12 ls [.int r]))
    : ∀ (Hworn : Nat → Int32) (H : Heap) (locs : List Loc) (ls : Array Slot), wp_X7_fresh  Hworn Φ → va_P D vwCl (wW_X7_fresh ak ad h7 xa ma pg Hway Hstate Hnext Hsteps Hwritten Hworn) H → va_D A (wW_X7_fresh ak ad h7 xa ma pg Hway Hstate Hnext Hsteps Hwritten Hworn) → va_S A s.heap H locs → lv_has ls 1 [(0, .ref h7)] → W p l e R s m args below meth c H locs cells slots Q (F0 m 0 ls ([])) := by
  intro Hworn H locs ls hw hP hD hS hl
  delta wp_X7_fresh at hw
  refine lv_aload_n hx hb dX7_fresh_0 rfl (lv_at hl 0 rfl) ?_
  refine vt_get (D := D) (ci := 6) (v := .ref (xa 3)) (C := RX7) (T := TX7) (N := 10) hx hb hts (fun w h => wm_c (wc_X7 w h)) hown hE.1 hP 0 rfl rfl 3 (by decide) tX7_3 (hts (.fieldLink RX7 37 "WornLines" "hand" "LWornLines$Machine;") (wm_c hw_540)) (fun _ h9 => h9) rfl dX7_fresh_1 ?_
  refine vt_get (D := D) (ci := 1) (v := .ref (ma 2)) (C := RX1) (T := TX1) (N := 12) hx hb hts (fun w h => wm_c (wc_X1 w h)) hown hE.1 hP 1 rfl rfl 3 (by decide) tX1_3 (hts (.fieldLink RX7 121 "WornLines$Machine" "worn" "[I") (wm_c hw_557)) (fun _ h9 => h9) rfl dX7_fresh_4 ?_
  refine lv_iconst (v := 0) hx hb dX7_fresh_7 (by decide) ?_
  refine kc_v (wc := (wW_J7_fill_53178 ak ad (ma 2) 16 Hworn)) (wr := [(h7, .inr (6, wob xa )), ((xa 3), .inr (1, xob ma (pg) (Hway) (Hstate) (Hnext) (Hsteps) (Hwritten)))]) hP hD hS hA [2] [0, 1] rfl rfl (by decide) (by decide) (va_runS (As := [.ref (ma 2), .int (0)]) (rest := []) ⟨hx, hb, hml, hown, hts⟩ (c_J7_fill_53178 l D ak ad _ (ma 2) 16 Hworn 0 _ hw) (va_cwS 2 hts gX7_fresh_J7_fill_53178 rfl rfl rfl hz_J7_fill_53178 ⟨(Nat.le_trans (Nat.le_of_ble_eq_true rfl) hRf), (Nat.le_trans (Nat.le_of_ble_eq_true rfl) hRl)⟩) (kc_pre (As := [.ref (ma 2), .int (0)]) (wc := (wW_J7_fill_53178 ak ad (ma 2) 16 Hworn)) hE hT hP hD hS hA [2] (by decide) rfl rfl) rfl rfl hl.1 rfl (lv_room (Nat.le_of_ble_eq_true rfl)) dX7_fresh_8 ⟨hRc.1, hRc.2⟩) (fun Ar_2 H locs hw hP hD hS => ?_)
  try dsimp -zeta only at hw
  have hP : va_P D vwCl (wW_X7_fresh ak ad h7 xa ma pg Hway Hstate Hnext Hsteps Hwritten Ar_2) H := hP.sub [0, 1, 2] rfl
  have hD : va_D A (wW_X7_fresh ak ad h7 xa ma pg Hway Hstate Hnext Hsteps Hwritten Ar_2) := hD.sub [0, 1, 2] (by decide) rfl
  refine lv_iconst (v := 1) hx hb dX7_fresh_11 (by decide) ?_
  exact kR12 1 Ar_2 _ _ _ (Or.inr rfl) hw hP hD hS
set_option maxHeartbeats 4000000 in
set_option maxRecDepth 100000 in
theorem c_X7_fresh (l : Launch) (D : va_G) (ak : Nat → ClassId) (ad : Nat → Nat) (sz : Nat) (h7 : Nat) (xa : Nat → Nat) (ma : Nat → Nat) (pg : Nat) (Hway : Int32) (Hstate : Int32) (Hnext : Int32) (Hsteps : Int32) (Hwritten : Int32) (Hworn : Nat → Int32) (Φ : Int32 → (Nat → Int32) → Prop) (hf : wp_X7_fresh Hworn Φ) : Met l yX7_fresh wsX7_fresh ({ frames := 1, cells := 0, slots := 0, locals := 23 }) (cPre D ak ad [.ref h7] ((wW_X7_fresh ak ad h7 xa ma pg Hway Hstate Hnext Hsteps Hwritten Hworn)) sz) (cI D (S := (Nat → Int32)) (fun (r : Int32) (u : (Nat → Int32)) => Φ r u) (fun u => (wW_X7_fresh ak ad h7 xa ma pg Hway Hstate Hnext Hsteps Hwritten u)) ((wW_X7_fresh ak ad h7 xa ma pg Hway Hstate Hnext Hsteps Hwritten Hworn)) sz) 0 0 (va_A ((wW_X7_fresh ak ad h7 xa ma pg Hway Hstate Hnext Hsteps Hwritten Hworn)) sz) := by
  refine Met.ofW (cc := cX7_fresh) (maxL := 1) (ret := (some .boolean)) (by decide) rfl ?_
  intro p e s m args below meth c s₁ B hml hv
  obtain ⟨rfl, hsz, hP, hE, hD0, hT⟩ := hv
  have hx := B.exec
  have hb := B.bytes
  have hr := B.returns
  have hts := atoms_spec (ws := wsX7_fresh) B.pre
  have hown : s.vm.findClass RX7 = some m.cls := findClass_of_methodNamed B.named
  have hlocks := B.notSynchronized
  subst hsz
  have hD := hD0.self (sz := s.heap.size)
  generalize hAe : va_A ((wW_X7_fresh ak ad h7 xa ma pg Hway Hstate Hnext Hsteps Hwritten Hworn)) s.heap.size = A at hD hT ⊢
  have hA : ∀ q : Nat, s.heap.size ≤ q → A q := fun q h => by rw [← hAe]; exact Or.inr h
  have hS : va_S A s.heap s.heap [] := va_S.rf
  have hl := lv_entry ([.ref h7]) (n := 1) (Nat.le_of_ble_eq_true rfl)
  rw [lg_entry_eq]
  generalize (lg_sl ([.ref h7]) ++ List.replicate (1 - (lg_sl ([.ref h7])).length) Slot.unset).toArray = ls at hl ⊢
  have hl : lv_has ls 1 [(0, .ref h7)] := hl
  exact kj_X7_fresh_e hx hb hown hts hml hE hT hA (Nat.le_of_ble_eq_true rfl) (Nat.le_of_ble_eq_true rfl) ⟨Nat.le_of_ble_eq_true rfl, Nat.le_of_ble_eq_true rfl⟩ h7 xa ma pg Hway Hstate Hnext Hsteps Hwritten Φ (fun r Hworn H locs ls hz hw hP hD hS => W.zret (v := r) hx hb hr (bl_zn hz) (fun t ht hW => ⟨⟨r, Hworn, rfl, hw, by rw [ht]; exact hP, by rw [hAe]; exact hD⟩, by rw [hAe]; exact hS.F ht⟩) hS.2.2 dX7_fresh_12) Hworn _ _ _ hf hP hD hS hl

def wW_X7_count (ak : Nat → ClassId) (ad : Nat → Nat) (h7 : Nat) (xa : Nat → Nat) (ma : Nat → Nat) (ta : Nat → Nat) (pg : Nat) (Tlen : Int32) (Tcnt : Int32) (Hway : Int32) (Hstate : Int32) (Hnext : Int32) (Hsteps : Int32) (Hwritten : Int32) : va_W := [(h7, .inr (6, wob xa )), ((xa 0), .inr (5, tob ta (Tlen) (Tcnt))), ((xa 3), .inr (1, xob ma (pg) (Hway) (Hstate) (Hnext) (Hsteps) (Hwritten)))]
def wK_X7_count (ak : Nat → ClassId) (ad : Nat → Nat) (pg : Nat) (pa : Nat → Nat) (Pst : Int32) (Pce : Int32) (Pgi : Int32) (Pln : Int32) : va_W := [(pg, .inr (2, pob pa (Pst) (Pce) (Pgi) (Pln)))]
def wp_X7_count (Tlen : Int32) (Pst : Int32) (Pce : Int32) (Pgi : Int32) (Pln : Int32) (xw : Int32)  (Φ : Int32 → Prop) : Prop := (xw = 0 → Φ Pst ) ∧ (xw = 1 → Φ Pce ) ∧ (xw = 2 → Φ Pgi ) ∧ (xw = 3 → Φ Pln ) ∧ (xw = 4 → Φ Tlen ) ∧ (((xw : Int32).toInt < 0 ∨ 4 < (xw : Int32).toInt) → Φ (-1) )
set_option maxHeartbeats 4000000 in
set_option maxRecDepth 100000 in
theorem kj_X7_count_e {p : Program} {l : Launch} {e : Env} {R : Room} {s : State} {m : MethodId} {args : Array Value} {below : List Frame} {meth : Method} {c : Code} {cells slots : Nat} {Q : State → Prop} {A : Nat → Prop} {D : va_G} {ak : Nat → ClassId} {ad : Nat → Nat} (hx : p.tables.exec = Jvm.exec) (hb : c.code = cX7_count) (hown : s.vm.findClass RX7 = some m.cls) (hts : ∀ w ∈ wsX7_count, w.before args s = true) (hml : c.maxLocals = 2) (hE : EV D ak s) (hT : ST D ak ad A s s.heap) (hA : ∀ q, s.heap.size ≤ q → A q) (h7 : Nat) (xa : Nat → Nat) (ma : Nat → Nat) (ta : Nat → Nat) (pg : Nat) (pa : Nat → Nat) (Tlen : Int32) (Tcnt : Int32) (Hway : Int32) (Hstate : Int32) (Hnext : Int32) (Hsteps : Int32) (Hwritten : Int32) (Pst : Int32) (Pce : Int32) (Pgi : Int32) (Pln : Int32) (xw : Int32) (hKT : KT D A (wK_X7_count ak ad pg pa Pst Pce Pgi Pln) s.heap)  (Φ : Int32 → Prop)
    (kR46 : ∀ (r : Int32)  (H : Heap) (locs : List Loc) (ls : Array Slot), Φ r  → va_P D vwCl (wW_X7_count ak ad h7 xa ma ta pg Tlen Tcnt Hway Hstate Hnext Hsteps Hwritten) H → va_D A (wW_X7_count ak ad h7 xa ma ta pg Tlen Tcnt Hway Hstate Hnext Hsteps Hwritten) → va_S A s.heap H locs → W p l e R s m args below meth c H locs cells slots Q (F0 m 46 ls [.int r]))
    (kR57 : ∀ (r : Int32)  (H : Heap) (locs : List Loc) (ls : Array Slot), Φ r  → va_P D vwCl (wW_X7_count ak ad h7 xa ma ta pg Tlen Tcnt Hway Hstate Hnext Hsteps Hwritten) H → va_D A (wW_X7_count ak ad h7 xa ma ta pg Tlen Tcnt Hway Hstate Hnext Hsteps Hwritten) → va_S A s.heap H locs → W p l e R s m args below meth c H locs cells slots Q (F0 m 57 ls [.int r]))
    (kR68 : ∀ (r : Int32)  (H : Heap) (locs : List Loc) (ls : Array Slot), Φ r  → va_P D vwCl (wW_X7_count ak ad h7 xa ma ta pg Tlen Tcnt Hway Hstate Hnext Hsteps Hwritten) H → va_D A (wW_X7_count ak ad h7 xa ma ta pg Tlen Tcnt Hway Hstate Hnext Hsteps Hwritten) → va_S A s.heap H locs → W p l e R s m args below meth c H locs cells slots Q (F0 m 68 ls [.int r]))
    (kR79 : ∀ (r : Int32)  (H : Heap) (locs : List Loc) (ls : Array Slot), Φ r  → va_P D vwCl (wW_X7_count ak ad h7 xa ma ta pg Tlen Tcnt Hway Hstate Hnext Hsteps Hwritten) H → va_D A (wW_X7_count ak ad h7 xa ma ta pg Tlen Tcnt Hway Hstate Hnext Hsteps Hwritten) → va_S A s.heap H locs → W p l e R s m args below meth c H locs cells slots Q (F0 m 79 ls [.int r]))
    (kR87 : ∀ (r : Int32)  (H : Heap) (locs : List Loc) (ls : Array Slot), Φ r  → va_P D vwCl (wW_X7_count ak ad h7 xa ma ta pg Tlen Tcnt Hway Hstate Hnext Hsteps Hwritten) H → va_D A (wW_X7_count ak ad h7 xa ma ta pg Tlen Tcnt Hway Hstate Hnext Hsteps Hwritten) → va_S A s.heap H locs → W p l e R s m args below meth c H locs cells slots Q (F0 m 87 ls [.int r]))
    (kR89 : ∀ (r : Int32)  (H : Heap) (locs : List Loc) (ls : Array Slot), Φ r  → va_P D vwCl (wW_X7_count ak ad h7 xa ma ta pg Tlen Tcnt Hway Hstate Hnext Hsteps Hwritten) H → va_D A (wW_X7_count ak ad h7 xa ma ta pg Tlen Tcnt Hway Hstate Hnext Hsteps Hwritten) → va_S A s.heap H locs → W p l e R s m args below meth c H locs cells slots Q (F0 m 89 ls [.int r]))
    : ∀  (H : Heap) (locs : List Loc) (ls : Array Slot), wp_X7_count Tlen Pst Pce Pgi Pln xw  Φ → va_P D vwCl (wW_X7_count ak ad h7 xa ma ta pg Tlen Tcnt Hway Hstate Hnext Hsteps Hwritten) H → va_D A (wW_X7_count ak ad h7 xa ma ta pg Tlen Tcnt Hway Hstate Hnext Hsteps Hwritten) → va_S A s.heap H locs → lv_has ls 2 [(0, .ref h7), (1, .int (xw))] → W p l e R s m args below meth c H locs cells slots Q (F0 m 0 ls ([])) := by
  have hCW : ∀ {H : Heap} {locs : List Loc}, va_S A s.heap H locs → va_P D vwCl (wK_X7_count ak ad pg pa Pst Pce Pgi Pln) H := fun hS => (hKT.kept hS.2.1).1
  intro  H locs ls hw hP hD hS hl
  delta wp_X7_count at hw
  refine lv_iload_n hx hb dX7_count_0 rfl (lv_at hl 1 rfl) ?_
  by_cases k_1_0 : xw = (0 : Int32)
  · refine lv_tableIn (tgt := 36) hx hb dX7_count_1 (by rw [k_1_0]; decide) (by rw [k_1_0]; decide) (off := 35) (by rw [k_1_0]; rfl) (by decide) ?_
    replace hw := hw.1 k_1_0
    refine lv_aload_n hx hb dX7_count_36 rfl (lv_at hl 0 rfl) ?_
    refine vt_get (D := D) (ci := 6) (v := .ref (xa 3)) (C := RX7) (T := TX7) (N := 10) hx hb hts (fun w h => wm_c (wc_X7 w h)) hown hE.1 hP 0 rfl rfl 3 (by decide) tX7_3 (hts (.fieldLink RX7 37 "WornLines" "hand" "LWornLines$Machine;") (wm_c hw_540)) (fun _ h9 => h9) rfl dX7_count_37 ?_
    refine vt_get (D := D) (ci := 1) (v := .ref pg) (C := RX1) (T := TX1) (N := 12) hx hb hts (fun w h => wm_c (wc_X1 w h)) hown hE.1 hP 2 rfl rfl 0 (by decide) tX1_0 (hts (.fieldLink RX7 89 "WornLines$Machine" "programme" "LWornLines$Programme;") (wm_c hw_549)) (fun _ h9 => h9) rfl dX7_count_40 ?_
    refine vt_get (D := D) (ci := 2) (v := .int (Pst)) (C := RX2) (T := TX2) (N := 17) hx hb hts (fun w h => wm_c (wc_X2 w h)) hown hE.1 (hCW hS) 0 rfl rfl 0 (by decide) tX2_0 (hts (.fieldLink RX7 92 "WornLines$Programme" "stuffs" "I") (wm_c hw_550)) (fun _ h9 => h9) rfl dX7_count_43 ?_
    exact kR46 Pst  _ _ _ hw hP hD hS
  replace hw := hw.2
  by_cases k_1_1 : xw = (1 : Int32)
  · refine lv_tableIn (tgt := 47) hx hb dX7_count_1 (by rw [k_1_1]; decide) (by rw [k_1_1]; decide) (off := 46) (by rw [k_1_1]; rfl) (by decide) ?_
    replace hw := hw.1 k_1_1
    refine lv_aload_n hx hb dX7_count_47 rfl (lv_at hl 0 rfl) ?_
    refine vt_get (D := D) (ci := 6) (v := .ref (xa 3)) (C := RX7) (T := TX7) (N := 10) hx hb hts (fun w h => wm_c (wc_X7 w h)) hown hE.1 hP 0 rfl rfl 3 (by decide) tX7_3 (hts (.fieldLink RX7 37 "WornLines" "hand" "LWornLines$Machine;") (wm_c hw_540)) (fun _ h9 => h9) rfl dX7_count_48 ?_
    refine vt_get (D := D) (ci := 1) (v := .ref pg) (C := RX1) (T := TX1) (N := 12) hx hb hts (fun w h => wm_c (wc_X1 w h)) hown hE.1 hP 2 rfl rfl 0 (by decide) tX1_0 (hts (.fieldLink RX7 89 "WornLines$Machine" "programme" "LWornLines$Programme;") (wm_c hw_549)) (fun _ h9 => h9) rfl dX7_count_51 ?_
    refine vt_get (D := D) (ci := 2) (v := .int (Pce)) (C := RX2) (T := TX2) (N := 17) hx hb hts (fun w h => wm_c (wc_X2 w h)) hown hE.1 (hCW hS) 0 rfl rfl 3 (by decide) tX2_3 (hts (.fieldLink RX7 128 "WornLines$Programme" "cells" "I") (wm_c hw_558)) (fun _ h9 => h9) rfl dX7_count_54 ?_
    exact kR57 Pce  _ _ _ hw hP hD hS
  replace hw := hw.2
  by_cases k_1_2 : xw = (2 : Int32)
  · refine lv_tableIn (tgt := 58) hx hb dX7_count_1 (by rw [k_1_2]; decide) (by rw [k_1_2]; decide) (off := 57) (by rw [k_1_2]; rfl) (by decide) ?_
    replace hw := hw.1 k_1_2
    refine lv_aload_n hx hb dX7_count_58 rfl (lv_at hl 0 rfl) ?_
    refine vt_get (D := D) (ci := 6) (v := .ref (xa 3)) (C := RX7) (T := TX7) (N := 10) hx hb hts (fun w h => wm_c (wc_X7 w h)) hown hE.1 hP 0 rfl rfl 3 (by decide) tX7_3 (hts (.fieldLink RX7 37 "WornLines" "hand" "LWornLines$Machine;") (wm_c hw_540)) (fun _ h9 => h9) rfl dX7_count_59 ?_
    refine vt_get (D := D) (ci := 1) (v := .ref pg) (C := RX1) (T := TX1) (N := 12) hx hb hts (fun w h => wm_c (wc_X1 w h)) hown hE.1 hP 2 rfl rfl 0 (by decide) tX1_0 (hts (.fieldLink RX7 89 "WornLines$Machine" "programme" "LWornLines$Programme;") (wm_c hw_549)) (fun _ h9 => h9) rfl dX7_count_62 ?_
    refine vt_get (D := D) (ci := 2) (v := .int (Pgi)) (C := RX2) (T := TX2) (N := 17) hx hb hts (fun w h => wm_c (wc_X2 w h)) hown hE.1 (hCW hS) 0 rfl rfl 5 (by decide) tX2_5 (hts (.fieldLink RX7 243 "WornLines$Programme" "given" "I") (wm_c hw_563)) (fun _ h9 => h9) rfl dX7_count_65 ?_
    exact kR68 Pgi  _ _ _ hw hP hD hS
  replace hw := hw.2
  by_cases k_1_3 : xw = (3 : Int32)
  · refine lv_tableIn (tgt := 69) hx hb dX7_count_1 (by rw [k_1_3]; decide) (by rw [k_1_3]; decide) (off := 68) (by rw [k_1_3]; rfl) (by decide) ?_
    replace hw := hw.1 k_1_3
    refine lv_aload_n hx hb dX7_count_69 rfl (lv_at hl 0 rfl) ?_
    refine vt_get (D := D) (ci := 6) (v := .ref (xa 3)) (C := RX7) (T := TX7) (N := 10) hx hb hts (fun w h => wm_c (wc_X7 w h)) hown hE.1 hP 0 rfl rfl 3 (by decide) tX7_3 (hts (.fieldLink RX7 37 "WornLines" "hand" "LWornLines$Machine;") (wm_c hw_540)) (fun _ h9 => h9) rfl dX7_count_70 ?_
    refine vt_get (D := D) (ci := 1) (v := .ref pg) (C := RX1) (T := TX1) (N := 12) hx hb hts (fun w h => wm_c (wc_X1 w h)) hown hE.1 hP 2 rfl rfl 0 (by decide) tX1_0 (hts (.fieldLink RX7 89 "WornLines$Machine" "programme" "LWornLines$Programme;") (wm_c hw_549)) (fun _ h9 => h9) rfl dX7_count_73 ?_
    refine vt_get (D := D) (ci := 2) (v := .int (Pln)) (C := RX2) (T := TX2) (N := 17) hx hb hts (fun w h => wm_c (wc_X2 w h)) hown hE.1 (hCW hS) 0 rfl rfl 9 (by decide) tX2_9 (hts (.fieldLink RX7 106 "WornLines$Programme" "lines" "I") (wm_c hw_553)) (fun _ h9 => h9) rfl dX7_count_76 ?_
    exact kR79 Pln  _ _ _ hw hP hD hS
  replace hw := hw.2
  by_cases k_1_4 : xw = (4 : Int32)
  · refine lv_tableIn (tgt := 80) hx hb dX7_count_1 (by rw [k_1_4]; decide) (by rw [k_1_4]; decide) (off := 79) (by rw [k_1_4]; rfl) (by decide) ?_
    replace hw := hw.1 k_1_4
    refine lv_aload_n hx hb dX7_count_80 rfl (lv_at hl 0 rfl) ?_
    refine vt_get (D := D) (ci := 6) (v := .ref (xa 0)) (C := RX7) (T := TX7) (N := 10) hx hb hts (fun w h => wm_c (wc_X7 w h)) hown hE.1 hP 0 rfl rfl 0 (by decide) tX7_0 (hts (.fieldLink RX7 10 "WornLines" "tape" "LWornLines$Tape;") (wm_c hw_547)) (fun _ h9 => h9) rfl dX7_count_81 ?_
    refine vt_get (D := D) (ci := 5) (v := .int (Tlen)) (C := RX5) (T := TX5) (N := 6) hx hb hts (fun w h => wm_c (wc_X5 w h)) hown hE.1 hP 1 rfl rfl 1 (by decide) tX5_1 (hts (.fieldLink RX7 75 "WornLines$Tape" "length" "I") (wm_c hw_548)) (fun _ h9 => h9) rfl dX7_count_84 ?_
    exact kR87 Tlen  _ _ _ hw hP hD hS
  replace hw := hw.2
  have hout : (xw : Int32).toInt < 0 ∨ 4 < (xw : Int32).toInt := tsw_out _ 0 4 (by intro j h1 h2; have hj : j = 0 ∨ j = 1 ∨ j = 2 ∨ j = 3 ∨ j = 4 := (by omega); rcases hj with rfl | rfl | rfl | rfl | rfl <;> first | exact lv_neT k_1_0 rfl | exact lv_neT k_1_1 rfl | exact lv_neT k_1_2 rfl | exact lv_neT k_1_3 rfl | exact lv_neT k_1_4 rfl)
  refine lv_tableOut (tgt := 88) hx hb dX7_count_1 hout (by decide) ?_
  replace hw := hw hout
  refine lv_iconst (v := (-1)) hx hb dX7_count_88 (by decide) ?_
  exact kR89 (-1)  _ _ _ hw hP hD hS
set_option maxHeartbeats 4000000 in
set_option maxRecDepth 100000 in
theorem c_X7_count (l : Launch) (D : va_G) (ak : Nat → ClassId) (ad : Nat → Nat) (sz : Nat) (h7 : Nat) (xa : Nat → Nat) (ma : Nat → Nat) (ta : Nat → Nat) (pg : Nat) (pa : Nat → Nat) (Tlen : Int32) (Tcnt : Int32) (Hway : Int32) (Hstate : Int32) (Hnext : Int32) (Hsteps : Int32) (Hwritten : Int32) (Pst : Int32) (Pce : Int32) (Pgi : Int32) (Pln : Int32) (xw : Int32) (Φ : Int32 → Prop) (hf : wp_X7_count Tlen Pst Pce Pgi Pln xw Φ) : Met l yX7_count wsX7_count ({ frames := 0, cells := 0, slots := 0, locals := 0 }) (cPreK D ak ad [.ref h7, .int (xw)] ((wW_X7_count ak ad h7 xa ma ta pg Tlen Tcnt Hway Hstate Hnext Hsteps Hwritten)) sz ((wK_X7_count ak ad pg pa Pst Pce Pgi Pln))) (cI D (S := Unit) (fun (r : Int32) (u : Unit) => Φ r ) (fun u => (wW_X7_count ak ad h7 xa ma ta pg Tlen Tcnt Hway Hstate Hnext Hsteps Hwritten)) ((wW_X7_count ak ad h7 xa ma ta pg Tlen Tcnt Hway Hstate Hnext Hsteps Hwritten)) sz) 0 0 (va_A ((wW_X7_count ak ad h7 xa ma ta pg Tlen Tcnt Hway Hstate Hnext Hsteps Hwritten)) sz) := by
  refine Met.ofW (cc := cX7_count) (maxL := 2) (ret := (some .int)) (by decide) rfl ?_
  intro p e s m args below meth c s₁ B hml hv
  obtain ⟨⟨rfl, hsz, hP, hE, hD0, hT⟩, hKT⟩ := hv
  have hx := B.exec
  have hb := B.bytes
  have hr := B.returns
  have hts := atoms_spec (ws := wsX7_count) B.pre
  have hown : s.vm.findClass RX7 = some m.cls := findClass_of_methodNamed B.named
  have hlocks := B.notSynchronized
  subst hsz
  have hD := hD0.self (sz := s.heap.size)
  generalize hAe : va_A ((wW_X7_count ak ad h7 xa ma ta pg Tlen Tcnt Hway Hstate Hnext Hsteps Hwritten)) s.heap.size = A at hD hT hKT ⊢
  have hA : ∀ q : Nat, s.heap.size ≤ q → A q := fun q h => by rw [← hAe]; exact Or.inr h
  have hS : va_S A s.heap s.heap [] := va_S.rf
  have hl := lv_entry ([.ref h7, .int (xw)]) (n := 2) (Nat.le_of_ble_eq_true rfl)
  rw [lg_entry_eq]
  generalize (lg_sl ([.ref h7, .int (xw)]) ++ List.replicate (2 - (lg_sl ([.ref h7, .int (xw)])).length) Slot.unset).toArray = ls at hl ⊢
  have hl : lv_has ls 2 [(0, .ref h7), (1, .int (xw))] := hl
  exact kj_X7_count_e hx hb hown hts hml hE hT hA h7 xa ma ta pg pa Tlen Tcnt Hway Hstate Hnext Hsteps Hwritten Pst Pce Pgi Pln xw hKT Φ (fun r  H locs ls hw hP hD hS => W.iret (v := r) hx hb hr (fun t ht hW => ⟨⟨r, (), rfl, hw, by rw [ht]; exact hP, by rw [hAe]; exact hD⟩, by rw [hAe]; exact hS.F ht⟩) hS.2.2 dX7_count_46) (fun r  H locs ls hw hP hD hS => W.iret (v := r) hx hb hr (fun t ht hW => ⟨⟨r, (), rfl, hw, by rw [ht]; exact hP, by rw [hAe]; exact hD⟩, by rw [hAe]; exact hS.F ht⟩) hS.2.2 dX7_count_57) (fun r  H locs ls hw hP hD hS => W.iret (v := r) hx hb hr (fun t ht hW => ⟨⟨r, (), rfl, hw, by rw [ht]; exact hP, by rw [hAe]; exact hD⟩, by rw [hAe]; exact hS.F ht⟩) hS.2.2 dX7_count_68) (fun r  H locs ls hw hP hD hS => W.iret (v := r) hx hb hr (fun t ht hW => ⟨⟨r, (), rfl, hw, by rw [ht]; exact hP, by rw [hAe]; exact hD⟩, by rw [hAe]; exact hS.F ht⟩) hS.2.2 dX7_count_79) (fun r  H locs ls hw hP hD hS => W.iret (v := r) hx hb hr (fun t ht hW => ⟨⟨r, (), rfl, hw, by rw [ht]; exact hP, by rw [hAe]; exact hD⟩, by rw [hAe]; exact hS.F ht⟩) hS.2.2 dX7_count_87) (fun r  H locs ls hw hP hD hS => W.iret (v := r) hx hb hr (fun t ht hW => ⟨⟨r, (), rfl, hw, by rw [ht]; exact hP, by rw [hAe]; exact hD⟩, by rw [hAe]; exact hS.F ht⟩) hS.2.2 dX7_count_89)  _ _ _ hf hP hD hS hl
end
