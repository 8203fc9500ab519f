section
theorem dX7_canLast_0 : decode cX7_canLast 0 = .ok (.iload_n 1, 1) := by decide +kernel
theorem dX7_canLast_1 : decode cX7_canLast 1 = .ok (.iconst 1, 1) := by decide +kernel
theorem dX7_canLast_2 : decode cX7_canLast 2 = .ok (.if_icmp .lt 32, 3) := by decide +kernel
theorem dX7_canLast_34 : decode cX7_canLast 34 = .ok (.iconst 0, 1) := by decide +kernel
theorem dX7_canLast_5 : decode cX7_canLast 5 = .ok (.iload_n 1, 1) := by decide +kernel
theorem dX7_canLast_6 : decode cX7_canLast 6 = .ok (.bipush 64, 2) := by decide +kernel
theorem dX7_canLast_8 : decode cX7_canLast 8 = .ok (.if_icmp .gt 26, 3) := by decide +kernel
theorem dX7_canLast_11 : decode cX7_canLast 11 = .ok (.aload_n 0, 1) := by decide +kernel
set_option maxRecDepth 20000 in
theorem ggX7_canLast_X7_surveyed : GoodIn wsX7_canLast wsX7_surveyed := gup gc_X7_surveyed
set_option maxRecDepth 20000 in
theorem gX7_canLast_X7_surveyed : GoodIn wsX7_canLast (wsV RX7 192 RX7 yX7_surveyed wsX7_surveyed) := gup (glV hw_636 hw_637 hw_638 hw_324 gc_X7_surveyed)
theorem dX7_canLast_12 : decode cX7_canLast 12 = .ok (.invokevirtual 192, 3) := by decide +kernel
theorem dX7_canLast_15 : decode cX7_canLast 15 = .ok (.ifCond .eq 19, 3) := by decide +kernel
theorem dX7_canLast_18 : decode cX7_canLast 18 = .ok (.aload_n 0, 1) := by decide +kernel
theorem dX7_canLast_19 : decode cX7_canLast 19 = .ok (.getfield 67, 3) := by decide +kernel
theorem dX7_canLast_22 : decode cX7_canLast 22 = .ok (.iload_n 1, 1) := by decide +kernel
set_option maxRecDepth 20000 in
theorem ggX7_canLast_X0_leastCost : GoodIn wsX7_canLast wsX0_leastCost := gup gc_X0_leastCost
set_option maxRecDepth 20000 in
theorem gX7_canLast_X0_leastCost : GoodIn wsX7_canLast (wsV RX7 221 RX0 yX0_leastCost wsX0_leastCost) := gup (glV hw_641 hw_642 hw_643 hw_615 gc_X0_leastCost)
theorem dX7_canLast_23 : decode cX7_canLast 23 = .ok (.invokevirtual 221, 3) := by decide +kernel
theorem dX7_canLast_26 : decode cX7_canLast 26 = .ok (.iconst (-1), 1) := by decide +kernel
theorem dX7_canLast_27 : decode cX7_canLast 27 = .ok (.if_icmp .eq 7, 3) := by decide +kernel
theorem dX7_canLast_30 : decode cX7_canLast 30 = .ok (.iconst 1, 1) := by decide +kernel
theorem dX7_canLast_31 : decode cX7_canLast 31 = .ok (.goto 4, 3) := by decide +kernel
theorem dX7_canLast_35 : decode cX7_canLast 35 = .ok (.ireturn, 1) := by decide +kernel
theorem dX7_lasting_0 : decode cX7_lasting 0 = .ok (.aload_n 0, 1) := by decide +kernel
theorem dX7_lasting_1 : decode cX7_lasting 1 = .ok (.iload_n 1, 1) := by decide +kernel
set_option maxRecDepth 20000 in
theorem ggX7_lasting_X7_canLast : GoodIn wsX7_lasting wsX7_canLast := gup gc_X7_canLast
set_option maxRecDepth 20000 in
theorem gX7_lasting_X7_canLast : GoodIn wsX7_lasting (wsV RX7 218 RX7 yX7_canLast wsX7_canLast) := gup (glV hw_644 hw_645 hw_646 hw_324 gc_X7_canLast)
theorem dX7_lasting_2 : decode cX7_lasting 2 = .ok (.invokevirtual 218, 3) := by decide +kernel
theorem dX7_lasting_5 : decode cX7_lasting 5 = .ok (.ifCond .eq 14, 3) := by decide +kernel
theorem dX7_lasting_19 : decode cX7_lasting 19 = .ok (.iconst (-1), 1) := by decide +kernel
theorem dX7_lasting_8 : decode cX7_lasting 8 = .ok (.aload_n 0, 1) := by decide +kernel
theorem dX7_lasting_9 : decode cX7_lasting 9 = .ok (.getfield 67, 3) := by decide +kernel
theorem dX7_lasting_12 : decode cX7_lasting 12 = .ok (.iload_n 1, 1) := by decide +kernel
set_option maxRecDepth 20000 in
theorem ggX7_lasting_X0_leastCost : GoodIn wsX7_lasting wsX0_leastCost := gup gc_X0_leastCost
set_option maxRecDepth 20000 in
theorem gX7_lasting_X0_leastCost : GoodIn wsX7_lasting (wsV RX7 221 RX0 yX0_leastCost wsX0_leastCost) := gup (glV hw_641 hw_642 hw_643 hw_615 gc_X0_leastCost)
theorem dX7_lasting_13 : decode cX7_lasting 13 = .ok (.invokevirtual 221, 3) := by decide +kernel
theorem dX7_lasting_16 : decode cX7_lasting 16 = .ok (.goto 4, 3) := by decide +kernel
theorem dX7_lasting_20 : decode cX7_lasting 20 = .ok (.ireturn, 1) := by decide +kernel
theorem dX7_lasts_0 : decode cX7_lasts 0 = .ok (.aload_n 0, 1) := by decide +kernel
theorem dX7_lasts_1 : decode cX7_lasts 1 = .ok (.iload_n 1, 1) := by decide +kernel
set_option maxRecDepth 20000 in
theorem ggX7_lasts_X7_canLast : GoodIn wsX7_lasts wsX7_canLast := gup gc_X7_canLast
set_option maxRecDepth 20000 in
theorem gX7_lasts_X7_canLast : GoodIn wsX7_lasts (wsV RX7 218 RX7 yX7_canLast wsX7_canLast) := gup (glV hw_644 hw_645 hw_646 hw_324 gc_X7_canLast)
theorem dX7_lasts_2 : decode cX7_lasts 2 = .ok (.invokevirtual 218, 3) := by decide +kernel
theorem dX7_lasts_5 : decode cX7_lasts 5 = .ok (.ifCond .eq 20, 3) := by decide +kernel
theorem dX7_lasts_25 : decode cX7_lasts 25 = .ok (.iconst (-1), 1) := by decide +kernel
theorem dX7_lasts_8 : decode cX7_lasts 8 = .ok (.iload_n 2, 1) := by decide +kernel
theorem dX7_lasts_9 : decode cX7_lasts 9 = .ok (.aload_n 0, 1) := by decide +kernel
theorem dX7_lasts_10 : decode cX7_lasts 10 = .ok (.getfield 37, 3) := by decide +kernel
theorem dX7_lasts_13 : decode cX7_lasts 13 = .ok (.getfield 89, 3) := by decide +kernel
theorem dX7_lasts_16 : decode cX7_lasts 16 = .ok (.getfield 106, 3) := by decide +kernel
set_option maxRecDepth 20000 in
theorem ggX7_lasts_X7_within : GoodIn wsX7_lasts wsX7_within := gup gc_X7_within
set_option maxRecDepth 20000 in
theorem gX7_lasts_X7_within : GoodIn wsX7_lasts (va_wsS RX7 95 yX7_within wsX7_within) := gup (glS hw_567 hw_325 hw_324 gc_X7_within)
theorem dX7_lasts_19 : decode cX7_lasts 19 = .ok (.invokestatic 95, 3) := by decide +kernel
theorem dX7_lasts_22 : decode cX7_lasts 22 = .ok (.ifCond .ne 5, 3) := by decide +kernel
theorem dX7_lasts_27 : decode cX7_lasts 27 = .ok (.aload_n 0, 1) := by decide +kernel
theorem dX7_lasts_28 : decode cX7_lasts 28 = .ok (.getfield 67, 3) := by decide +kernel
theorem dX7_lasts_31 : decode cX7_lasts 31 = .ok (.iload_n 1, 1) := by decide +kernel
theorem dX7_lasts_32 : decode cX7_lasts 32 = .ok (.iload_n 2, 1) := by decide +kernel
set_option maxRecDepth 20000 in
theorem ggX7_lasts_X0_choose : GoodIn wsX7_lasts wsX0_choose := gup gc_X0_choose
set_option maxRecDepth 20000 in
theorem gX7_lasts_X0_choose : GoodIn wsX7_lasts (wsV RX7 224 RX0 yX0_choose wsX0_choose) := gup (glV hw_647 hw_648 hw_649 hw_615 gc_X0_choose)
theorem dX7_lasts_33 : decode cX7_lasts 33 = .ok (.invokevirtual 224, 3) := by decide +kernel
theorem dX7_lasts_36 : decode cX7_lasts 36 = .ok (.iload_n 3, 1) := by decide +kernel
theorem dX7_lasts_37 : decode cX7_lasts 37 = .ok (.lookupswitch 43 #[(0, 27), (1, 35)], 27) := by decide +kernel
theorem dX7_lasts_64 : decode cX7_lasts 64 = .ok (.aload_n 0, 1) := by decide +kernel
theorem dX7_lasts_65 : decode cX7_lasts 65 = .ok (.getfield 67, 3) := by decide +kernel
theorem dX7_lasts_68 : decode cX7_lasts 68 = .ok (.getfield 228, 3) := by decide +kernel
theorem dX7_lasts_72 : decode cX7_lasts 72 = .ok (.aload_n 0, 1) := by decide +kernel
theorem dX7_lasts_73 : decode cX7_lasts 73 = .ok (.getfield 67, 3) := by decide +kernel
theorem dX7_lasts_76 : decode cX7_lasts 76 = .ok (.getfield 231, 3) := by decide +kernel
theorem dX7_lasts_80 : decode cX7_lasts 80 = .ok (.iconst (-1), 1) := by decide +kernel
theorem dX7_lasts_26 : decode cX7_lasts 26 = .ok (.ireturn, 1) := by decide +kernel
theorem dX7_lasts_71 : decode cX7_lasts 71 = .ok (.ireturn, 1) := by decide +kernel
theorem dX7_lasts_79 : decode cX7_lasts 79 = .ok (.ireturn, 1) := by decide +kernel
theorem dX7_lasts_81 : decode cX7_lasts 81 = .ok (.ireturn, 1) := by decide +kernel
def wW_X7_canLast (ak : Nat → ClassId) (ad : Nat → Nat) (h7 : Nat) (xa : Nat → Nat) (ma : Nat → Nat) (wa : Nat → Nat) (pg : Nat) (sa : Nat → Nat) (la : Nat → Nat) (gq : Nat → Nat) (Hway : Int32) (Hstate : Int32) (Hnext : Int32) (Hsteps : Int32) (Hwritten : Int32) (Hstuffs : Nat → Int32) (Htwins : Nat → Int32) (Wpg : Nat) (Wway : Int32) (Wstate : Int32) (Wnext : Int32) (Wsteps : Int32) (Wwritten : Int32) (Wstuffs : Nat → Int32) (Wtwins : Nat → Int32) (Wworn : Nat → Int32) (Wcells : Nat → Int32) (Wkept : Nat → Int32) (Wstack : Nat → Int32) (Sof : Option Nat) (Sendless : Int32) (Soften : Nat → Int32) (Sby : Nat → Int32) (Speak : Nat → Int32) (Sover : Nat → Int32) (Lpg : Nat) (Lstuff : Int32) (Ltwins : Int32) (Lpeak : Nat → Int32) (Lrow : Nat → Nat → Int32) : va_W := ([(h7, .inr (6, wob xa )), ((xa 3), .inr (1, xob ma (pg) (Hway) (Hstate) (Hnext) (Hsteps) (Hwritten))), ((ma 0), .inl (ak 0, 16, .inl (Hstuffs))), ((ma 1), .inl (ak 0, 16, .inl (Htwins))), ((xa 4), .inr (1, xob wa (Wpg) (Wway) (Wstate) (Wnext) (Wsteps) (Wwritten))), ((wa 0), .inl (ak 0, 16, .inl (Wstuffs))), ((wa 1), .inl (ak 0, 16, .inl (Wtwins))), ((wa 2), .inl (ak 0, 16, .inl (Wworn))), ((wa 3), .inl (ak 0, 6, .inl (Wcells))), ((wa 4), .inl (ak 0, 1000, .inl (Wkept))), ((wa 5), .inl (ak 0, 32, .inl (Wstack))), ((xa 8), .inr (4, sob sa (Sof) (Sendless))), ((sa 0), .inl (ak 0, 16, .inl (Soften))), ((sa 1), .inl (ak 0, 16, .inl (Sby))), ((sa 2), .inl (ak 0, 16, .inl (Speak))), ((sa 3), .inl (ak 0, 16, .inl (Sover))), ((xa 9), .inr (0, lob la (Lpg) (Lstuff) (Ltwins))), ((la 0), .inl (ak 0, 16, .inl (Lpeak))), ((la 1), .inl (ak 6, 17, .inr (.inr (.inr (.inr (grA gq))))))] ++ gRows ak gq Lrow)
def wK_X7_canLast (ak : Nat → ClassId) (ad : Nat → Nat) (pg : Nat) (pa : Nat → Nat) (cl : Nat) (Pst : Int32) (Pce : Int32) (Pgi : Int32) (Pln : Int32) (Pbears : Nat → Int32) (Pcosts : Nat → Int32) (Ptold : Nat → Int32) (PgivenC : Nat → Int32) (Pleast : Nat → Int32) (Pgreat : Nat → Int32) (Pact : Nat → Int32) (Ptarget : Nat → Int32) (Pfrom : Nat → Int32) (Pmiddle : Nat → Int32) (Pend : Nat → Int32) (Pcode : Nat → Int32) : va_W := [(pg, .inr (2, pob pa (Pst) (Pce) (Pgi) (Pln))), ((pa 0), .inl (ak 0, 4, .inl (Pbears))), ((pa 1), .inl (ak 0, 4, .inl (Pcosts))), ((pa 2), .inl (ak 0, 6, .inl (Ptold))), ((pa 3), .inl (ak 0, 2, .inl (PgivenC))), ((pa 4), .inl (ak 0, 2, .inl (Pleast))), ((pa 5), .inl (ak 0, 2, .inl (Pgreat))), ((pa 6), .inl (ak 0, 16, .inl (Pact))), ((pa 8), .inl (ak 0, 16, .inl (Ptarget))), ((pa 9), .inl (ak 0, 16, .inl (Pfrom))), ((pa 10), .inl (ak 0, 16, .inl (Pmiddle))), ((pa 11), .inl (ak 0, 16, .inl (Pend))), ((pa 12), .inl (ak 0, cl, .inl (Pcode)))]
def wp_X7_canLast (Hstuffs : Nat → Int32) (Htwins : Nat → Int32) (Pst : Int32) (Pce : Int32) (Pgi : Int32) (Pln : Int32) (Pbears : Nat → Int32) (Pcosts : Nat → Int32) (Ptold : Nat → Int32) (PgivenC : Nat → Int32) (Pleast : Nat → Int32) (Pgreat : Nat → Int32) (Pact : Nat → Int32) (Ptarget : Nat → Int32) (Pfrom : Nat → Int32) (Pmiddle : Nat → Int32) (Pend : Nat → Int32) (Pcode : Nat → Int32) (cl : Nat) (pg : Nat) (xr : Int32) (Wpg : Nat) (Wway : Int32) (Wstate : Int32) (Wnext : Int32) (Wsteps : Int32) (Wwritten : Int32) (Wstuffs : Nat → Int32) (Wtwins : Nat → Int32) (Wworn : Nat → Int32) (Wcells : Nat → Int32) (Wkept : Nat → Int32) (Wstack : Nat → Int32) (Sof : Option Nat) (Sendless : Int32) (Soften : Nat → Int32) (Sby : Nat → Int32) (Speak : Nat → Int32) (Sover : Nat → Int32) (Lpg : Nat) (Lstuff : Int32) (Ltwins : Int32) (Lpeak : Nat → Int32) (Lrow : Nat → Nat → Int32) (Φ : Int32 → Nat → Int32 → Int32 → Int32 → Int32 → Int32 → (Nat → Int32) → (Nat → Int32) → (Nat → Int32) → (Nat → Int32) → (Nat → Int32) → (Nat → Int32) → Option Nat → Int32 → (Nat → Int32) → (Nat → Int32) → (Nat → Int32) → (Nat → Int32) → Nat → Int32 → Int32 → (Nat → Int32) → (Nat → Nat → Int32) → Prop) : Prop := (xr < 1 → Φ 0 Wpg Wway Wstate Wnext Wsteps Wwritten Wstuffs Wtwins Wworn Wcells Wkept Wstack Sof Sendless Soften Sby Speak Sover Lpg Lstuff Ltwins Lpeak Lrow) ∧ (¬ xr < 1 → (64 < xr → Φ 0 Wpg Wway Wstate Wnext Wsteps Wwritten Wstuffs Wtwins Wworn Wcells Wkept Wstack Sof Sendless Soften Sby Speak Sover Lpg Lstuff Ltwins Lpeak Lrow) ∧ (¬ 64 < xr → wp_X7_surveyed Hstuffs Htwins Pst Pce Pgi Pln Pbears Pcosts Ptold PgivenC Pleast Pgreat Pact Ptarget Pfrom Pmiddle Pend Pcode cl pg Wpg Wway Wstate Wnext Wsteps Wwritten Wstuffs Wtwins Wworn Wcells Wkept Wstack Sof Sendless Soften Sby Speak Sover Lpg Lstuff Ltwins Lpeak Lrow (fun r_27 Wpg_4 Wway_5 Wstate_6 Wnext_7 Wsteps_8 Wwritten_9 Wstuffs_10 Wtwins_11 Wworn_12 Wcells_13 Wkept_14 Wstack_15 Sof_16 Sendless_17 Soften_18 Sby_19 Speak_20 Sover_21 Lpg_22 Lstuff_23 Ltwins_24 Lpeak_25 Lrow_26 => (r_27 = 0 → Φ 0 Wpg_4 Wway_5 Wstate_6 Wnext_7 Wsteps_8 Wwritten_9 Wstuffs_10 Wtwins_11 Wworn_12 Wcells_13 Wkept_14 Wstack_15 Sof_16 Sendless_17 Soften_18 Sby_19 Speak_20 Sover_21 Lpg_22 Lstuff_23 Ltwins_24 Lpeak_25 Lrow_26) ∧ (¬ r_27 = 0 → wp_X0_leastCost Lrow_26 xr (fun r_30 => (r_30 = (-1) → Φ 0 Wpg_4 Wway_5 Wstate_6 Wnext_7 Wsteps_8 Wwritten_9 Wstuffs_10 Wtwins_11 Wworn_12 Wcells_13 Wkept_14 Wstack_15 Sof_16 Sendless_17 Soften_18 Sby_19 Speak_20 Sover_21 Lpg_22 Lstuff_23 Ltwins_24 Lpeak_25 Lrow_26) ∧ (¬ r_30 = (-1) → Φ 1 Wpg_4 Wway_5 Wstate_6 Wnext_7 Wsteps_8 Wwritten_9 Wstuffs_10 Wtwins_11 Wworn_12 Wcells_13 Wkept_14 Wstack_15 Sof_16 Sendless_17 Soften_18 Sby_19 Speak_20 Sover_21 Lpg_22 Lstuff_23 Ltwins_24 Lpeak_25 Lrow_26))))))
set_option maxHeartbeats 4000000 in
set_option maxRecDepth 100000 in
theorem kj_X7_canLast_e {p : Program} {l : Launch} {e : Env} {R : Room} {s : State} {m : MethodId} {args : Array Value} {below : List Frame} {meth : Method} {c : Code} {cells slots : Nat} {Q : State → Prop} {A : Nat → Prop} {D : va_G} {ak : Nat → ClassId} {ad : Nat → Nat} (hx : p.tables.exec = Jvm.exec) (hb : c.code = cX7_canLast) (hown : s.vm.findClass RX7 = some m.cls) (hts : ∀ w ∈ wsX7_canLast, w.before args s = true) (hml : c.maxLocals = 2) (hE : EV D ak s) (hT : ST D ak ad A s s.heap) (hA : ∀ q, s.heap.size ≤ q → A q) (hRf : 6 ≤ R.frames) (hRl : 138 ≤ R.locals) (hRc : cells ≤ R.cells ∧ slots ≤ R.slots) (h7 : Nat) (xa : Nat → Nat) (ma : Nat → Nat) (wa : Nat → Nat) (pg : Nat) (pa : Nat → Nat) (sa : Nat → Nat) (la : Nat → Nat) (gq : Nat → Nat) (cl : Nat) (Hway : Int32) (Hstate : Int32) (Hnext : Int32) (Hsteps : Int32) (Hwritten : Int32) (Hstuffs : Nat → Int32) (Htwins : Nat → Int32) (Pst : Int32) (Pce : Int32) (Pgi : Int32) (Pln : Int32) (Pbears : Nat → Int32) (Pcosts : Nat → Int32) (Ptold : Nat → Int32) (PgivenC : Nat → Int32) (Pleast : Nat → Int32) (Pgreat : Nat → Int32) (Pact : Nat → Int32) (Ptarget : Nat → Int32) (Pfrom : Nat → Int32) (Pmiddle : Nat → Int32) (Pend : Nat → Int32) (Pcode : Nat → Int32) (xr : Int32) (hKT : KT D A (wK_X7_canLast ak ad pg pa cl Pst Pce Pgi Pln Pbears Pcosts Ptold PgivenC Pleast Pgreat Pact Ptarget Pfrom Pmiddle Pend Pcode) s.heap)  (Φ : Int32 → Nat → Int32 → Int32 → Int32 → Int32 → Int32 → (Nat → Int32) → (Nat → Int32) → (Nat → Int32) → (Nat → Int32) → (Nat → Int32) → (Nat → Int32) → Option Nat → Int32 → (Nat → Int32) → (Nat → Int32) → (Nat → Int32) → (Nat → Int32) → Nat → Int32 → Int32 → (Nat → Int32) → (Nat → Nat → Int32) → Prop)
    (kR35 : ∀ (r : Int32) (Wpg : Nat) (Wway : Int32) (Wstate : Int32) (Wnext : Int32) (Wsteps : Int32) (Wwritten : Int32) (Wstuffs : Nat → Int32) (Wtwins : Nat → Int32) (Wworn : Nat → Int32) (Wcells : Nat → Int32) (Wkept : Nat → Int32) (Wstack : Nat → Int32) (Sof : Option Nat) (Sendless : Int32) (Soften : Nat → Int32) (Sby : Nat → Int32) (Speak : Nat → Int32) (Sover : Nat → Int32) (Lpg : Nat) (Lstuff : Int32) (Ltwins : Int32) (Lpeak : Nat → Int32) (Lrow : Nat → Nat → Int32) (H : Heap) (locs : List Loc) (ls : Array Slot), (r = 0 ∨ r = 1) → Φ r Wpg Wway Wstate Wnext Wsteps Wwritten Wstuffs Wtwins Wworn Wcells Wkept Wstack Sof Sendless Soften Sby Speak Sover Lpg Lstuff Ltwins Lpeak Lrow → va_P D vwCl (wW_X7_canLast ak ad h7 xa ma wa pg sa la gq Hway Hstate Hnext Hsteps Hwritten Hstuffs Htwins Wpg Wway Wstate Wnext Wsteps Wwritten Wstuffs Wtwins Wworn Wcells Wkept Wstack Sof Sendless Soften Sby Speak Sover Lpg Lstuff Ltwins Lpeak Lrow) H → va_D A (wW_X7_canLast ak ad h7 xa ma wa pg sa la gq Hway Hstate Hnext Hsteps Hwritten Hstuffs Htwins Wpg Wway Wstate Wnext Wsteps Wwritten Wstuffs Wtwins Wworn Wcells Wkept Wstack Sof Sendless Soften Sby Speak Sover Lpg Lstuff Ltwins Lpeak Lrow) → va_S A s.heap H locs → W p l e R s m args below meth c H locs cells slots Q (F0 m 35 ls [.int r]))
    : ∀ (Wpg : Nat) (Wway : Int32) (Wstate : Int32) (Wnext : Int32) (Wsteps : Int32) (Wwritten : Int32) (Wstuffs : Nat → Int32) (Wtwins : Nat → Int32) (Wworn : Nat → Int32) (Wcells : Nat → Int32) (Wkept : Nat → Int32) (Wstack : Nat → Int32) (Sof : Option Nat) (Sendless : Int32) (Soften : Nat → Int32) (Sby : Nat → Int32) (Speak : Nat → Int32) (Sover : Nat → Int32) (Lpg : Nat) (Lstuff : Int32) (Ltwins : Int32) (Lpeak : Nat → Int32) (Lrow : Nat → Nat → Int32) (H : Heap) (locs : List Loc) (ls : Array Slot), wp_X7_canLast Hstuffs Htwins Pst Pce Pgi Pln Pbears Pcosts Ptold PgivenC Pleast Pgreat Pact Ptarget Pfrom Pmiddle Pend Pcode cl pg xr Wpg Wway Wstate Wnext Wsteps Wwritten Wstuffs Wtwins Wworn Wcells Wkept Wstack Sof Sendless Soften Sby Speak Sover Lpg Lstuff Ltwins Lpeak Lrow Φ → va_P D vwCl (wW_X7_canLast ak ad h7 xa ma wa pg sa la gq Hway Hstate Hnext Hsteps Hwritten Hstuffs Htwins Wpg Wway Wstate Wnext Wsteps Wwritten Wstuffs Wtwins Wworn Wcells Wkept Wstack Sof Sendless Soften Sby Speak Sover Lpg Lstuff Ltwins Lpeak Lrow) H → va_D A (wW_X7_canLast ak ad h7 xa ma wa pg sa la gq Hway Hstate Hnext Hsteps Hwritten Hstuffs Htwins Wpg Wway Wstate Wnext Wsteps Wwritten Wstuffs Wtwins Wworn Wcells Wkept Wstack Sof Sendless Soften Sby Speak Sover Lpg Lstuff Ltwins Lpeak Lrow) → va_S A s.heap H locs → lv_has ls 2 [(0, .ref h7), (1, .int (xr))] → W p l e R s m args below meth c H locs cells slots Q (F0 m 0 ls ([])) := by
  have hCW : ∀ {H : Heap} {locs : List Loc}, va_S A s.heap H locs → va_P D vwCl (wK_X7_canLast ak ad pg pa cl Pst Pce Pgi Pln Pbears Pcosts Ptold PgivenC Pleast Pgreat Pact Ptarget Pfrom Pmiddle Pend Pcode) H := fun hS => (hKT.kept hS.2.1).1
  intro Wpg Wway Wstate Wnext Wsteps Wwritten Wstuffs Wtwins Wworn Wcells Wkept Wstack Sof Sendless Soften Sby Speak Sover Lpg Lstuff Ltwins Lpeak Lrow H locs ls hw hP hD hS hl
  delta wp_X7_canLast at hw
  refine lv_iload_n hx hb dX7_canLast_0 rfl (lv_at hl 1 rfl) ?_
  refine lv_iconst (v := 1) hx hb dX7_canLast_1 (by decide) ?_
  refine lv_icmp_lt (tgt := 34) hx hb dX7_canLast_2 (by decide) (fun c_1 => ?_) (fun c_1 => ?_)
  · replace hw := hw.1 c_1
    refine lv_iconst (v := 0) hx hb dX7_canLast_34 (by decide) ?_
    exact kR35 0 Wpg Wway Wstate Wnext Wsteps Wwritten Wstuffs Wtwins Wworn Wcells Wkept Wstack Sof Sendless Soften Sby Speak Sover Lpg Lstuff Ltwins Lpeak Lrow _ _ _ (Or.inl rfl) hw hP hD hS
  · replace hw := hw.2 c_1
    refine lv_iload_n hx hb dX7_canLast_5 rfl (lv_at hl 1 rfl) ?_
    refine lv_bipush (v := 64) hx hb dX7_canLast_6 (by decide) ?_
    refine lv_icmp_gt (tgt := 34) hx hb dX7_canLast_8 (by decide) (fun c_2 => ?_) (fun c_2 => ?_)
    · replace hw := hw.1 c_2
      refine lv_iconst (v := 0) hx hb dX7_canLast_34 (by decide) ?_
      exact kR35 0 Wpg Wway Wstate Wnext Wsteps Wwritten Wstuffs Wtwins Wworn Wcells Wkept Wstack Sof Sendless Soften Sby Speak Sover Lpg Lstuff Ltwins Lpeak Lrow _ _ _ (Or.inl rfl) hw hP hD hS
    · replace hw := hw.2 c_2
      refine lv_aload_n hx hb dX7_canLast_11 rfl (lv_at hl 0 rfl) ?_
      refine kc_i (wc := (wW_X7_surveyed ak ad h7 xa ma wa pg sa la gq Hway Hstate Hnext Hsteps Hwritten Hstuffs Htwins Wpg Wway Wstate Wnext Wsteps Wwritten Wstuffs Wtwins Wworn Wcells Wkept Wstack Sof Sendless Soften Sby Speak Sover Lpg Lstuff Ltwins Lpeak Lrow)) (wr := []) hP hD hS hA [0, 1, 2, 3, 4, 5, 6, 7, 8, 9, 10, 11, 12, 13, 14, 15, 16, 17, 18, 19, 20, 21, 22, 23, 24, 25, 26, 27, 28, 29, 30, 31, 32, 33, 34, 35] [] rfl rfl (by decide) (by decide) (va_runV (As := []) (rest := []) ⟨hx, hb, hml, hown, hts⟩ (c_X7_surveyed l D ak ad _ h7 xa ma wa pg pa sa la gq cl Hway Hstate Hnext Hsteps Hwritten Hstuffs Htwins Wpg Wway Wstate Wnext Wsteps Wwritten Wstuffs Wtwins Wworn Wcells Wkept Wstack Sof Sendless Soften Sby Speak Sover Lpg Lstuff Ltwins Lpeak Lrow Pst Pce Pgi Pln Pbears Pcosts Ptold PgivenC Pleast Pgreat Pact Ptarget Pfrom Pmiddle Pend Pcode _ hw) (cwV 0 hts gX7_canLast_X7_surveyed rfl rfl rfl hv_X7_surveyed ⟨(Nat.le_trans (Nat.le_of_ble_eq_true rfl) hRf), (Nat.le_trans (Nat.le_of_ble_eq_true rfl) hRl)⟩) (kc_preVK (As := []) (wc := (wW_X7_surveyed ak ad h7 xa ma wa pg sa la gq Hway Hstate Hnext Hsteps Hwritten Hstuffs Htwins Wpg Wway Wstate Wnext Wsteps Wwritten Wstuffs Wtwins Wworn Wcells Wkept Wstack Sof Sendless Soften Sby Speak Sover Lpg Lstuff Ltwins Lpeak Lrow)) (ck := (wK_X7_surveyed ak ad pg pa cl Pst Pce Pgi Pln Pbears Pcosts Ptold PgivenC Pleast Pgreat Pact Ptarget Pfrom Pmiddle Pend Pcode)) hKT hE hT hP hD hS hA [0, 1, 2, 3, 4, 5, 6, 7, 8, 9, 10, 11, 12, 13, 14, 15, 16, 17, 18, 19, 20, 21, 22, 23, 24, 25, 26, 27, 28, 29, 30, 31, 32, 33, 34, 35] [0, 1, 2, 3, 4, 5, 6, 7, 8, 9, 10, 11, 12] (by decide) rfl rfl rfl hP 0 6 rfl rfl rfl) rfl rfl hl.1 rfl (lv_room (Nat.le_of_ble_eq_true rfl)) dX7_canLast_12 ⟨hRc.1, hRc.2⟩) (fun r_27 u_3 H locs hw hP hD hS => ?_)
      obtain ⟨Wpg_4, Wway_5, Wstate_6, Wnext_7, Wsteps_8, Wwritten_9, Wstuffs_10, Wtwins_11, Wworn_12, Wcells_13, Wkept_14, Wstack_15, Sof_16, Sendless_17, Soften_18, Sby_19, Speak_20, Sover_21, Lpg_22, Lstuff_23, Ltwins_24, Lpeak_25, Lrow_26⟩ := u_3
      try dsimp -zeta only at hw
      have hP : va_P D vwCl (wW_X7_canLast ak ad h7 xa ma wa pg sa la gq Hway Hstate Hnext Hsteps Hwritten Hstuffs Htwins Wpg_4 Wway_5 Wstate_6 Wnext_7 Wsteps_8 Wwritten_9 Wstuffs_10 Wtwins_11 Wworn_12 Wcells_13 Wkept_14 Wstack_15 Sof_16 Sendless_17 Soften_18 Sby_19 Speak_20 Sover_21 Lpg_22 Lstuff_23 Ltwins_24 Lpeak_25 Lrow_26) H := hP.sub [0, 1, 2, 3, 4, 5, 6, 7, 8, 9, 10, 11, 12, 13, 14, 15, 16, 17, 18, 19, 20, 21, 22, 23, 24, 25, 26, 27, 28, 29, 30, 31, 32, 33, 34, 35] rfl
      have hD : va_D A (wW_X7_canLast ak ad h7 xa ma wa pg sa la gq Hway Hstate Hnext Hsteps Hwritten Hstuffs Htwins Wpg_4 Wway_5 Wstate_6 Wnext_7 Wsteps_8 Wwritten_9 Wstuffs_10 Wtwins_11 Wworn_12 Wcells_13 Wkept_14 Wstack_15 Sof_16 Sendless_17 Soften_18 Sby_19 Speak_20 Sover_21 Lpg_22 Lstuff_23 Ltwins_24 Lpeak_25 Lrow_26) := hD.sub [0, 1, 2, 3, 4, 5, 6, 7, 8, 9, 10, 11, 12, 13, 14, 15, 16, 17, 18, 19, 20, 21, 22, 23, 24, 25, 26, 27, 28, 29, 30, 31, 32, 33, 34, 35] (by decide) rfl
      refine lv_if_eq (tgt := 34) hx hb dX7_canLast_15 (by decide) (fun c_28 => ?_) (fun c_28 => ?_)
      · replace hw := hw.1 c_28
        refine lv_iconst (v := 0) hx hb dX7_canLast_34 (by decide) ?_
        exact kR35 0 Wpg_4 Wway_5 Wstate_6 Wnext_7 Wsteps_8 Wwritten_9 Wstuffs_10 Wtwins_11 Wworn_12 Wcells_13 Wkept_14 Wstack_15 Sof_16 Sendless_17 Soften_18 Sby_19 Speak_20 Sover_21 Lpg_22 Lstuff_23 Ltwins_24 Lpeak_25 Lrow_26 _ _ _ (Or.inl rfl) hw hP hD hS
      · replace hw := hw.2 c_28
        refine lv_aload_n hx hb dX7_canLast_18 rfl (lv_at hl 0 rfl) ?_
        refine va_get (D := D) (ci := 6) (v := .ref (xa 9)) (C := RX7) (T := TX7) (N := 10) hx hb hts (fun w h => wm_c (wc_X7 w h)) hown hE.1 hP 0 rfl rfl 9 (by decide) (hts (.fieldLink RX7 67 "WornLines" "layout" "LWornLines$Layout;") (wm_c hw_619)) (fun _ h9 => h9) rfl dX7_canLast_19 ?_
        refine lv_iload_n hx hb dX7_canLast_22 rfl (lv_at hl 1 rfl) ?_
        refine kc_i (wc := (wW_X0_leastCost ak ad (xa 9) la gq Lpg_22 Lstuff_23 Ltwins_24 Lrow_26)) (wr := [(h7, .inr (6, wob xa )), ((xa 3), .inr (1, xob ma (pg) (Hway) (Hstate) (Hnext) (Hsteps) (Hwritten))), ((ma 0), .inl (ak 0, 16, .inl (Hstuffs))), ((ma 1), .inl (ak 0, 16, .inl (Htwins))), ((xa 4), .inr (1, xob wa (Wpg_4) (Wway_5) (Wstate_6) (Wnext_7) (Wsteps_8) (Wwritten_9))), ((wa 0), .inl (ak 0, 16, .inl (Wstuffs_10))), ((wa 1), .inl (ak 0, 16, .inl (Wtwins_11))), ((wa 2), .inl (ak 0, 16, .inl (Wworn_12))), ((wa 3), .inl (ak 0, 6, .inl (Wcells_13))), ((wa 4), .inl (ak 0, 1000, .inl (Wkept_14))), ((wa 5), .inl (ak 0, 32, .inl (Wstack_15))), ((xa 8), .inr (4, sob sa (Sof_16) (Sendless_17))), ((sa 0), .inl (ak 0, 16, .inl (Soften_18))), ((sa 1), .inl (ak 0, 16, .inl (Sby_19))), ((sa 2), .inl (ak 0, 16, .inl (Speak_20))), ((sa 3), .inl (ak 0, 16, .inl (Sover_21))), ((la 0), .inl (ak 0, 16, .inl (Lpeak_25)))]) hP hD hS hA [16, 18, 19, 20, 21, 22, 23, 24, 25, 26, 27, 28, 29, 30, 31, 32, 33, 34, 35] [0, 1, 2, 3, 4, 5, 6, 7, 8, 9, 10, 11, 12, 13, 14, 15, 17] rfl rfl (by decide) (by decide) (va_runV (As := [.int (xr)]) (rest := []) ⟨hx, hb, hml, hown, hts⟩ (c_X0_leastCost l D ak ad _ (xa 9) la gq Lpg_22 Lstuff_23 Ltwins_24 Lrow_26 xr _ hw) (cwV 1 hts gX7_canLast_X0_leastCost rfl rfl rfl hv_X0_leastCost ⟨(Nat.le_trans (Nat.le_of_ble_eq_true rfl) hRf), (Nat.le_trans (Nat.le_of_ble_eq_true rfl) hRl)⟩) (kc_preV (As := [.int (xr)]) (wc := (wW_X0_leastCost ak ad (xa 9) la gq Lpg_22 Lstuff_23 Ltwins_24 Lrow_26)) hE hT hP hD hS hA [16, 18, 19, 20, 21, 22, 23, 24, 25, 26, 27, 28, 29, 30, 31, 32, 33, 34, 35] (by decide) rfl rfl 16 0 rfl rfl rfl) rfl rfl hl.1 rfl (lv_room (Nat.le_of_ble_eq_true rfl)) dX7_canLast_23 ⟨hRc.1, hRc.2⟩) (fun r_30 u_29 H locs hw hP hD hS => ?_)
        try dsimp -zeta only at hw
        have hP : va_P D vwCl (wW_X7_canLast ak ad h7 xa ma wa pg sa la gq Hway Hstate Hnext Hsteps Hwritten Hstuffs Htwins Wpg_4 Wway_5 Wstate_6 Wnext_7 Wsteps_8 Wwritten_9 Wstuffs_10 Wtwins_11 Wworn_12 Wcells_13 Wkept_14 Wstack_15 Sof_16 Sendless_17 Soften_18 Sby_19 Speak_20 Sover_21 Lpg_22 Lstuff_23 Ltwins_24 Lpeak_25 Lrow_26) H := hP.sub [0, 1, 2, 3, 4, 5, 6, 7, 8, 9, 10, 11, 12, 13, 14, 15, 17, 16, 18, 19, 20, 21, 22, 23, 24, 25, 26, 27, 28, 29, 30, 31, 32, 33, 34, 35] rfl
        have hD : va_D A (wW_X7_canLast ak ad h7 xa ma wa pg sa la gq Hway Hstate Hnext Hsteps Hwritten Hstuffs Htwins Wpg_4 Wway_5 Wstate_6 Wnext_7 Wsteps_8 Wwritten_9 Wstuffs_10 Wtwins_11 Wworn_12 Wcells_13 Wkept_14 Wstack_15 Sof_16 Sendless_17 Soften_18 Sby_19 Speak_20 Sover_21 Lpg_22 Lstuff_23 Ltwins_24 Lpeak_25 Lrow_26) := hD.sub [0, 1, 2, 3, 4, 5, 6, 7, 8, 9, 10, 11, 12, 13, 14, 15, 17, 16, 18, 19, 20, 21, 22, 23, 24, 25, 26, 27, 28, 29, 30, 31, 32, 33, 34, 35] (by decide) rfl
        refine lv_iconst (v := (-1)) hx hb dX7_canLast_26 (by decide) ?_
        refine lv_icmp_eq (tgt := 34) hx hb dX7_canLast_27 (by decide) (fun c_31 => ?_) (fun c_31 => ?_)
        · replace hw := hw.1 c_31
          refine lv_iconst (v := 0) hx hb dX7_canLast_34 (by decide) ?_
          exact kR35 0 Wpg_4 Wway_5 Wstate_6 Wnext_7 Wsteps_8 Wwritten_9 Wstuffs_10 Wtwins_11 Wworn_12 Wcells_13 Wkept_14 Wstack_15 Sof_16 Sendless_17 Soften_18 Sby_19 Speak_20 Sover_21 Lpg_22 Lstuff_23 Ltwins_24 Lpeak_25 Lrow_26 _ _ _ (Or.inl rfl) hw hP hD hS
        · replace hw := hw.2 c_31
          refine lv_iconst (v := 1) hx hb dX7_canLast_30 (by decide) ?_
          refine lv_goto (tgt := 35) hx hb dX7_canLast_31 (by decide) ?_
          exact kR35 1 Wpg_4 Wway_5 Wstate_6 Wnext_7 Wsteps_8 Wwritten_9 Wstuffs_10 Wtwins_11 Wworn_12 Wcells_13 Wkept_14 Wstack_15 Sof_16 Sendless_17 Soften_18 Sby_19 Speak_20 Sover_21 Lpg_22 Lstuff_23 Ltwins_24 Lpeak_25 Lrow_26 _ _ _ (Or.inr rfl) hw hP hD hS
set_option maxHeartbeats 4000000 in
set_option maxRecDepth 100000 in
theorem c_X7_canLast (l : Launch) (D : va_G) (ak : Nat → ClassId) (ad : Nat → Nat) (sz : Nat) (h7 : Nat) (xa : Nat → Nat) (ma : Nat → Nat) (wa : Nat → Nat) (pg : Nat) (pa : Nat → Nat) (sa : Nat → Nat) (la : Nat → Nat) (gq : Nat → Nat) (cl : Nat) (Hway : Int32) (Hstate : Int32) (Hnext : Int32) (Hsteps : Int32) (Hwritten : Int32) (Hstuffs : Nat → Int32) (Htwins : Nat → Int32) (Wpg : Nat) (Wway : Int32) (Wstate : Int32) (Wnext : Int32) (Wsteps : Int32) (Wwritten : Int32) (Wstuffs : Nat → Int32) (Wtwins : Nat → Int32) (Wworn : Nat → Int32) (Wcells : Nat → Int32) (Wkept : Nat → Int32) (Wstack : Nat → Int32) (Sof : Option Nat) (Sendless : Int32) (Soften : Nat → Int32) (Sby : Nat → Int32) (Speak : Nat → Int32) (Sover : Nat → Int32) (Lpg : Nat) (Lstuff : Int32) (Ltwins : Int32) (Lpeak : Nat → Int32) (Lrow : Nat → Nat → Int32) (Pst : Int32) (Pce : Int32) (Pgi : Int32) (Pln : Int32) (Pbears : Nat → Int32) (Pcosts : Nat → Int32) (Ptold : Nat → Int32) (PgivenC : Nat → Int32) (Pleast : Nat → Int32) (Pgreat : Nat → Int32) (Pact : Nat → Int32) (Ptarget : Nat → Int32) (Pfrom : Nat → Int32) (Pmiddle : Nat → Int32) (Pend : Nat → Int32) (Pcode : Nat → Int32) (xr : Int32) (Φ : Int32 → Nat → Int32 → Int32 → Int32 → Int32 → Int32 → (Nat → Int32) → (Nat → Int32) → (Nat → Int32) → (Nat → Int32) → (Nat → Int32) → (Nat → Int32) → Option Nat → Int32 → (Nat → Int32) → (Nat → Int32) → (Nat → Int32) → (Nat → Int32) → Nat → Int32 → Int32 → (Nat → Int32) → (Nat → Nat → Int32) → Prop) (hf : wp_X7_canLast Hstuffs Htwins Pst Pce Pgi Pln Pbears Pcosts Ptold PgivenC Pleast Pgreat Pact Ptarget Pfrom Pmiddle Pend Pcode cl pg xr Wpg Wway Wstate Wnext Wsteps Wwritten Wstuffs Wtwins Wworn Wcells Wkept Wstack Sof Sendless Soften Sby Speak Sover Lpg Lstuff Ltwins Lpeak Lrow Φ) : Met l yX7_canLast wsX7_canLast ({ frames := 6, cells := 0, slots := 0, locals := 138 }) (cPreK D ak ad [.ref h7, .int (xr)] ((wW_X7_canLast ak ad h7 xa ma wa pg sa la gq Hway Hstate Hnext Hsteps Hwritten Hstuffs Htwins Wpg Wway Wstate Wnext Wsteps Wwritten Wstuffs Wtwins Wworn Wcells Wkept Wstack Sof Sendless Soften Sby Speak Sover Lpg Lstuff Ltwins Lpeak Lrow)) sz ((wK_X7_canLast ak ad pg pa cl Pst Pce Pgi Pln Pbears Pcosts Ptold PgivenC Pleast Pgreat Pact Ptarget Pfrom Pmiddle Pend Pcode))) (cI D (S := (Nat) × (Int32) × (Int32) × (Int32) × (Int32) × (Int32) × (Nat → Int32) × (Nat → Int32) × (Nat → Int32) × (Nat → Int32) × (Nat → Int32) × (Nat → Int32) × (Option Nat) × (Int32) × (Nat → Int32) × (Nat → Int32) × (Nat → Int32) × (Nat → Int32) × (Nat) × (Int32) × (Int32) × (Nat → Int32) × (Nat → Nat → Int32)) (fun (r : Int32) (u : (Nat) × (Int32) × (Int32) × (Int32) × (Int32) × (Int32) × (Nat → Int32) × (Nat → Int32) × (Nat → Int32) × (Nat → Int32) × (Nat → Int32) × (Nat → Int32) × (Option Nat) × (Int32) × (Nat → Int32) × (Nat → Int32) × (Nat → Int32) × (Nat → Int32) × (Nat) × (Int32) × (Int32) × (Nat → Int32) × (Nat → Nat → Int32)) => Φ r u.1 u.2.1 u.2.2.1 u.2.2.2.1 u.2.2.2.2.1 u.2.2.2.2.2.1 u.2.2.2.2.2.2.1 u.2.2.2.2.2.2.2.1 u.2.2.2.2.2.2.2.2.1 u.2.2.2.2.2.2.2.2.2.1 u.2.2.2.2.2.2.2.2.2.2.1 u.2.2.2.2.2.2.2.2.2.2.2.1 u.2.2.2.2.2.2.2.2.2.2.2.2.1 u.2.2.2.2.2.2.2.2.2.2.2.2.2.1 u.2.2.2.2.2.2.2.2.2.2.2.2.2.2.1 u.2.2.2.2.2.2.2.2.2.2.2.2.2.2.2.1 u.2.2.2.2.2.2.2.2.2.2.2.2.2.2.2.2.1 u.2.2.2.2.2.2.2.2.2.2.2.2.2.2.2.2.2.1 u.2.2.2.2.2.2.2.2.2.2.2.2.2.2.2.2.2.2.1 u.2.2.2.2.2.2.2.2.2.2.2.2.2.2.2.2.2.2.2.1 u.2.2.2.2.2.2.2.2.2.2.2.2.2.2.2.2.2.2.2.2.1 u.2.2.2.2.2.2.2.2.2.2.2.2.2.2.2.2.2.2.2.2.2.1 u.2.2.2.2.2.2.2.2.2.2.2.2.2.2.2.2.2.2.2.2.2.2) (fun u => (wW_X7_canLast ak ad h7 xa ma wa pg sa la gq Hway Hstate Hnext Hsteps Hwritten Hstuffs Htwins u.1 u.2.1 u.2.2.1 u.2.2.2.1 u.2.2.2.2.1 u.2.2.2.2.2.1 u.2.2.2.2.2.2.1 u.2.2.2.2.2.2.2.1 u.2.2.2.2.2.2.2.2.1 u.2.2.2.2.2.2.2.2.2.1 u.2.2.2.2.2.2.2.2.2.2.1 u.2.2.2.2.2.2.2.2.2.2.2.1 u.2.2.2.2.2.2.2.2.2.2.2.2.1 u.2.2.2.2.2.2.2.2.2.2.2.2.2.1 u.2.2.2.2.2.2.2.2.2.2.2.2.2.2.1 u.2.2.2.2.2.2.2.2.2.2.2.2.2.2.2.1 u.2.2.2.2.2.2.2.2.2.2.2.2.2.2.2.2.1 u.2.2.2.2.2.2.2.2.2.2.2.2.2.2.2.2.2.1 u.2.2.2.2.2.2.2.2.2.2.2.2.2.2.2.2.2.2.1 u.2.2.2.2.2.2.2.2.2.2.2.2.2.2.2.2.2.2.2.1 u.2.2.2.2.2.2.2.2.2.2.2.2.2.2.2.2.2.2.2.2.1 u.2.2.2.2.2.2.2.2.2.2.2.2.2.2.2.2.2.2.2.2.2.1 u.2.2.2.2.2.2.2.2.2.2.2.2.2.2.2.2.2.2.2.2.2.2)) ((wW_X7_canLast ak ad h7 xa ma wa pg sa la gq Hway Hstate Hnext Hsteps Hwritten Hstuffs Htwins Wpg Wway Wstate Wnext Wsteps Wwritten Wstuffs Wtwins Wworn Wcells Wkept Wstack Sof Sendless Soften Sby Speak Sover Lpg Lstuff Ltwins Lpeak Lrow)) sz) 0 0 (va_A ((wW_X7_canLast ak ad h7 xa ma wa pg sa la gq Hway Hstate Hnext Hsteps Hwritten Hstuffs Htwins Wpg Wway Wstate Wnext Wsteps Wwritten Wstuffs Wtwins Wworn Wcells Wkept Wstack Sof Sendless Soften Sby Speak Sover Lpg Lstuff Ltwins Lpeak Lrow)) sz) := by
  refine Met.ofW (cc := cX7_canLast) (maxL := 2) (ret := (some .boolean)) (by decide) rfl ?_
  intro p e s m args below meth c s₁ B hml hv
  obtain ⟨⟨rfl, hsz, hP, hE, hD0, hT⟩, hKT⟩ := hv
  have hx := B.exec
  have hb := B.bytes
  have hr := B.returns
  have hts := atoms_spec (ws := wsX7_canLast) B.pre
  have hown : s.vm.findClass RX7 = some m.cls := findClass_of_methodNamed B.named
  have hlocks := B.notSynchronized
  subst hsz
  have hD := hD0.self (sz := s.heap.size)
  generalize hAe : va_A ((wW_X7_canLast ak ad h7 xa ma wa pg sa la gq Hway Hstate Hnext Hsteps Hwritten Hstuffs Htwins Wpg Wway Wstate Wnext Wsteps Wwritten Wstuffs Wtwins Wworn Wcells Wkept Wstack Sof Sendless Soften Sby Speak Sover Lpg Lstuff Ltwins Lpeak Lrow)) s.heap.size = A at hD hT hKT ⊢
  have hA : ∀ q : Nat, s.heap.size ≤ q → A q := fun q h => by rw [← hAe]; exact Or.inr h
  have hS : va_S A s.heap s.heap [] := va_S.rf
  have hl := lv_entry ([.ref h7, .int (xr)]) (n := 2) (Nat.le_of_ble_eq_true rfl)
  rw [lg_entry_eq]
  generalize (lg_sl ([.ref h7, .int (xr)]) ++ List.replicate (2 - (lg_sl ([.ref h7, .int (xr)])).length) Slot.unset).toArray = ls at hl ⊢
  have hl : lv_has ls 2 [(0, .ref h7), (1, .int (xr))] := hl
  exact kj_X7_canLast_e hx hb hown hts hml hE hT hA (Nat.le_of_ble_eq_true rfl) (Nat.le_of_ble_eq_true rfl) ⟨Nat.le_of_ble_eq_true rfl, Nat.le_of_ble_eq_true rfl⟩ h7 xa ma wa pg pa sa la gq cl Hway Hstate Hnext Hsteps Hwritten Hstuffs Htwins Pst Pce Pgi Pln Pbears Pcosts Ptold PgivenC Pleast Pgreat Pact Ptarget Pfrom Pmiddle Pend Pcode xr hKT Φ (fun r Wpg Wway Wstate Wnext Wsteps Wwritten Wstuffs Wtwins Wworn Wcells Wkept Wstack Sof Sendless Soften Sby Speak Sover Lpg Lstuff Ltwins Lpeak Lrow H locs ls hz hw hP hD hS => W.zret (v := r) hx hb hr (bl_zn hz) (fun t ht hW => ⟨⟨r, (Wpg, Wway, Wstate, Wnext, Wsteps, Wwritten, Wstuffs, Wtwins, Wworn, Wcells, Wkept, Wstack, Sof, Sendless, Soften, Sby, Speak, Sover, Lpg, Lstuff, Ltwins, Lpeak, Lrow), rfl, hw, by rw [ht]; exact hP, by rw [hAe]; exact hD⟩, by rw [hAe]; exact hS.F ht⟩) hS.2.2 dX7_canLast_35) Wpg Wway Wstate Wnext Wsteps Wwritten Wstuffs Wtwins Wworn Wcells Wkept Wstack Sof Sendless Soften Sby Speak Sover Lpg Lstuff Ltwins Lpeak Lrow _ _ _ hf hP hD hS hl

def wW_X7_lasting (ak : Nat → ClassId) (ad : Nat → Nat) (h7 : Nat) (xa : Nat → Nat) (ma : Nat → Nat) (wa : Nat → Nat) (pg : Nat) (sa : Nat → Nat) (la : Nat → Nat) (gq : Nat → Nat) (Hway : Int32) (Hstate : Int32) (Hnext : Int32) (Hsteps : Int32) (Hwritten : Int32) (Hstuffs : Nat → Int32) (Htwins : Nat → Int32) (Wpg : Nat) (Wway : Int32) (Wstate : Int32) (Wnext : Int32) (Wsteps : Int32) (Wwritten : Int32) (Wstuffs : Nat → Int32) (Wtwins : Nat → Int32) (Wworn : Nat → Int32) (Wcells : Nat → Int32) (Wkept : Nat → Int32) (Wstack : Nat → Int32) (Sof : Option Nat) (Sendless : Int32) (Soften : Nat → Int32) (Sby : Nat → Int32) (Speak : Nat → Int32) (Sover : Nat → Int32) (Lpg : Nat) (Lstuff : Int32) (Ltwins : Int32) (Lpeak : Nat → Int32) (Lrow : Nat → Nat → Int32) : va_W := ([(h7, .inr (6, wob xa )), ((xa 3), .inr (1, xob ma (pg) (Hway) (Hstate) (Hnext) (Hsteps) (Hwritten))), ((ma 0), .inl (ak 0, 16, .inl (Hstuffs))), ((ma 1), .inl (ak 0, 16, .inl (Htwins))), ((xa 4), .inr (1, xob wa (Wpg) (Wway) (Wstate) (Wnext) (Wsteps) (Wwritten))), ((wa 0), .inl (ak 0, 16, .inl (Wstuffs))), ((wa 1), .inl (ak 0, 16, .inl (Wtwins))), ((wa 2), .inl (ak 0, 16, .inl (Wworn))), ((wa 3), .inl (ak 0, 6, .inl (Wcells))), ((wa 4), .inl (ak 0, 1000, .inl (Wkept))), ((wa 5), .inl (ak 0, 32, .inl (Wstack))), ((xa 8), .inr (4, sob sa (Sof) (Sendless))), ((sa 0), .inl (ak 0, 16, .inl (Soften))), ((sa 1), .inl (ak 0, 16, .inl (Sby))), ((sa 2), .inl (ak 0, 16, .inl (Speak))), ((sa 3), .inl (ak 0, 16, .inl (Sover))), ((xa 9), .inr (0, lob la (Lpg) (Lstuff) (Ltwins))), ((la 0), .inl (ak 0, 16, .inl (Lpeak))), ((la 1), .inl (ak 6, 17, .inr (.inr (.inr (.inr (grA gq))))))] ++ gRows ak gq Lrow)
def wK_X7_lasting (ak : Nat → ClassId) (ad : Nat → Nat) (pg : Nat) (pa : Nat → Nat) (cl : Nat) (Pst : Int32) (Pce : Int32) (Pgi : Int32) (Pln : Int32) (Pbears : Nat → Int32) (Pcosts : Nat → Int32) (Ptold : Nat → Int32) (PgivenC : Nat → Int32) (Pleast : Nat → Int32) (Pgreat : Nat → Int32) (Pact : Nat → Int32) (Ptarget : Nat → Int32) (Pfrom : Nat → Int32) (Pmiddle : Nat → Int32) (Pend : Nat → Int32) (Pcode : Nat → Int32) : va_W := [(pg, .inr (2, pob pa (Pst) (Pce) (Pgi) (Pln))), ((pa 0), .inl (ak 0, 4, .inl (Pbears))), ((pa 1), .inl (ak 0, 4, .inl (Pcosts))), ((pa 2), .inl (ak 0, 6, .inl (Ptold))), ((pa 3), .inl (ak 0, 2, .inl (PgivenC))), ((pa 4), .inl (ak 0, 2, .inl (Pleast))), ((pa 5), .inl (ak 0, 2, .inl (Pgreat))), ((pa 6), .inl (ak 0, 16, .inl (Pact))), ((pa 8), .inl (ak 0, 16, .inl (Ptarget))), ((pa 9), .inl (ak 0, 16, .inl (Pfrom))), ((pa 10), .inl (ak 0, 16, .inl (Pmiddle))), ((pa 11), .inl (ak 0, 16, .inl (Pend))), ((pa 12), .inl (ak 0, cl, .inl (Pcode)))]
def wp_X7_lasting (Hstuffs : Nat → Int32) (Htwins : Nat → Int32) (Pst : Int32) (Pce : Int32) (Pgi : Int32) (Pln : Int32) (Pbears : Nat → Int32) (Pcosts : Nat → Int32) (Ptold : Nat → Int32) (PgivenC : Nat → Int32) (Pleast : Nat → Int32) (Pgreat : Nat → Int32) (Pact : Nat → Int32) (Ptarget : Nat → Int32) (Pfrom : Nat → Int32) (Pmiddle : Nat → Int32) (Pend : Nat → Int32) (Pcode : Nat → Int32) (cl : Nat) (pg : Nat) (xr : Int32) (Wpg : Nat) (Wway : Int32) (Wstate : Int32) (Wnext : Int32) (Wsteps : Int32) (Wwritten : Int32) (Wstuffs : Nat → Int32) (Wtwins : Nat → Int32) (Wworn : Nat → Int32) (Wcells : Nat → Int32) (Wkept : Nat → Int32) (Wstack : Nat → Int32) (Sof : Option Nat) (Sendless : Int32) (Soften : Nat → Int32) (Sby : Nat → Int32) (Speak : Nat → Int32) (Sover : Nat → Int32) (Lpg : Nat) (Lstuff : Int32) (Ltwins : Int32) (Lpeak : Nat → Int32) (Lrow : Nat → Nat → Int32) (Φ : Int32 → Nat → Int32 → Int32 → Int32 → Int32 → Int32 → (Nat → Int32) → (Nat → Int32) → (Nat → Int32) → (Nat → Int32) → (Nat → Int32) → (Nat → Int32) → Option Nat → Int32 → (Nat → Int32) → (Nat → Int32) → (Nat → Int32) → (Nat → Int32) → Nat → Int32 → Int32 → (Nat → Int32) → (Nat → Nat → Int32) → Prop) : Prop := wp_X7_canLast Hstuffs Htwins Pst Pce Pgi Pln Pbears Pcosts Ptold PgivenC Pleast Pgreat Pact Ptarget Pfrom Pmiddle Pend Pcode cl pg xr Wpg Wway Wstate Wnext Wsteps Wwritten Wstuffs Wtwins Wworn Wcells Wkept Wstack Sof Sendless Soften Sby Speak Sover Lpg Lstuff Ltwins Lpeak Lrow (fun r_25 Wpg_2 Wway_3 Wstate_4 Wnext_5 Wsteps_6 Wwritten_7 Wstuffs_8 Wtwins_9 Wworn_10 Wcells_11 Wkept_12 Wstack_13 Sof_14 Sendless_15 Soften_16 Sby_17 Speak_18 Sover_19 Lpg_20 Lstuff_21 Ltwins_22 Lpeak_23 Lrow_24 => (r_25 = 0 → Φ (-1) Wpg_2 Wway_3 Wstate_4 Wnext_5 Wsteps_6 Wwritten_7 Wstuffs_8 Wtwins_9 Wworn_10 Wcells_11 Wkept_12 Wstack_13 Sof_14 Sendless_15 Soften_16 Sby_17 Speak_18 Sover_19 Lpg_20 Lstuff_21 Ltwins_22 Lpeak_23 Lrow_24) ∧ (¬ r_25 = 0 → wp_X0_leastCost Lrow_24 xr (fun r_28 => Φ r_28 Wpg_2 Wway_3 Wstate_4 Wnext_5 Wsteps_6 Wwritten_7 Wstuffs_8 Wtwins_9 Wworn_10 Wcells_11 Wkept_12 Wstack_13 Sof_14 Sendless_15 Soften_16 Sby_17 Speak_18 Sover_19 Lpg_20 Lstuff_21 Ltwins_22 Lpeak_23 Lrow_24)))
set_option maxHeartbeats 4000000 in
set_option maxRecDepth 100000 in
theorem kj_X7_lasting_e {p : Program} {l : Launch} {e : Env} {R : Room} {s : State} {m : MethodId} {args : Array Value} {below : List Frame} {meth : Method} {c : Code} {cells slots : Nat} {Q : State → Prop} {A : Nat → Prop} {D : va_G} {ak : Nat → ClassId} {ad : Nat → Nat} (hx : p.tables.exec = Jvm.exec) (hb : c.code = cX7_lasting) (hown : s.vm.findClass RX7 = some m.cls) (hts : ∀ w ∈ wsX7_lasting, w.before args s = true) (hml : c.maxLocals = 2) (hE : EV D ak s) (hT : ST D ak ad A s s.heap) (hA : ∀ q, s.heap.size ≤ q → A q) (hRf : 7 ≤ R.frames) (hRl : 159 ≤ R.locals) (hRc : cells ≤ R.cells ∧ slots ≤ R.slots) (h7 : Nat) (xa : Nat → Nat) (ma : Nat → Nat) (wa : Nat → Nat) (pg : Nat) (pa : Nat → Nat) (sa : Nat → Nat) (la : Nat → Nat) (gq : Nat → Nat) (cl : Nat) (Hway : Int32) (Hstate : Int32) (Hnext : Int32) (Hsteps : Int32) (Hwritten : Int32) (Hstuffs : Nat → Int32) (Htwins : Nat → Int32) (Pst : Int32) (Pce : Int32) (Pgi : Int32) (Pln : Int32) (Pbears : Nat → Int32) (Pcosts : Nat → Int32) (Ptold : Nat → Int32) (PgivenC : Nat → Int32) (Pleast : Nat → Int32) (Pgreat : Nat → Int32) (Pact : Nat → Int32) (Ptarget : Nat → Int32) (Pfrom : Nat → Int32) (Pmiddle : Nat → Int32) (Pend : Nat → Int32) (Pcode : Nat → Int32) (xr : Int32) (hKT : KT D A (wK_X7_lasting ak ad pg pa cl Pst Pce Pgi Pln Pbears Pcosts Ptold PgivenC Pleast Pgreat Pact Ptarget Pfrom Pmiddle Pend Pcode) s.heap)  (Φ : Int32 → Nat → Int32 → Int32 → Int32 → Int32 → Int32 → (Nat → Int32) → (Nat → Int32) → (Nat → Int32) → (Nat → Int32) → (Nat → Int32) → (Nat → Int32) → Option Nat → Int32 → (Nat → Int32) → (Nat → Int32) → (Nat → Int32) → (Nat → Int32) → Nat → Int32 → Int32 → (Nat → Int32) → (Nat → Nat → Int32) → Prop)
    (kR20 : ∀ (r : Int32) (Wpg : Nat) (Wway : Int32) (Wstate : Int32) (Wnext : Int32) (Wsteps : Int32) (Wwritten : Int32) (Wstuffs : Nat → Int32) (Wtwins : Nat → Int32) (Wworn : Nat → Int32) (Wcells : Nat → Int32) (Wkept : Nat → Int32) (Wstack : Nat → Int32) (Sof : Option Nat) (Sendless : Int32) (Soften : Nat → Int32) (Sby : Nat → Int32) (Speak : Nat → Int32) (Sover : Nat → Int32) (Lpg : Nat) (Lstuff : Int32) (Ltwins : Int32) (Lpeak : Nat → Int32) (Lrow : Nat → Nat → Int32) (H : Heap) (locs : List Loc) (ls : Array Slot), Φ r Wpg Wway Wstate Wnext Wsteps Wwritten Wstuffs Wtwins Wworn Wcells Wkept Wstack Sof Sendless Soften Sby Speak Sover Lpg Lstuff Ltwins Lpeak Lrow → va_P D vwCl (wW_X7_lasting ak ad h7 xa ma wa pg sa la gq Hway Hstate Hnext Hsteps Hwritten Hstuffs Htwins Wpg Wway Wstate Wnext Wsteps Wwritten Wstuffs Wtwins Wworn Wcells Wkept Wstack Sof Sendless Soften Sby Speak Sover Lpg Lstuff Ltwins Lpeak Lrow) H → va_D A (wW_X7_lasting ak ad h7 xa ma wa pg sa la gq Hway Hstate Hnext Hsteps Hwritten Hstuffs Htwins Wpg Wway Wstate Wnext Wsteps Wwritten Wstuffs Wtwins Wworn Wcells Wkept Wstack Sof Sendless Soften Sby Speak Sover Lpg Lstuff Ltwins Lpeak Lrow) → va_S A s.heap H locs → W p l e R s m args below meth c H locs cells slots Q (F0 m 20 ls [.int r]))
    : ∀ (Wpg : Nat) (Wway : Int32) (Wstate : Int32) (Wnext : Int32) (Wsteps : Int32) (Wwritten : Int32) (Wstuffs : Nat → Int32) (Wtwins : Nat → Int32) (Wworn : Nat → Int32) (Wcells : Nat → Int32) (Wkept : Nat → Int32) (Wstack : Nat → Int32) (Sof : Option Nat) (Sendless : Int32) (Soften : Nat → Int32) (Sby : Nat → Int32) (Speak : Nat → Int32) (Sover : Nat → Int32) (Lpg : Nat) (Lstuff : Int32) (Ltwins : Int32) (Lpeak : Nat → Int32) (Lrow : Nat → Nat → Int32) (H : Heap) (locs : List Loc) (ls : Array Slot), wp_X7_lasting Hstuffs Htwins Pst Pce Pgi Pln Pbears Pcosts Ptold PgivenC Pleast Pgreat Pact Ptarget Pfrom Pmiddle Pend Pcode cl pg xr Wpg Wway Wstate Wnext Wsteps Wwritten Wstuffs Wtwins Wworn Wcells Wkept Wstack Sof Sendless Soften Sby Speak Sover Lpg Lstuff Ltwins Lpeak Lrow Φ → va_P D vwCl (wW_X7_lasting ak ad h7 xa ma wa pg sa la gq Hway Hstate Hnext Hsteps Hwritten Hstuffs Htwins Wpg Wway Wstate Wnext Wsteps Wwritten Wstuffs Wtwins Wworn Wcells Wkept Wstack Sof Sendless Soften Sby Speak Sover Lpg Lstuff Ltwins Lpeak Lrow) H → va_D A (wW_X7_lasting ak ad h7 xa ma wa pg sa la gq Hway Hstate Hnext Hsteps Hwritten Hstuffs Htwins Wpg Wway Wstate Wnext Wsteps Wwritten Wstuffs Wtwins Wworn Wcells Wkept Wstack Sof Sendless Soften Sby Speak Sover Lpg Lstuff Ltwins Lpeak Lrow) → va_S A s.heap H locs → lv_has ls 2 [(0, .ref h7), (1, .int (xr))] → W p l e R s m args below meth c H locs cells slots Q (F0 m 0 ls ([])) := by
  have hCW : ∀ {H : Heap} {locs : List Loc}, va_S A s.heap H locs → va_P D vwCl (wK_X7_lasting ak ad pg pa cl Pst Pce Pgi Pln Pbears Pcosts Ptold PgivenC Pleast Pgreat Pact Ptarget Pfrom Pmiddle Pend Pcode) H := fun hS => (hKT.kept hS.2.1).1
  intro Wpg Wway Wstate Wnext Wsteps Wwritten Wstuffs Wtwins Wworn Wcells Wkept Wstack Sof Sendless Soften Sby Speak Sover Lpg Lstuff Ltwins Lpeak Lrow H locs ls hw hP hD hS hl
  delta wp_X7_lasting at hw
  refine lv_aload_n hx hb dX7_lasting_0 rfl (lv_at hl 0 rfl) ?_
  refine lv_iload_n hx hb dX7_lasting_1 rfl (lv_at hl 1 rfl) ?_
  refine kc_i (wc := (wW_X7_canLast ak ad h7 xa ma wa pg sa la gq Hway Hstate Hnext Hsteps Hwritten Hstuffs Htwins Wpg Wway Wstate Wnext Wsteps Wwritten Wstuffs Wtwins Wworn Wcells Wkept Wstack Sof Sendless Soften Sby Speak Sover Lpg Lstuff Ltwins Lpeak Lrow)) (wr := []) hP hD hS hA [0, 1, 2, 3, 4, 5, 6, 7, 8, 9, 10, 11, 12, 13, 14, 15, 16, 17, 18, 19, 20, 21, 22, 23, 24, 25, 26, 27, 28, 29, 30, 31, 32, 33, 34, 35] [] rfl rfl (by decide) (by decide) (va_runV (As := [.int (xr)]) (rest := []) ⟨hx, hb, hml, hown, hts⟩ (c_X7_canLast l D ak ad _ h7 xa ma wa pg pa sa la gq cl Hway Hstate Hnext Hsteps Hwritten Hstuffs Htwins Wpg Wway Wstate Wnext Wsteps Wwritten Wstuffs Wtwins Wworn Wcells Wkept Wstack Sof Sendless Soften Sby Speak Sover Lpg Lstuff Ltwins Lpeak Lrow Pst Pce Pgi Pln Pbears Pcosts Ptold PgivenC Pleast Pgreat Pact Ptarget Pfrom Pmiddle Pend Pcode xr _ hw) (cwV 1 hts gX7_lasting_X7_canLast rfl rfl rfl hv_X7_canLast ⟨(Nat.le_trans (Nat.le_of_ble_eq_true rfl) hRf), (Nat.le_trans (Nat.le_of_ble_eq_true rfl) hRl)⟩) (kc_preVK (As := [.int (xr)]) (wc := (wW_X7_canLast ak ad h7 xa ma wa pg sa la gq Hway Hstate Hnext Hsteps Hwritten Hstuffs Htwins Wpg Wway Wstate Wnext Wsteps Wwritten Wstuffs Wtwins Wworn Wcells Wkept Wstack Sof Sendless Soften Sby Speak Sover Lpg Lstuff Ltwins Lpeak Lrow)) (ck := (wK_X7_canLast ak ad pg pa cl Pst Pce Pgi Pln Pbears Pcosts Ptold PgivenC Pleast Pgreat Pact Ptarget Pfrom Pmiddle Pend Pcode)) hKT hE hT hP hD hS hA [0, 1, 2, 3, 4, 5, 6, 7, 8, 9, 10, 11, 12, 13, 14, 15, 16, 17, 18, 19, 20, 21, 22, 23, 24, 25, 26, 27, 28, 29, 30, 31, 32, 33, 34, 35] [0, 1, 2, 3, 4, 5, 6, 7, 8, 9, 10, 11, 12] (by decide) rfl rfl rfl hP 0 6 rfl rfl rfl) rfl rfl hl.1 rfl (lv_room (Nat.le_of_ble_eq_true rfl)) dX7_lasting_2 ⟨hRc.1, hRc.2⟩) (fun r_25 u_1 H locs hw hP hD hS => ?_)
  obtain ⟨Wpg_2, Wway_3, Wstate_4, Wnext_5, Wsteps_6, Wwritten_7, Wstuffs_8, Wtwins_9, Wworn_10, Wcells_11, Wkept_12, Wstack_13, Sof_14, Sendless_15, Soften_16, Sby_17, Speak_18, Sover_19, Lpg_20, Lstuff_21, Ltwins_22, Lpeak_23, Lrow_24⟩ := u_1
  try dsimp -zeta only at hw
  have hP : va_P D vwCl (wW_X7_lasting ak ad h7 xa ma wa pg sa la gq Hway Hstate Hnext Hsteps Hwritten Hstuffs Htwins Wpg_2 Wway_3 Wstate_4 Wnext_5 Wsteps_6 Wwritten_7 Wstuffs_8 Wtwins_9 Wworn_10 Wcells_11 Wkept_12 Wstack_13 Sof_14 Sendless_15 Soften_16 Sby_17 Speak_18 Sover_19 Lpg_20 Lstuff_21 Ltwins_22 Lpeak_23 Lrow_24) H := hP.sub [0, 1, 2, 3, 4, 5, 6, 7, 8, 9, 10, 11, 12, 13, 14, 15, 16, 17, 18, 19, 20, 21, 22, 23, 24, 25, 26, 27, 28, 29, 30, 31, 32, 33, 34, 35] rfl
  have hD : va_D A (wW_X7_lasting ak ad h7 xa ma wa pg sa la gq Hway Hstate Hnext Hsteps Hwritten Hstuffs Htwins Wpg_2 Wway_3 Wstate_4 Wnext_5 Wsteps_6 Wwritten_7 Wstuffs_8 Wtwins_9 Wworn_10 Wcells_11 Wkept_12 Wstack_13 Sof_14 Sendless_15 Soften_16 Sby_17 Speak_18 Sover_19 Lpg_20 Lstuff_21 Ltwins_22 Lpeak_23 Lrow_24) := hD.sub [0, 1, 2, 3, 4, 5, 6, 7, 8, 9, 10, 11, 12, 13, 14, 15, 16, 17, 18, 19, 20, 21, 22, 23, 24, 25, 26, 27, 28, 29, 30, 31, 32, 33, 34, 35] (by decide) rfl
  refine lv_if_eq (tgt := 19) hx hb dX7_lasting_5 (by decide) (fun c_26 => ?_) (fun c_26 => ?_)
  · replace hw := hw.1 c_26
    refine lv_iconst (v := (-1)) hx hb dX7_lasting_19 (by decide) ?_
    exact kR20 (-1) Wpg_2 Wway_3 Wstate_4 Wnext_5 Wsteps_6 Wwritten_7 Wstuffs_8 Wtwins_9 Wworn_10 Wcells_11 Wkept_12 Wstack_13 Sof_14 Sendless_15 Soften_16 Sby_17 Speak_18 Sover_19 Lpg_20 Lstuff_21 Ltwins_22 Lpeak_23 Lrow_24 _ _ _ hw hP hD hS
  · replace hw := hw.2 c_26
    refine lv_aload_n hx hb dX7_lasting_8 rfl (lv_at hl 0 rfl) ?_
    refine va_get (D := D) (ci := 6) (v := .ref (xa 9)) (C := RX7) (T := TX7) (N := 10) hx hb hts (fun w h => wm_c (wc_X7 w h)) hown hE.1 hP 0 rfl rfl 9 (by decide) (hts (.fieldLink RX7 67 "WornLines" "layout" "LWornLines$Layout;") (wm_c hw_619)) (fun _ h9 => h9) rfl dX7_lasting_9 ?_
    refine lv_iload_n hx hb dX7_lasting_12 rfl (lv_at hl 1 rfl) ?_
    refine kc_i (wc := (wW_X0_leastCost ak ad (xa 9) la gq Lpg_20 Lstuff_21 Ltwins_22 Lrow_24)) (wr := [(h7, .inr (6, wob xa )), ((xa 3), .inr (1, xob ma (pg) (Hway) (Hstate) (Hnext) (Hsteps) (Hwritten))), ((ma 0), .inl (ak 0, 16, .inl (Hstuffs))), ((ma 1), .inl (ak 0, 16, .inl (Htwins))), ((xa 4), .inr (1, xob wa (Wpg_2) (Wway_3) (Wstate_4) (Wnext_5) (Wsteps_6) (Wwritten_7))), ((wa 0), .inl (ak 0, 16, .inl (Wstuffs_8))), ((wa 1), .inl (ak 0, 16, .inl (Wtwins_9))), ((wa 2), .inl (ak 0, 16, .inl (Wworn_10))), ((wa 3), .inl (ak 0, 6, .inl (Wcells_11))), ((wa 4), .inl (ak 0, 1000, .inl (Wkept_12))), ((wa 5), .inl (ak 0, 32, .inl (Wstack_13))), ((xa 8), .inr (4, sob sa (Sof_14) (Sendless_15))), ((sa 0), .inl (ak 0, 16, .inl (Soften_16))), ((sa 1), .inl (ak 0, 16, .inl (Sby_17))), ((sa 2), .inl (ak 0, 16, .inl (Speak_18))), ((sa 3), .inl (ak 0, 16, .inl (Sover_19))), ((la 0), .inl (ak 0, 16, .inl (Lpeak_23)))]) hP hD hS hA [16, 18, 19, 20, 21, 22, 23, 24, 25, 26, 27, 28, 29, 30, 31, 32, 33, 34, 35] [0, 1, 2, 3, 4, 5, 6, 7, 8, 9, 10, 11, 12, 13, 14, 15, 17] rfl rfl (by decide) (by decide) (va_runV (As := [.int (xr)]) (rest := []) ⟨hx, hb, hml, hown, hts⟩ (c_X0_leastCost l D ak ad _ (xa 9) la gq Lpg_20 Lstuff_21 Ltwins_22 Lrow_24 xr _ hw) (cwV 1 hts gX7_lasting_X0_leastCost rfl rfl rfl hv_X0_leastCost ⟨(Nat.le_trans (Nat.le_of_ble_eq_true rfl) hRf), (Nat.le_trans (Nat.le_of_ble_eq_true rfl) hRl)⟩) (kc_preV (As := [.int (xr)]) (wc := (wW_X0_leastCost ak ad (xa 9) la gq Lpg_20 Lstuff_21 Ltwins_22 Lrow_24)) hE hT hP hD hS hA [16, 18, 19, 20, 21, 22, 23, 24, 25, 26, 27, 28, 29, 30, 31, 32, 33, 34, 35] (by decide) rfl rfl 16 0 rfl rfl rfl) rfl rfl hl.1 rfl (lv_room (Nat.le_of_ble_eq_true rfl)) dX7_lasting_13 ⟨hRc.1, hRc.2⟩) (fun r_28 u_27 H locs hw hP hD hS => ?_)
    try dsimp -zeta only at hw
    have hP : va_P D vwCl (wW_X7_lasting ak ad h7 xa ma wa pg sa la gq Hway Hstate Hnext Hsteps Hwritten Hstuffs Htwins Wpg_2 Wway_3 Wstate_4 Wnext_5 Wsteps_6 Wwritten_7 Wstuffs_8 Wtwins_9 Wworn_10 Wcells_11 Wkept_12 Wstack_13 Sof_14 Sendless_15 Soften_16 Sby_17 Speak_18 Sover_19 Lpg_20 Lstuff_21 Ltwins_22 Lpeak_23 Lrow_24) H := hP.sub [0, 1, 2, 3, 4, 5, 6, 7, 8, 9, 10, 11, 12, 13, 14, 15, 17, 16, 18, 19, 20, 21, 22, 23, 24, 25, 26, 27, 28, 29, 30, 31, 32, 33, 34, 35] rfl
    have hD : va_D A (wW_X7_lasting ak ad h7 xa ma wa pg sa la gq Hway Hstate Hnext Hsteps Hwritten Hstuffs Htwins Wpg_2 Wway_3 Wstate_4 Wnext_5 Wsteps_6 Wwritten_7 Wstuffs_8 Wtwins_9 Wworn_10 Wcells_11 Wkept_12 Wstack_13 Sof_14 Sendless_15 Soften_16 Sby_17 Speak_18 Sover_19 Lpg_20 Lstuff_21 Ltwins_22 Lpeak_23 Lrow_24) := hD.sub [0, 1, 2, 3, 4, 5, 6, 7, 8, 9, 10, 11, 12, 13, 14, 15, 17, 16, 18, 19, 20, 21, 22, 23, 24, 25, 26, 27, 28, 29, 30, 31, 32, 33, 34, 35] (by decide) rfl
    refine lv_goto (tgt := 20) hx hb dX7_lasting_16 (by decide) ?_
    exact kR20 r_28 Wpg_2 Wway_3 Wstate_4 Wnext_5 Wsteps_6 Wwritten_7 Wstuffs_8 Wtwins_9 Wworn_10 Wcells_11 Wkept_12 Wstack_13 Sof_14 Sendless_15 Soften_16 Sby_17 Speak_18 Sover_19 Lpg_20 Lstuff_21 Ltwins_22 Lpeak_23 Lrow_24 _ _ _ hw hP hD hS
set_option maxHeartbeats 4000000 in
set_option maxRecDepth 100000 in
theorem c_X7_lasting (l : Launch) (D : va_G) (ak : Nat → ClassId) (ad : Nat → Nat) (sz : Nat) (h7 : Nat) (xa : Nat → Nat) (ma : Nat → Nat) (wa : Nat → Nat) (pg : Nat) (pa : Nat → Nat) (sa : Nat → Nat) (la : Nat → Nat) (gq : Nat → Nat) (cl : Nat) (Hway : Int32) (Hstate : Int32) (Hnext : Int32) (Hsteps : Int32) (Hwritten : Int32) (Hstuffs : Nat → Int32) (Htwins : Nat → Int32) (Wpg : Nat) (Wway : Int32) (Wstate : Int32) (Wnext : Int32) (Wsteps : Int32) (Wwritten : Int32) (Wstuffs : Nat → Int32) (Wtwins : Nat → Int32) (Wworn : Nat → Int32) (Wcells : Nat → Int32) (Wkept : Nat → Int32) (Wstack : Nat → Int32) (Sof : Option Nat) (Sendless : Int32) (Soften : Nat → Int32) (Sby : Nat → Int32) (Speak : Nat → Int32) (Sover : Nat → Int32) (Lpg : Nat) (Lstuff : Int32) (Ltwins : Int32) (Lpeak : Nat → Int32) (Lrow : Nat → Nat → Int32) (Pst : Int32) (Pce : Int32) (Pgi : Int32) (Pln : Int32) (Pbears : Nat → Int32) (Pcosts : Nat → Int32) (Ptold : Nat → Int32) (PgivenC : Nat → Int32) (Pleast : Nat → Int32) (Pgreat : Nat → Int32) (Pact : Nat → Int32) (Ptarget : Nat → Int32) (Pfrom : Nat → Int32) (Pmiddle : Nat → Int32) (Pend : Nat → Int32) (Pcode : Nat → Int32) (xr : Int32) (Φ : Int32 → Nat → Int32 → Int32 → Int32 → Int32 → Int32 → (Nat → Int32) → (Nat → Int32) → (Nat → Int32) → (Nat → Int32) → (Nat → Int32) → (Nat → Int32) → Option Nat → Int32 → (Nat → Int32) → (Nat → Int32) → (Nat → Int32) → (Nat → Int32) → Nat → Int32 → Int32 → (Nat → Int32) → (Nat → Nat → Int32) → Prop) (hf : wp_X7_lasting Hstuffs Htwins Pst Pce Pgi Pln Pbears Pcosts Ptold PgivenC Pleast Pgreat Pact Ptarget Pfrom Pmiddle Pend Pcode cl pg xr Wpg Wway Wstate Wnext Wsteps Wwritten Wstuffs Wtwins Wworn Wcells Wkept Wstack Sof Sendless Soften Sby Speak Sover Lpg Lstuff Ltwins Lpeak Lrow Φ) : Met l yX7_lasting wsX7_lasting ({ frames := 7, cells := 0, slots := 0, locals := 159 }) (cPreK D ak ad [.ref h7, .int (xr)] ((wW_X7_lasting ak ad h7 xa ma wa pg sa la gq Hway Hstate Hnext Hsteps Hwritten Hstuffs Htwins Wpg Wway Wstate Wnext Wsteps Wwritten Wstuffs Wtwins Wworn Wcells Wkept Wstack Sof Sendless Soften Sby Speak Sover Lpg Lstuff Ltwins Lpeak Lrow)) sz ((wK_X7_lasting ak ad pg pa cl Pst Pce Pgi Pln Pbears Pcosts Ptold PgivenC Pleast Pgreat Pact Ptarget Pfrom Pmiddle Pend Pcode))) (cI D (S := (Nat) × (Int32) × (Int32) × (Int32) × (Int32) × (Int32) × (Nat → Int32) × (Nat → Int32) × (Nat → Int32) × (Nat → Int32) × (Nat → Int32) × (Nat → Int32) × (Option Nat) × (Int32) × (Nat → Int32) × (Nat → Int32) × (Nat → Int32) × (Nat → Int32) × (Nat) × (Int32) × (Int32) × (Nat → Int32) × (Nat → Nat → Int32)) (fun (r : Int32) (u : (Nat) × (Int32) × (Int32) × (Int32) × (Int32) × (Int32) × (Nat → Int32) × (Nat → Int32) × (Nat → Int32) × (Nat → Int32) × (Nat → Int32) × (Nat → Int32) × (Option Nat) × (Int32) × (Nat → Int32) × (Nat → Int32) × (Nat → Int32) × (Nat → Int32) × (Nat) × (Int32) × (Int32) × (Nat → Int32) × (Nat → Nat → Int32)) => Φ r u.1 u.2.1 u.2.2.1 u.2.2.2.1 u.2.2.2.2.1 u.2.2.2.2.2.1 u.2.2.2.2.2.2.1 u.2.2.2.2.2.2.2.1 u.2.2.2.2.2.2.2.2.1 u.2.2.2.2.2.2.2.2.2.1 u.2.2.2.2.2.2.2.2.2.2.1 u.2.2.2.2.2.2.2.2.2.2.2.1 u.2.2.2.2.2.2.2.2.2.2.2.2.1 u.2.2.2.2.2.2.2.2.2.2.2.2.2.1 u.2.2.2.2.2.2.2.2.2.2.2.2.2.2.1 u.2.2.2.2.2.2.2.2.2.2.2.2.2.2.2.1 u.2.2.2.2.2.2.2.2.2.2.2.2.2.2.2.2.1 u.2.2.2.2.2.2.2.2.2.2.2.2.2.2.2.2.2.1 u.2.2.2.2.2.2.2.2.2.2.2.2.2.2.2.2.2.2.1 u.2.2.2.2.2.2.2.2.2.2.2.2.2.2.2.2.2.2.2.1 u.2.2.2.2.2.2.2.2.2.2.2.2.2.2.2.2.2.2.2.2.1 u.2.2.2.2.2.2.2.2.2.2.2.2.2.2.2.2.2.2.2.2.2.1 u.2.2.2.2.2.2.2.2.2.2.2.2.2.2.2.2.2.2.2.2.2.2) (fun u => (wW_X7_lasting ak ad h7 xa ma wa pg sa la gq Hway Hstate Hnext Hsteps Hwritten Hstuffs Htwins u.1 u.2.1 u.2.2.1 u.2.2.2.1 u.2.2.2.2.1 u.2.2.2.2.2.1 u.2.2.2.2.2.2.1 u.2.2.2.2.2.2.2.1 u.2.2.2.2.2.2.2.2.1 u.2.2.2.2.2.2.2.2.2.1 u.2.2.2.2.2.2.2.2.2.2.1 u.2.2.2.2.2.2.2.2.2.2.2.1 u.2.2.2.2.2.2.2.2.2.2.2.2.1 u.2.2.2.2.2.2.2.2.2.2.2.2.2.1 u.2.2.2.2.2.2.2.2.2.2.2.2.2.2.1 u.2.2.2.2.2.2.2.2.2.2.2.2.2.2.2.1 u.2.2.2.2.2.2.2.2.2.2.2.2.2.2.2.2.1 u.2.2.2.2.2.2.2.2.2.2.2.2.2.2.2.2.2.1 u.2.2.2.2.2.2.2.2.2.2.2.2.2.2.2.2.2.2.1 u.2.2.2.2.2.2.2.2.2.2.2.2.2.2.2.2.2.2.2.1 u.2.2.2.2.2.2.2.2.2.2.2.2.2.2.2.2.2.2.2.2.1 u.2.2.2.2.2.2.2.2.2.2.2.2.2.2.2.2.2.2.2.2.2.1 u.2.2.2.2.2.2.2.2.2.2.2.2.2.2.2.2.2.2.2.2.2.2)) ((wW_X7_lasting ak ad h7 xa ma wa pg sa la gq Hway Hstate Hnext Hsteps Hwritten Hstuffs Htwins Wpg Wway Wstate Wnext Wsteps Wwritten Wstuffs Wtwins Wworn Wcells Wkept Wstack Sof Sendless Soften Sby Speak Sover Lpg Lstuff Ltwins Lpeak Lrow)) sz) 0 0 (va_A ((wW_X7_lasting ak ad h7 xa ma wa pg sa la gq Hway Hstate Hnext Hsteps Hwritten Hstuffs Htwins Wpg Wway Wstate Wnext Wsteps Wwritten Wstuffs Wtwins Wworn Wcells Wkept Wstack Sof Sendless Soften Sby Speak Sover Lpg Lstuff Ltwins Lpeak Lrow)) sz) := by
  refine Met.ofW (cc := cX7_lasting) (maxL := 2) (ret := (some .int)) (by decide) rfl ?_
  intro p e s m args below meth c s₁ B hml hv
  obtain ⟨⟨rfl, hsz, hP, hE, hD0, hT⟩, hKT⟩ := hv
  have hx := B.exec
  have hb := B.bytes
  have hr := B.returns
  have hts := atoms_spec (ws := wsX7_lasting) B.pre
  have hown : s.vm.findClass RX7 = some m.cls := findClass_of_methodNamed B.named
  have hlocks := B.notSynchronized
  subst hsz
  have hD := hD0.self (sz := s.heap.size)
  generalize hAe : va_A ((wW_X7_lasting ak ad h7 xa ma wa pg sa la gq Hway Hstate Hnext Hsteps Hwritten Hstuffs Htwins Wpg Wway Wstate Wnext Wsteps Wwritten Wstuffs Wtwins Wworn Wcells Wkept Wstack Sof Sendless Soften Sby Speak Sover Lpg Lstuff Ltwins Lpeak Lrow)) s.heap.size = A at hD hT hKT ⊢
  have hA : ∀ q : Nat, s.heap.size ≤ q → A q := fun q h => by rw [← hAe]; exact Or.inr h
  have hS : va_S A s.heap s.heap [] := va_S.rf
  have hl := lv_entry ([.ref h7, .int (xr)]) (n := 2) (Nat.le_of_ble_eq_true rfl)
  rw [lg_entry_eq]
  generalize (lg_sl ([.ref h7, .int (xr)]) ++ List.replicate (2 - (lg_sl ([.ref h7, .int (xr)])).length) Slot.unset).toArray = ls at hl ⊢
  have hl : lv_has ls 2 [(0, .ref h7), (1, .int (xr))] := hl
  exact kj_X7_lasting_e hx hb hown hts hml hE hT hA (Nat.le_of_ble_eq_true rfl) (Nat.le_of_ble_eq_true rfl) ⟨Nat.le_of_ble_eq_true rfl, Nat.le_of_ble_eq_true rfl⟩ h7 xa ma wa pg pa sa la gq cl Hway Hstate Hnext Hsteps Hwritten Hstuffs Htwins Pst Pce Pgi Pln Pbears Pcosts Ptold PgivenC Pleast Pgreat Pact Ptarget Pfrom Pmiddle Pend Pcode xr hKT Φ (fun r Wpg Wway Wstate Wnext Wsteps Wwritten Wstuffs Wtwins Wworn Wcells Wkept Wstack Sof Sendless Soften Sby Speak Sover Lpg Lstuff Ltwins Lpeak Lrow H locs ls hw hP hD hS => W.iret (v := r) hx hb hr (fun t ht hW => ⟨⟨r, (Wpg, Wway, Wstate, Wnext, Wsteps, Wwritten, Wstuffs, Wtwins, Wworn, Wcells, Wkept, Wstack, Sof, Sendless, Soften, Sby, Speak, Sover, Lpg, Lstuff, Ltwins, Lpeak, Lrow), rfl, hw, by rw [ht]; exact hP, by rw [hAe]; exact hD⟩, by rw [hAe]; exact hS.F ht⟩) hS.2.2 dX7_lasting_20) Wpg Wway Wstate Wnext Wsteps Wwritten Wstuffs Wtwins Wworn Wcells Wkept Wstack Sof Sendless Soften Sby Speak Sover Lpg Lstuff Ltwins Lpeak Lrow _ _ _ hf hP hD hS hl

def wW_X7_lasts (ak : Nat → ClassId) (ad : Nat → Nat) (h7 : Nat) (xa : Nat → Nat) (ma : Nat → Nat) (wa : Nat → Nat) (pg : Nat) (sa : Nat → Nat) (la : Nat → Nat) (gq : Nat → Nat) (Hway : Int32) (Hstate : Int32) (Hnext : Int32) (Hsteps : Int32) (Hwritten : Int32) (Hstuffs : Nat → Int32) (Htwins : Nat → Int32) (Wpg : Nat) (Wway : Int32) (Wstate : Int32) (Wnext : Int32) (Wsteps : Int32) (Wwritten : Int32) (Wstuffs : Nat → Int32) (Wtwins : Nat → Int32) (Wworn : Nat → Int32) (Wcells : Nat → Int32) (Wkept : Nat → Int32) (Wstack : Nat → Int32) (Sof : Option Nat) (Sendless : Int32) (Soften : Nat → Int32) (Sby : Nat → Int32) (Speak : Nat → Int32) (Sover : Nat → Int32) (Lpg : Nat) (Lstuff : Int32) (Ltwins : Int32) (Lpeak : Nat → Int32) (Lrow : Nat → Nat → Int32) : va_W := ([(h7, .inr (6, wob xa )), ((xa 3), .inr (1, xob ma (pg) (Hway) (Hstate) (Hnext) (Hsteps) (Hwritten))), ((ma 0), .inl (ak 0, 16, .inl (Hstuffs))), ((ma 1), .inl (ak 0, 16, .inl (Htwins))), ((xa 4), .inr (1, xob wa (Wpg) (Wway) (Wstate) (Wnext) (Wsteps) (Wwritten))), ((wa 0), .inl (ak 0, 16, .inl (Wstuffs))), ((wa 1), .inl (ak 0, 16, .inl (Wtwins))), ((wa 2), .inl (ak 0, 16, .inl (Wworn))), ((wa 3), .inl (ak 0, 6, .inl (Wcells))), ((wa 4), .inl (ak 0, 1000, .inl (Wkept))), ((wa 5), .inl (ak 0, 32, .inl (Wstack))), ((xa 8), .inr (4, sob sa (Sof) (Sendless))), ((sa 0), .inl (ak 0, 16, .inl (Soften))), ((sa 1), .inl (ak 0, 16, .inl (Sby))), ((sa 2), .inl (ak 0, 16, .inl (Speak))), ((sa 3), .inl (ak 0, 16, .inl (Sover))), ((xa 9), .inr (0, lob la (Lpg) (Lstuff) (Ltwins))), ((la 0), .inl (ak 0, 16, .inl (Lpeak))), ((la 1), .inl (ak 6, 17, .inr (.inr (.inr (.inr (grA gq))))))] ++ gRows ak gq Lrow)
def wK_X7_lasts (ak : Nat → ClassId) (ad : Nat → Nat) (pg : Nat) (pa : Nat → Nat) (cl : Nat) (Pst : Int32) (Pce : Int32) (Pgi : Int32) (Pln : Int32) (Pbears : Nat → Int32) (Pcosts : Nat → Int32) (Ptold : Nat → Int32) (PgivenC : Nat → Int32) (Pleast : Nat → Int32) (Pgreat : Nat → Int32) (Pact : Nat → Int32) (Ptarget : Nat → Int32) (Pfrom : Nat → Int32) (Pmiddle : Nat → Int32) (Pend : Nat → Int32) (Pcode : Nat → Int32) : va_W := [(pg, .inr (2, pob pa (Pst) (Pce) (Pgi) (Pln))), ((pa 0), .inl (ak 0, 4, .inl (Pbears))), ((pa 1), .inl (ak 0, 4, .inl (Pcosts))), ((pa 2), .inl (ak 0, 6, .inl (Ptold))), ((pa 3), .inl (ak 0, 2, .inl (PgivenC))), ((pa 4), .inl (ak 0, 2, .inl (Pleast))), ((pa 5), .inl (ak 0, 2, .inl (Pgreat))), ((pa 6), .inl (ak 0, 16, .inl (Pact))), ((pa 8), .inl (ak 0, 16, .inl (Ptarget))), ((pa 9), .inl (ak 0, 16, .inl (Pfrom))), ((pa 10), .inl (ak 0, 16, .inl (Pmiddle))), ((pa 11), .inl (ak 0, 16, .inl (Pend))), ((pa 12), .inl (ak 0, cl, .inl (Pcode)))]
def wp_X7_lasts (Hstuffs : Nat → Int32) (Htwins : Nat → Int32) (Pst : Int32) (Pce : Int32) (Pgi : Int32) (Pln : Int32) (Pbears : Nat → Int32) (Pcosts : Nat → Int32) (Ptold : Nat → Int32) (PgivenC : Nat → Int32) (Pleast : Nat → Int32) (Pgreat : Nat → Int32) (Pact : Nat → Int32) (Ptarget : Nat → Int32) (Pfrom : Nat → Int32) (Pmiddle : Nat → Int32) (Pend : Nat → Int32) (Pcode : Nat → Int32) (cl : Nat) (pg : Nat) (xr : Int32) (xl : Int32) (xw : Int32) (Wpg : Nat) (Wway : Int32) (Wstate : Int32) (Wnext : Int32) (Wsteps : Int32) (Wwritten : Int32) (Wstuffs : Nat → Int32) (Wtwins : Nat → Int32) (Wworn : Nat → Int32) (Wcells : Nat → Int32) (Wkept : Nat → Int32) (Wstack : Nat → Int32) (Sof : Option Nat) (Sendless : Int32) (Soften : Nat → Int32) (Sby : Nat → Int32) (Speak : Nat → Int32) (Sover : Nat → Int32) (Lpg : Nat) (Lstuff : Int32) (Ltwins : Int32) (Lpeak : Nat → Int32) (Lrow : Nat → Nat → Int32) (Φ : Int32 → Nat → Int32 → Int32 → Int32 → Int32 → Int32 → (Nat → Int32) → (Nat → Int32) → (Nat → Int32) → (Nat → Int32) → (Nat → Int32) → (Nat → Int32) → Option Nat → Int32 → (Nat → Int32) → (Nat → Int32) → (Nat → Int32) → (Nat → Int32) → Nat → Int32 → Int32 → (Nat → Int32) → (Nat → Nat → Int32) → Prop) : Prop := wp_X7_canLast Hstuffs Htwins Pst Pce Pgi Pln Pbears Pcosts Ptold PgivenC Pleast Pgreat Pact Ptarget Pfrom Pmiddle Pend Pcode cl pg xr Wpg Wway Wstate Wnext Wsteps Wwritten Wstuffs Wtwins Wworn Wcells Wkept Wstack Sof Sendless Soften Sby Speak Sover Lpg Lstuff Ltwins Lpeak Lrow (fun r_25 Wpg_2 Wway_3 Wstate_4 Wnext_5 Wsteps_6 Wwritten_7 Wstuffs_8 Wtwins_9 Wworn_10 Wcells_11 Wkept_12 Wstack_13 Sof_14 Sendless_15 Soften_16 Sby_17 Speak_18 Sover_19 Lpg_20 Lstuff_21 Ltwins_22 Lpeak_23 Lrow_24 => (r_25 = 0 → Φ (-1) Wpg_2 Wway_3 Wstate_4 Wnext_5 Wsteps_6 Wwritten_7 Wstuffs_8 Wtwins_9 Wworn_10 Wcells_11 Wkept_12 Wstack_13 Sof_14 Sendless_15 Soften_16 Sby_17 Speak_18 Sover_19 Lpg_20 Lstuff_21 Ltwins_22 Lpeak_23 Lrow_24) ∧ (¬ r_25 = 0 → wp_X7_within xl Pln (fun r_28 => (¬ r_28 = 0 → pg = Lpg_20 ∧ wp_X0_choose Lpeak_23 Lrow_24 Pst Pbears Pcosts xr xl Lstuff_21 Ltwins_22 (fun Lstuff_32 Ltwins_33 => (xw = 0 → Φ Lstuff_32 Wpg_2 Wway_3 Wstate_4 Wnext_5 Wsteps_6 Wwritten_7 Wstuffs_8 Wtwins_9 Wworn_10 Wcells_11 Wkept_12 Wstack_13 Sof_14 Sendless_15 Soften_16 Sby_17 Speak_18 Sover_19 pg Lstuff_32 Ltwins_33 Lpeak_23 Lrow_24) ∧ (xw = 1 → Φ Ltwins_33 Wpg_2 Wway_3 Wstate_4 Wnext_5 Wsteps_6 Wwritten_7 Wstuffs_8 Wtwins_9 Wworn_10 Wcells_11 Wkept_12 Wstack_13 Sof_14 Sendless_15 Soften_16 Sby_17 Speak_18 Sover_19 pg Lstuff_32 Ltwins_33 Lpeak_23 Lrow_24) ∧ (¬ xw = 0 → ¬ xw = 1 → Φ (-1) Wpg_2 Wway_3 Wstate_4 Wnext_5 Wsteps_6 Wwritten_7 Wstuffs_8 Wtwins_9 Wworn_10 Wcells_11 Wkept_12 Wstack_13 Sof_14 Sendless_15 Soften_16 Sby_17 Speak_18 Sover_19 pg Lstuff_32 Ltwins_33 Lpeak_23 Lrow_24))) ∧ (r_28 = 0 → Φ (-1) Wpg_2 Wway_3 Wstate_4 Wnext_5 Wsteps_6 Wwritten_7 Wstuffs_8 Wtwins_9 Wworn_10 Wcells_11 Wkept_12 Wstack_13 Sof_14 Sendless_15 Soften_16 Sby_17 Speak_18 Sover_19 Lpg_20 Lstuff_21 Ltwins_22 Lpeak_23 Lrow_24))))
set_option maxHeartbeats 4000000 in
set_option maxRecDepth 100000 in
theorem kj_X7_lasts_e {p : Program} {l : Launch} {e : Env} {R : Room} {s : State} {m : MethodId} {args : Array Value} {below : List Frame} {meth : Method} {c : Code} {cells slots : Nat} {Q : State → Prop} {A : Nat → Prop} {D : va_G} {ak : Nat → ClassId} {ad : Nat → Nat} (hx : p.tables.exec = Jvm.exec) (hb : c.code = cX7_lasts) (hown : s.vm.findClass RX7 = some m.cls) (hts : ∀ w ∈ wsX7_lasts, w.before args s = true) (hml : c.maxLocals = 4) (hE : EV D ak s) (hT : ST D ak ad A s s.heap) (hA : ∀ q, s.heap.size ≤ q → A q) (hRf : 7 ≤ R.frames) (hRl : 159 ≤ R.locals) (hRc : cells ≤ R.cells ∧ slots ≤ R.slots) (h7 : Nat) (xa : Nat → Nat) (ma : Nat → Nat) (wa : Nat → Nat) (pg : Nat) (pa : Nat → Nat) (sa : Nat → Nat) (la : Nat → Nat) (gq : Nat → Nat) (cl : Nat) (Hway : Int32) (Hstate : Int32) (Hnext : Int32) (Hsteps : Int32) (Hwritten : Int32) (Hstuffs : Nat → Int32) (Htwins : Nat → Int32) (Pst : Int32) (Pce : Int32) (Pgi : Int32) (Pln : Int32) (Pbears : Nat → Int32) (Pcosts : Nat → Int32) (Ptold : Nat → Int32) (PgivenC : Nat → Int32) (Pleast : Nat → Int32) (Pgreat : Nat → Int32) (Pact : Nat → Int32) (Ptarget : Nat → Int32) (Pfrom : Nat → Int32) (Pmiddle : Nat → Int32) (Pend : Nat → Int32) (Pcode : Nat → Int32) (xr : Int32) (xl : Int32) (xw : Int32) (hKT : KT D A (wK_X7_lasts ak ad pg pa cl Pst Pce Pgi Pln Pbears Pcosts Ptold PgivenC Pleast Pgreat Pact Ptarget Pfrom Pmiddle Pend Pcode) s.heap)  (Φ : Int32 → Nat → Int32 → Int32 → Int32 → Int32 → Int32 → (Nat → Int32) → (Nat → Int32) → (Nat → Int32) → (Nat → Int32) → (Nat → Int32) → (Nat → Int32) → Option Nat → Int32 → (Nat → Int32) → (Nat → Int32) → (Nat → Int32) → (Nat → Int32) → Nat → Int32 → Int32 → (Nat → Int32) → (Nat → Nat → Int32) → Prop)
    (kR26 : ∀ (r : Int32) (Wpg : Nat) (Wway : Int32) (Wstate : Int32) (Wnext : Int32) (Wsteps : Int32) (Wwritten : Int32) (Wstuffs : Nat → Int32) (Wtwins : Nat → Int32) (Wworn : Nat → Int32) (Wcells : Nat → Int32) (Wkept : Nat → Int32) (Wstack : Nat → Int32) (Sof : Option Nat) (Sendless : Int32) (Soften : Nat → Int32) (Sby : Nat → Int32) (Speak : Nat → Int32) (Sover : Nat → Int32) (Lpg : Nat) (Lstuff : Int32) (Ltwins : Int32) (Lpeak : Nat → Int32) (Lrow : Nat → Nat → Int32) (H : Heap) (locs : List Loc) (ls : Array Slot), Φ r Wpg Wway Wstate Wnext Wsteps Wwritten Wstuffs Wtwins Wworn Wcells Wkept Wstack Sof Sendless Soften Sby Speak Sover Lpg Lstuff Ltwins Lpeak Lrow → va_P D vwCl (wW_X7_lasts ak ad h7 xa ma wa pg sa la gq Hway Hstate Hnext Hsteps Hwritten Hstuffs Htwins Wpg Wway Wstate Wnext Wsteps Wwritten Wstuffs Wtwins Wworn Wcells Wkept Wstack Sof Sendless Soften Sby Speak Sover Lpg Lstuff Ltwins Lpeak Lrow) H → va_D A (wW_X7_lasts ak ad h7 xa ma wa pg sa la gq Hway Hstate Hnext Hsteps Hwritten Hstuffs Htwins Wpg Wway Wstate Wnext Wsteps Wwritten Wstuffs Wtwins Wworn Wcells Wkept Wstack Sof Sendless Soften Sby Speak Sover Lpg Lstuff Ltwins Lpeak Lrow) → va_S A s.heap H locs → W p l e R s m args below meth c H locs cells slots Q (F0 m 26 ls [.int r]))
    (kR71 : ∀ (r : Int32) (Wpg : Nat) (Wway : Int32) (Wstate : Int32) (Wnext : Int32) (Wsteps : Int32) (Wwritten : Int32) (Wstuffs : Nat → Int32) (Wtwins : Nat → Int32) (Wworn : Nat → Int32) (Wcells : Nat → Int32) (Wkept : Nat → Int32) (Wstack : Nat → Int32) (Sof : Option Nat) (Sendless : Int32) (Soften : Nat → Int32) (Sby : Nat → Int32) (Speak : Nat → Int32) (Sover : Nat → Int32) (Lpg : Nat) (Lstuff : Int32) (Ltwins : Int32) (Lpeak : Nat → Int32) (Lrow : Nat → Nat → Int32) (H : Heap) (locs : List Loc) (ls : Array Slot), Φ r Wpg Wway Wstate Wnext Wsteps Wwritten Wstuffs Wtwins Wworn Wcells Wkept Wstack Sof Sendless Soften Sby Speak Sover Lpg Lstuff Ltwins Lpeak Lrow → va_P D vwCl (wW_X7_lasts ak ad h7 xa ma wa pg sa la gq Hway Hstate Hnext Hsteps Hwritten Hstuffs Htwins Wpg Wway Wstate Wnext Wsteps Wwritten Wstuffs Wtwins Wworn Wcells Wkept Wstack Sof Sendless Soften Sby Speak Sover Lpg Lstuff Ltwins Lpeak Lrow) H → va_D A (wW_X7_lasts ak ad h7 xa ma wa pg sa la gq Hway Hstate Hnext Hsteps Hwritten Hstuffs Htwins Wpg Wway Wstate Wnext Wsteps Wwritten Wstuffs Wtwins Wworn Wcells Wkept Wstack Sof Sendless Soften Sby Speak Sover Lpg Lstuff Ltwins Lpeak Lrow) → va_S A s.heap H locs → W p l e R s m args below meth c H locs cells slots Q (F0 m 71 ls [.int r]))
    (kR79 : ∀ (r : Int32) (Wpg : Nat) (Wway : Int32) (Wstate : Int32) (Wnext : Int32) (Wsteps : Int32) (Wwritten : Int32) (Wstuffs : Nat → Int32) (Wtwins : Nat → Int32) (Wworn : Nat → Int32) (Wcells : Nat → Int32) (Wkept : Nat → Int32) (Wstack : Nat → Int32) (Sof : Option Nat) (Sendless : Int32) (Soften : Nat → Int32) (Sby : Nat → Int32) (Speak : Nat → Int32) (Sover : Nat → Int32) (Lpg : Nat) (Lstuff : Int32) (Ltwins : Int32) (Lpeak : Nat → Int32) (Lrow : Nat → Nat → Int32) (H : Heap) (locs : List Loc) (ls : Array Slot), Φ r Wpg Wway Wstate Wnext Wsteps Wwritten Wstuffs Wtwins Wworn Wcells Wkept Wstack Sof Sendless Soften Sby Speak Sover Lpg Lstuff Ltwins Lpeak Lrow → va_P D vwCl (wW_X7_lasts ak ad h7 xa ma wa pg sa la gq Hway Hstate Hnext Hsteps Hwritten Hstuffs Htwins Wpg Wway Wstate Wnext Wsteps Wwritten Wstuffs Wtwins Wworn Wcells Wkept Wstack Sof Sendless Soften Sby Speak Sover Lpg Lstuff Ltwins Lpeak Lrow) H → va_D A (wW_X7_lasts ak ad h7 xa ma wa pg sa la gq Hway Hstate Hnext Hsteps Hwritten Hstuffs Htwins Wpg Wway Wstate Wnext Wsteps Wwritten Wstuffs Wtwins Wworn Wcells Wkept Wstack Sof Sendless Soften Sby Speak Sover Lpg Lstuff Ltwins Lpeak Lrow) → va_S A s.heap H locs → W p l e R s m args below meth c H locs cells slots Q (F0 m 79 ls [.int r]))
    (kR81 : ∀ (r : Int32) (Wpg : Nat) (Wway : Int32) (Wstate : Int32) (Wnext : Int32) (Wsteps : Int32) (Wwritten : Int32) (Wstuffs : Nat → Int32) (Wtwins : Nat → Int32) (Wworn : Nat → Int32) (Wcells : Nat → Int32) (Wkept : Nat → Int32) (Wstack : Nat → Int32) (Sof : Option Nat) (Sendless : Int32) (Soften : Nat → Int32) (Sby : Nat → Int32) (Speak : Nat → Int32) (Sover : Nat → Int32) (Lpg : Nat) (Lstuff : Int32) (Ltwins : Int32) (Lpeak : Nat → Int32) (Lrow : Nat → Nat → Int32) (H : Heap) (locs : List Loc) (ls : Array Slot), Φ r Wpg Wway Wstate Wnext Wsteps Wwritten Wstuffs Wtwins Wworn Wcells Wkept Wstack Sof Sendless Soften Sby Speak Sover Lpg Lstuff Ltwins Lpeak Lrow → va_P D vwCl (wW_X7_lasts ak ad h7 xa ma wa pg sa la gq Hway Hstate Hnext Hsteps Hwritten Hstuffs Htwins Wpg Wway Wstate Wnext Wsteps Wwritten Wstuffs Wtwins Wworn Wcells Wkept Wstack Sof Sendless Soften Sby Speak Sover Lpg Lstuff Ltwins Lpeak Lrow) H → va_D A (wW_X7_lasts ak ad h7 xa ma wa pg sa la gq Hway Hstate Hnext Hsteps Hwritten Hstuffs Htwins Wpg Wway Wstate Wnext Wsteps Wwritten Wstuffs Wtwins Wworn Wcells Wkept Wstack Sof Sendless Soften Sby Speak Sover Lpg Lstuff Ltwins Lpeak Lrow) → va_S A s.heap H locs → W p l e R s m args below meth c H locs cells slots Q (F0 m 81 ls [.int r]))
    : ∀ (Wpg : Nat) (Wway : Int32) (Wstate : Int32) (Wnext : Int32) (Wsteps : Int32) (Wwritten : Int32) (Wstuffs : Nat → Int32) (Wtwins : Nat → Int32) (Wworn : Nat → Int32) (Wcells : Nat → Int32) (Wkept : Nat → Int32) (Wstack : Nat → Int32) (Sof : Option Nat) (Sendless : Int32) (Soften : Nat → Int32) (Sby : Nat → Int32) (Speak : Nat → Int32) (Sover : Nat → Int32) (Lpg : Nat) (Lstuff : Int32) (Ltwins : Int32) (Lpeak : Nat → Int32) (Lrow : Nat → Nat → Int32) (H : Heap) (locs : List Loc) (ls : Array Slot), wp_X7_lasts Hstuffs Htwins Pst Pce Pgi Pln Pbears Pcosts Ptold PgivenC Pleast Pgreat Pact Ptarget Pfrom Pmiddle Pend Pcode cl pg xr xl xw Wpg Wway Wstate Wnext Wsteps Wwritten Wstuffs Wtwins Wworn Wcells Wkept Wstack Sof Sendless Soften Sby Speak Sover Lpg Lstuff Ltwins Lpeak Lrow Φ → va_P D vwCl (wW_X7_lasts ak ad h7 xa ma wa pg sa la gq Hway Hstate Hnext Hsteps Hwritten Hstuffs Htwins Wpg Wway Wstate Wnext Wsteps Wwritten Wstuffs Wtwins Wworn Wcells Wkept Wstack Sof Sendless Soften Sby Speak Sover Lpg Lstuff Ltwins Lpeak Lrow) H → va_D A (wW_X7_lasts ak ad h7 xa ma wa pg sa la gq Hway Hstate Hnext Hsteps Hwritten Hstuffs Htwins Wpg Wway Wstate Wnext Wsteps Wwritten Wstuffs Wtwins Wworn Wcells Wkept Wstack Sof Sendless Soften Sby Speak Sover Lpg Lstuff Ltwins Lpeak Lrow) → va_S A s.heap H locs → lv_has ls 4 [(0, .ref h7), (1, .int (xr)), (2, .int (xl)), (3, .int (xw))] → W p l e R s m args below meth c H locs cells slots Q (F0 m 0 ls ([])) := by
  have hCW : ∀ {H : Heap} {locs : List Loc}, va_S A s.heap H locs → va_P D vwCl (wK_X7_lasts ak ad pg pa cl Pst Pce Pgi Pln Pbears Pcosts Ptold PgivenC Pleast Pgreat Pact Ptarget Pfrom Pmiddle Pend Pcode) H := fun hS => (hKT.kept hS.2.1).1
  intro Wpg Wway Wstate Wnext Wsteps Wwritten Wstuffs Wtwins Wworn Wcells Wkept Wstack Sof Sendless Soften Sby Speak Sover Lpg Lstuff Ltwins Lpeak Lrow H locs ls hw hP hD hS hl
  delta wp_X7_lasts at hw
  refine lv_aload_n hx hb dX7_lasts_0 rfl (lv_at hl 0 rfl) ?_
  refine lv_iload_n hx hb dX7_lasts_1 rfl (lv_at hl 1 rfl) ?_
  refine kc_i (wc := (wW_X7_canLast ak ad h7 xa ma wa pg sa la gq Hway Hstate Hnext Hsteps Hwritten Hstuffs Htwins Wpg Wway Wstate Wnext Wsteps Wwritten Wstuffs Wtwins Wworn Wcells Wkept Wstack Sof Sendless Soften Sby Speak Sover Lpg Lstuff Ltwins Lpeak Lrow)) (wr := []) hP hD hS hA [0, 1, 2, 3, 4, 5, 6, 7, 8, 9, 10, 11, 12, 13, 14, 15, 16, 17, 18, 19, 20, 21, 22, 23, 24, 25, 26, 27, 28, 29, 30, 31, 32, 33, 34, 35] [] rfl rfl (by decide) (by decide) (va_runV (As := [.int (xr)]) (rest := []) ⟨hx, hb, hml, hown, hts⟩ (c_X7_canLast l D ak ad _ h7 xa ma wa pg pa sa la gq cl Hway Hstate Hnext Hsteps Hwritten Hstuffs Htwins Wpg Wway Wstate Wnext Wsteps Wwritten Wstuffs Wtwins Wworn Wcells Wkept Wstack Sof Sendless Soften Sby Speak Sover Lpg Lstuff Ltwins Lpeak Lrow Pst Pce Pgi Pln Pbears Pcosts Ptold PgivenC Pleast Pgreat Pact Ptarget Pfrom Pmiddle Pend Pcode xr _ hw) (cwV 1 hts gX7_lasts_X7_canLast rfl rfl rfl hv_X7_canLast ⟨(Nat.le_trans (Nat.le_of_ble_eq_true rfl) hRf), (Nat.le_trans (Nat.le_of_ble_eq_true rfl) hRl)⟩) (kc_preVK (As := [.int (xr)]) (wc := (wW_X7_canLast ak ad h7 xa ma wa pg sa la gq Hway Hstate Hnext Hsteps Hwritten Hstuffs Htwins Wpg Wway Wstate Wnext Wsteps Wwritten Wstuffs Wtwins Wworn Wcells Wkept Wstack Sof Sendless Soften Sby Speak Sover Lpg Lstuff Ltwins Lpeak Lrow)) (ck := (wK_X7_canLast ak ad pg pa cl Pst Pce Pgi Pln Pbears Pcosts Ptold PgivenC Pleast Pgreat Pact Ptarget Pfrom Pmiddle Pend Pcode)) hKT hE hT hP hD hS hA [0, 1, 2, 3, 4, 5, 6, 7, 8, 9, 10, 11, 12, 13, 14, 15, 16, 17, 18, 19, 20, 21, 22, 23, 24, 25, 26, 27, 28, 29, 30, 31, 32, 33, 34, 35] [0, 1, 2, 3, 4, 5, 6, 7, 8, 9, 10, 11, 12] (by decide) rfl rfl rfl hP 0 6 rfl rfl rfl) rfl rfl hl.1 rfl (lv_room (Nat.le_of_ble_eq_true rfl)) dX7_lasts_2 ⟨hRc.1, hRc.2⟩) (fun r_25 u_1 H locs hw hP hD hS => ?_)
  obtain ⟨Wpg_2, Wway_3, Wstate_4, Wnext_5, Wsteps_6, Wwritten_7, Wstuffs_8, Wtwins_9, Wworn_10, Wcells_11, Wkept_12, Wstack_13, Sof_14, Sendless_15, Soften_16, Sby_17, Speak_18, Sover_19, Lpg_20, Lstuff_21, Ltwins_22, Lpeak_23, Lrow_24⟩ := u_1
  try dsimp -zeta only at hw
  have hP : va_P D vwCl (wW_X7_lasts ak ad h7 xa ma wa pg sa la gq Hway Hstate Hnext Hsteps Hwritten Hstuffs Htwins Wpg_2 Wway_3 Wstate_4 Wnext_5 Wsteps_6 Wwritten_7 Wstuffs_8 Wtwins_9 Wworn_10 Wcells_11 Wkept_12 Wstack_13 Sof_14 Sendless_15 Soften_16 Sby_17 Speak_18 Sover_19 Lpg_20 Lstuff_21 Ltwins_22 Lpeak_23 Lrow_24) H := hP.sub [0, 1, 2, 3, 4, 5, 6, 7, 8, 9, 10, 11, 12, 13, 14, 15, 16, 17, 18, 19, 20, 21, 22, 23, 24, 25, 26, 27, 28, 29, 30, 31, 32, 33, 34, 35] rfl
  have hD : va_D A (wW_X7_lasts ak ad h7 xa ma wa pg sa la gq Hway Hstate Hnext Hsteps Hwritten Hstuffs Htwins Wpg_2 Wway_3 Wstate_4 Wnext_5 Wsteps_6 Wwritten_7 Wstuffs_8 Wtwins_9 Wworn_10 Wcells_11 Wkept_12 Wstack_13 Sof_14 Sendless_15 Soften_16 Sby_17 Speak_18 Sover_19 Lpg_20 Lstuff_21 Ltwins_22 Lpeak_23 Lrow_24) := hD.sub [0, 1, 2, 3, 4, 5, 6, 7, 8, 9, 10, 11, 12, 13, 14, 15, 16, 17, 18, 19, 20, 21, 22, 23, 24, 25, 26, 27, 28, 29, 30, 31, 32, 33, 34, 35] (by decide) rfl
  refine lv_if_eq (tgt := 25) hx hb dX7_lasts_5 (by decide) (fun c_26 => ?_) (fun c_26 => ?_)
  · replace hw := hw.1 c_26
    refine lv_iconst (v := (-1)) hx hb dX7_lasts_25 (by decide) ?_
    exact kR26 (-1) Wpg_2 Wway_3 Wstate_4 Wnext_5 Wsteps_6 Wwritten_7 Wstuffs_8 Wtwins_9 Wworn_10 Wcells_11 Wkept_12 Wstack_13 Sof_14 Sendless_15 Soften_16 Sby_17 Speak_18 Sover_19 Lpg_20 Lstuff_21 Ltwins_22 Lpeak_23 Lrow_24 _ _ _ hw hP hD hS
  · replace hw := hw.2 c_26
    refine lv_iload_n hx hb dX7_lasts_8 rfl (lv_at hl 2 rfl) ?_
    refine lv_aload_n hx hb dX7_lasts_9 rfl (lv_at hl 0 rfl) ?_
    refine vt_get (D := D) (ci := 6) (v := .ref (xa 3)) (C := RX7) (T := TX7) (N := 10) hx hb hts (fun w h => wm_c (wc_X7 w h)) hown hE.1 hP 0 rfl rfl 3 (by decide) tX7_3 (hts (.fieldLink RX7 37 "WornLines" "hand" "LWornLines$Machine;") (wm_c hw_540)) (fun _ h9 => h9) rfl dX7_lasts_10 ?_
    refine vt_get (D := D) (ci := 1) (v := .ref pg) (C := RX1) (T := TX1) (N := 12) hx hb hts (fun w h => wm_c (wc_X1 w h)) hown hE.1 hP 1 rfl rfl 0 (by decide) tX1_0 (hts (.fieldLink RX7 89 "WornLines$Machine" "programme" "LWornLines$Programme;") (wm_c hw_549)) (fun _ h9 => h9) rfl dX7_lasts_13 ?_
    refine vt_get (D := D) (ci := 2) (v := .int (Pln)) (C := RX2) (T := TX2) (N := 17) hx hb hts (fun w h => wm_c (wc_X2 w h)) hown hE.1 (hCW hS) 0 rfl rfl 9 (by decide) tX2_9 (hts (.fieldLink RX7 106 "WornLines$Programme" "lines" "I") (wm_c hw_553)) (fun _ h9 => h9) rfl dX7_lasts_16 ?_
    refine kc_i (wc := []) (wr := ([(h7, .inr (6, wob xa )), ((xa 3), .inr (1, xob ma (pg) (Hway) (Hstate) (Hnext) (Hsteps) (Hwritten))), ((ma 0), .inl (ak 0, 16, .inl (Hstuffs))), ((ma 1), .inl (ak 0, 16, .inl (Htwins))), ((xa 4), .inr (1, xob wa (Wpg_2) (Wway_3) (Wstate_4) (Wnext_5) (Wsteps_6) (Wwritten_7))), ((wa 0), .inl (ak 0, 16, .inl (Wstuffs_8))), ((wa 1), .inl (ak 0, 16, .inl (Wtwins_9))), ((wa 2), .inl (ak 0, 16, .inl (Wworn_10))), ((wa 3), .inl (ak 0, 6, .inl (Wcells_11))), ((wa 4), .inl (ak 0, 1000, .inl (Wkept_12))), ((wa 5), .inl (ak 0, 32, .inl (Wstack_13))), ((xa 8), .inr (4, sob sa (Sof_14) (Sendless_15))), ((sa 0), .inl (ak 0, 16, .inl (Soften_16))), ((sa 1), .inl (ak 0, 16, .inl (Sby_17))), ((sa 2), .inl (ak 0, 16, .inl (Speak_18))), ((sa 3), .inl (ak 0, 16, .inl (Sover_19))), ((xa 9), .inr (0, lob la (Lpg_20) (Lstuff_21) (Ltwins_22))), ((la 0), .inl (ak 0, 16, .inl (Lpeak_23))), ((la 1), .inl (ak 6, 17, .inr (.inr (.inr (.inr (grA gq))))))] ++ gRows ak gq Lrow_24)) hP hD hS hA [] [0, 1, 2, 3, 4, 5, 6, 7, 8, 9, 10, 11, 12, 13, 14, 15, 16, 17, 18, 19, 20, 21, 22, 23, 24, 25, 26, 27, 28, 29, 30, 31, 32, 33, 34, 35] rfl rfl (by decide) (by decide) (va_runS (As := [.int (xl), .int (Pln)]) (rest := []) ⟨hx, hb, hml, hown, hts⟩ (c_X7_within l D ak ad _ xl Pln _ hw) (va_cwS 2 hts gX7_lasts_X7_within rfl rfl rfl hz_X7_within ⟨(Nat.le_trans (Nat.le_of_ble_eq_true rfl) hRf), (Nat.le_trans (Nat.le_of_ble_eq_true rfl) hRl)⟩) (kc_pre (As := [.int (xl), .int (Pln)]) (wc := []) hE hT hP hD hS hA [] (by decide) rfl rfl) rfl rfl hl.1 rfl (lv_room (Nat.le_of_ble_eq_true rfl)) dX7_lasts_19 ⟨hRc.1, hRc.2⟩) (fun r_28 u_27 H locs hw hP hD hS => ?_)
    try dsimp -zeta only at hw
    have hP : va_P D vwCl (wW_X7_lasts ak ad h7 xa ma wa pg sa la gq Hway Hstate Hnext Hsteps Hwritten Hstuffs Htwins Wpg_2 Wway_3 Wstate_4 Wnext_5 Wsteps_6 Wwritten_7 Wstuffs_8 Wtwins_9 Wworn_10 Wcells_11 Wkept_12 Wstack_13 Sof_14 Sendless_15 Soften_16 Sby_17 Speak_18 Sover_19 Lpg_20 Lstuff_21 Ltwins_22 Lpeak_23 Lrow_24) H := hP.sub [0, 1, 2, 3, 4, 5, 6, 7, 8, 9, 10, 11, 12, 13, 14, 15, 16, 17, 18, 19, 20, 21, 22, 23, 24, 25, 26, 27, 28, 29, 30, 31, 32, 33, 34, 35] rfl
    have hD : va_D A (wW_X7_lasts ak ad h7 xa ma wa pg sa la gq Hway Hstate Hnext Hsteps Hwritten Hstuffs Htwins Wpg_2 Wway_3 Wstate_4 Wnext_5 Wsteps_6 Wwritten_7 Wstuffs_8 Wtwins_9 Wworn_10 Wcells_11 Wkept_12 Wstack_13 Sof_14 Sendless_15 Soften_16 Sby_17 Speak_18 Sover_19 Lpg_20 Lstuff_21 Ltwins_22 Lpeak_23 Lrow_24) := hD.sub [0, 1, 2, 3, 4, 5, 6, 7, 8, 9, 10, 11, 12, 13, 14, 15, 16, 17, 18, 19, 20, 21, 22, 23, 24, 25, 26, 27, 28, 29, 30, 31, 32, 33, 34, 35] (by decide) rfl
    refine lv_if_ne (tgt := 27) hx hb dX7_lasts_22 (by decide) (fun c_29 => ?_) (fun c_29 => ?_)
    · replace hw := hw.1 c_29
      refine lv_aload_n hx hb dX7_lasts_27 rfl (lv_at hl 0 rfl) ?_
      refine va_get (D := D) (ci := 6) (v := .ref (xa 9)) (C := RX7) (T := TX7) (N := 10) hx hb hts (fun w h => wm_c (wc_X7 w h)) hown hE.1 hP 0 rfl rfl 9 (by decide) (hts (.fieldLink RX7 67 "WornLines" "layout" "LWornLines$Layout;") (wm_c hw_619)) (fun _ h9 => h9) rfl dX7_lasts_28 ?_
      refine lv_iload_n hx hb dX7_lasts_31 rfl (lv_at hl 1 rfl) ?_
      refine lv_iload_n hx hb dX7_lasts_32 rfl (lv_at hl 2 rfl) ?_
      obtain ⟨hal, hwn_30⟩ := hw
      have hPn_30 := hP
      have hDn_30 := hD
      have hSn_30 := hS
      have hln_30 := hl
      subst hal
      have hw := hwn_30
      have hP := hPn_30
      have hD := hDn_30
      have hS := hSn_30
      have hl := hln_30
      refine kc_v (wc := (wW_X0_choose ak ad (xa 9) la gq pg Lstuff_21 Ltwins_22 Lpeak_23 Lrow_24)) (wr := [(h7, .inr (6, wob xa )), ((xa 3), .inr (1, xob ma (pg) (Hway) (Hstate) (Hnext) (Hsteps) (Hwritten))), ((ma 0), .inl (ak 0, 16, .inl (Hstuffs))), ((ma 1), .inl (ak 0, 16, .inl (Htwins))), ((xa 4), .inr (1, xob wa (Wpg_2) (Wway_3) (Wstate_4) (Wnext_5) (Wsteps_6) (Wwritten_7))), ((wa 0), .inl (ak 0, 16, .inl (Wstuffs_8))), ((wa 1), .inl (ak 0, 16, .inl (Wtwins_9))), ((wa 2), .inl (ak 0, 16, .inl (Wworn_10))), ((wa 3), .inl (ak 0, 6, .inl (Wcells_11))), ((wa 4), .inl (ak 0, 1000, .inl (Wkept_12))), ((wa 5), .inl (ak 0, 32, .inl (Wstack_13))), ((xa 8), .inr (4, sob sa (Sof_14) (Sendless_15))), ((sa 0), .inl (ak 0, 16, .inl (Soften_16))), ((sa 1), .inl (ak 0, 16, .inl (Sby_17))), ((sa 2), .inl (ak 0, 16, .inl (Speak_18))), ((sa 3), .inl (ak 0, 16, .inl (Sover_19)))]) hP hD hS hA [16, 17, 18, 19, 20, 21, 22, 23, 24, 25, 26, 27, 28, 29, 30, 31, 32, 33, 34, 35] [0, 1, 2, 3, 4, 5, 6, 7, 8, 9, 10, 11, 12, 13, 14, 15] rfl rfl (by decide) (by decide) (va_runV (As := [.int (xr), .int (xl)]) (rest := []) ⟨hx, hb, hml, hown, hts⟩ (c_X0_choose l D ak ad _ (xa 9) la gq pg pa Lstuff_21 Ltwins_22 Lpeak_23 Lrow_24 Pst Pce Pgi Pln Pbears Pcosts xr xl _ hw) (cwV 2 hts gX7_lasts_X0_choose rfl rfl rfl hv_X0_choose ⟨(Nat.le_trans (Nat.le_of_ble_eq_true rfl) hRf), (Nat.le_trans (Nat.le_of_ble_eq_true rfl) hRl)⟩) (kc_preVK (As := [.int (xr), .int (xl)]) (wc := (wW_X0_choose ak ad (xa 9) la gq pg Lstuff_21 Ltwins_22 Lpeak_23 Lrow_24)) (ck := (wK_X0_choose ak ad pg pa Pst Pce Pgi Pln Pbears Pcosts)) hKT hE hT hP hD hS hA [16, 17, 18, 19, 20, 21, 22, 23, 24, 25, 26, 27, 28, 29, 30, 31, 32, 33, 34, 35] [0, 1, 2] (by decide) rfl rfl rfl hP 16 0 rfl rfl rfl) rfl rfl hl.1 rfl (lv_room (Nat.le_of_ble_eq_true rfl)) dX7_lasts_33 ⟨hRc.1, hRc.2⟩) (fun u_31 H locs hw hP hD hS => ?_)
      obtain ⟨Lstuff_32, Ltwins_33⟩ := u_31
      try dsimp -zeta only at hw
      have hP : va_P D vwCl (wW_X7_lasts ak ad h7 xa ma wa pg sa la gq Hway Hstate Hnext Hsteps Hwritten Hstuffs Htwins Wpg_2 Wway_3 Wstate_4 Wnext_5 Wsteps_6 Wwritten_7 Wstuffs_8 Wtwins_9 Wworn_10 Wcells_11 Wkept_12 Wstack_13 Sof_14 Sendless_15 Soften_16 Sby_17 Speak_18 Sover_19 pg Lstuff_32 Ltwins_33 Lpeak_23 Lrow_24) H := hP.sub [0, 1, 2, 3, 4, 5, 6, 7, 8, 9, 10, 11, 12, 13, 14, 15, 16, 17, 18, 19, 20, 21, 22, 23, 24, 25, 26, 27, 28, 29, 30, 31, 32, 33, 34, 35] rfl
      have hD : va_D A (wW_X7_lasts ak ad h7 xa ma wa pg sa la gq Hway Hstate Hnext Hsteps Hwritten Hstuffs Htwins Wpg_2 Wway_3 Wstate_4 Wnext_5 Wsteps_6 Wwritten_7 Wstuffs_8 Wtwins_9 Wworn_10 Wcells_11 Wkept_12 Wstack_13 Sof_14 Sendless_15 Soften_16 Sby_17 Speak_18 Sover_19 pg Lstuff_32 Ltwins_33 Lpeak_23 Lrow_24) := hD.sub [0, 1, 2, 3, 4, 5, 6, 7, 8, 9, 10, 11, 12, 13, 14, 15, 16, 17, 18, 19, 20, 21, 22, 23, 24, 25, 26, 27, 28, 29, 30, 31, 32, 33, 34, 35] (by decide) rfl
      refine lv_iload_n hx hb dX7_lasts_36 rfl (lv_at hl 3 rfl) ?_
      by_cases k_37_0 : xw = (0 : Int32)
      · refine lv_lookup (tgt := 64) (off := 27) hx hb dX7_lasts_37 (by decide) (by rw [k_37_0]; rfl) (by decide) ?_
        replace hw := hw.1 k_37_0
        refine lv_aload_n hx hb dX7_lasts_64 rfl (lv_at hl 0 rfl) ?_
        refine va_get (D := D) (ci := 6) (v := .ref (xa 9)) (C := RX7) (T := TX7) (N := 10) hx hb hts (fun w h => wm_c (wc_X7 w h)) hown hE.1 hP 0 rfl rfl 9 (by decide) (hts (.fieldLink RX7 67 "WornLines" "layout" "LWornLines$Layout;") (wm_c hw_619)) (fun _ h9 => h9) rfl dX7_lasts_65 ?_
        refine vt_get (D := D) (ci := 0) (v := .int (Lstuff_32)) (C := RX0) (T := TX0) (N := 5) hx hb hts (fun w h => wm_c (wc_X0 w h)) hown hE.1 hP 16 rfl rfl 3 (by decide) tX0_3 (hts (.fieldLink RX7 228 "WornLines$Layout" "stuff" "I") (wm_c hw_639)) (fun _ h9 => h9) rfl dX7_lasts_68 ?_
        exact kR71 Lstuff_32 Wpg_2 Wway_3 Wstate_4 Wnext_5 Wsteps_6 Wwritten_7 Wstuffs_8 Wtwins_9 Wworn_10 Wcells_11 Wkept_12 Wstack_13 Sof_14 Sendless_15 Soften_16 Sby_17 Speak_18 Sover_19 pg Lstuff_32 Ltwins_33 Lpeak_23 Lrow_24 _ _ _ hw hP hD hS
      replace hw := hw.2
      by_cases k_37_1 : xw = (1 : Int32)
      · refine lv_lookup (tgt := 72) (off := 35) hx hb dX7_lasts_37 (by decide) (by rw [k_37_1]; rfl) (by decide) ?_
        replace hw := hw.1 k_37_1
        refine lv_aload_n hx hb dX7_lasts_72 rfl (lv_at hl 0 rfl) ?_
        refine va_get (D := D) (ci := 6) (v := .ref (xa 9)) (C := RX7) (T := TX7) (N := 10) hx hb hts (fun w h => wm_c (wc_X7 w h)) hown hE.1 hP 0 rfl rfl 9 (by decide) (hts (.fieldLink RX7 67 "WornLines" "layout" "LWornLines$Layout;") (wm_c hw_619)) (fun _ h9 => h9) rfl dX7_lasts_73 ?_
        refine va_get (D := D) (ci := 0) (v := .int (Ltwins_33)) (C := RX0) (T := TX0) (N := 5) hx hb hts (fun w h => wm_c (wc_X0 w h)) hown hE.1 hP 16 rfl rfl 4 (by decide) (hts (.fieldLink RX7 231 "WornLines$Layout" "twins" "I") (wm_c hw_640)) (fun _ h9 => h9) rfl dX7_lasts_76 ?_
        exact kR79 Ltwins_33 Wpg_2 Wway_3 Wstate_4 Wnext_5 Wsteps_6 Wwritten_7 Wstuffs_8 Wtwins_9 Wworn_10 Wcells_11 Wkept_12 Wstack_13 Sof_14 Sendless_15 Soften_16 Sby_17 Speak_18 Sover_19 pg Lstuff_32 Ltwins_33 Lpeak_23 Lrow_24 _ _ _ hw hP hD hS
      replace hw := hw.2
      refine lv_lookup (tgt := 80) (off := 43) hx hb dX7_lasts_37 (by decide) (by show (if (0 : Int) = (xw : Int32).toInt then (27 : Int) else if (1 : Int) = (xw : Int32).toInt then (35 : Int) else (43 : Int)) = _; rw [if_neg (fun h9 => lv_neT k_37_0 rfl h9.symm), if_neg (fun h9 => lv_neT k_37_1 rfl h9.symm)]) (by decide) ?_
      replace hw := hw k_37_0 k_37_1
      refine lv_iconst (v := (-1)) hx hb dX7_lasts_80 (by decide) ?_
      exact kR81 (-1) Wpg_2 Wway_3 Wstate_4 Wnext_5 Wsteps_6 Wwritten_7 Wstuffs_8 Wtwins_9 Wworn_10 Wcells_11 Wkept_12 Wstack_13 Sof_14 Sendless_15 Soften_16 Sby_17 Speak_18 Sover_19 pg Lstuff_32 Ltwins_33 Lpeak_23 Lrow_24 _ _ _ hw hP hD hS
    · replace hw := hw.2 c_29
      refine lv_iconst (v := (-1)) hx hb dX7_lasts_25 (by decide) ?_
      exact kR26 (-1) Wpg_2 Wway_3 Wstate_4 Wnext_5 Wsteps_6 Wwritten_7 Wstuffs_8 Wtwins_9 Wworn_10 Wcells_11 Wkept_12 Wstack_13 Sof_14 Sendless_15 Soften_16 Sby_17 Speak_18 Sover_19 Lpg_20 Lstuff_21 Ltwins_22 Lpeak_23 Lrow_24 _ _ _ hw hP hD hS
set_option maxHeartbeats 4000000 in
set_option maxRecDepth 100000 in
theorem c_X7_lasts (l : Launch) (D : va_G) (ak : Nat → ClassId) (ad : Nat → Nat) (sz : Nat) (h7 : Nat) (xa : Nat → Nat) (ma : Nat → Nat) (wa : Nat → Nat) (pg : Nat) (pa : Nat → Nat) (sa : Nat → Nat) (la : Nat → Nat) (gq : Nat → Nat) (cl : Nat) (Hway : Int32) (Hstate : Int32) (Hnext : Int32) (Hsteps : Int32) (Hwritten : Int32) (Hstuffs : Nat → Int32) (Htwins : Nat → Int32) (Wpg : Nat) (Wway : Int32) (Wstate : Int32) (Wnext : Int32) (Wsteps : Int32) (Wwritten : Int32) (Wstuffs : Nat → Int32) (Wtwins : Nat → Int32) (Wworn : Nat → Int32) (Wcells : Nat → Int32) (Wkept : Nat → Int32) (Wstack : Nat → Int32) (Sof : Option Nat) (Sendless : Int32) (Soften : Nat → Int32) (Sby : Nat → Int32) (Speak : Nat → Int32) (Sover : Nat → Int32) (Lpg : Nat) (Lstuff : Int32) (Ltwins : Int32) (Lpeak : Nat → Int32) (Lrow : Nat → Nat → Int32) (Pst : Int32) (Pce : Int32) (Pgi : Int32) (Pln : Int32) (Pbears : Nat → Int32) (Pcosts : Nat → Int32) (Ptold : Nat → Int32) (PgivenC : Nat → Int32) (Pleast : Nat → Int32) (Pgreat : Nat → Int32) (Pact : Nat → Int32) (Ptarget : Nat → Int32) (Pfrom : Nat → Int32) (Pmiddle : Nat → Int32) (Pend : Nat → Int32) (Pcode : Nat → Int32) (xr : Int32) (xl : Int32) (xw : Int32) (Φ : Int32 → Nat → Int32 → Int32 → Int32 → Int32 → Int32 → (Nat → Int32) → (Nat → Int32) → (Nat → Int32) → (Nat → Int32) → (Nat → Int32) → (Nat → Int32) → Option Nat → Int32 → (Nat → Int32) → (Nat → Int32) → (Nat → Int32) → (Nat → Int32) → Nat → Int32 → Int32 → (Nat → Int32) → (Nat → Nat → Int32) → Prop) (hf : wp_X7_lasts Hstuffs Htwins Pst Pce Pgi Pln Pbears Pcosts Ptold PgivenC Pleast Pgreat Pact Ptarget Pfrom Pmiddle Pend Pcode cl pg xr xl xw Wpg Wway Wstate Wnext Wsteps Wwritten Wstuffs Wtwins Wworn Wcells Wkept Wstack Sof Sendless Soften Sby Speak Sover Lpg Lstuff Ltwins Lpeak Lrow Φ) : Met l yX7_lasts wsX7_lasts ({ frames := 7, cells := 0, slots := 0, locals := 159 }) (cPreK D ak ad [.ref h7, .int (xr), .int (xl), .int (xw)] ((wW_X7_lasts ak ad h7 xa ma wa pg sa la gq Hway Hstate Hnext Hsteps Hwritten Hstuffs Htwins Wpg Wway Wstate Wnext Wsteps Wwritten Wstuffs Wtwins Wworn Wcells Wkept Wstack Sof Sendless Soften Sby Speak Sover Lpg Lstuff Ltwins Lpeak Lrow)) sz ((wK_X7_lasts ak ad pg pa cl Pst Pce Pgi Pln Pbears Pcosts Ptold PgivenC Pleast Pgreat Pact Ptarget Pfrom Pmiddle Pend Pcode))) (cI D (S := (Nat) × (Int32) × (Int32) × (Int32) × (Int32) × (Int32) × (Nat → Int32) × (Nat → Int32) × (Nat → Int32) × (Nat → Int32) × (Nat → Int32) × (Nat → Int32) × (Option Nat) × (Int32) × (Nat → Int32) × (Nat → Int32) × (Nat → Int32) × (Nat → Int32) × (Nat) × (Int32) × (Int32) × (Nat → Int32) × (Nat → Nat → Int32)) (fun (r : Int32) (u : (Nat) × (Int32) × (Int32) × (Int32) × (Int32) × (Int32) × (Nat → Int32) × (Nat → Int32) × (Nat → Int32) × (Nat → Int32) × (Nat → Int32) × (Nat → Int32) × (Option Nat) × (Int32) × (Nat → Int32) × (Nat → Int32) × (Nat → Int32) × (Nat → Int32) × (Nat) × (Int32) × (Int32) × (Nat → Int32) × (Nat → Nat → Int32)) => Φ r u.1 u.2.1 u.2.2.1 u.2.2.2.1 u.2.2.2.2.1 u.2.2.2.2.2.1 u.2.2.2.2.2.2.1 u.2.2.2.2.2.2.2.1 u.2.2.2.2.2.2.2.2.1 u.2.2.2.2.2.2.2.2.2.1 u.2.2.2.2.2.2.2.2.2.2.1 u.2.2.2.2.2.2.2.2.2.2.2.1 u.2.2.2.2.2.2.2.2.2.2.2.2.1 u.2.2.2.2.2.2.2.2.2.2.2.2.2.1 u.2.2.2.2.2.2.2.2.2.2.2.2.2.2.1 u.2.2.2.2.2.2.2.2.2.2.2.2.2.2.2.1 u.2.2.2.2.2.2.2.2.2.2.2.2.2.2.2.2.1 u.2.2.2.2.2.2.2.2.2.2.2.2.2.2.2.2.2.1 u.2.2.2.2.2.2.2.2.2.2.2.2.2.2.2.2.2.2.1 u.2.2.2.2.2.2.2.2.2.2.2.2.2.2.2.2.2.2.2.1 u.2.2.2.2.2.2.2.2.2.2.2.2.2.2.2.2.2.2.2.2.1 u.2.2.2.2.2.2.2.2.2.2.2.2.2.2.2.2.2.2.2.2.2.1 u.2.2.2.2.2.2.2.2.2.2.2.2.2.2.2.2.2.2.2.2.2.2) (fun u => (wW_X7_lasts ak ad h7 xa ma wa pg sa la gq Hway Hstate Hnext Hsteps Hwritten Hstuffs Htwins u.1 u.2.1 u.2.2.1 u.2.2.2.1 u.2.2.2.2.1 u.2.2.2.2.2.1 u.2.2.2.2.2.2.1 u.2.2.2.2.2.2.2.1 u.2.2.2.2.2.2.2.2.1 u.2.2.2.2.2.2.2.2.2.1 u.2.2.2.2.2.2.2.2.2.2.1 u.2.2.2.2.2.2.2.2.2.2.2.1 u.2.2.2.2.2.2.2.2.2.2.2.2.1 u.2.2.2.2.2.2.2.2.2.2.2.2.2.1 u.2.2.2.2.2.2.2.2.2.2.2.2.2.2.1 u.2.2.2.2.2.2.2.2.2.2.2.2.2.2.2.1 u.2.2.2.2.2.2.2.2.2.2.2.2.2.2.2.2.1 u.2.2.2.2.2.2.2.2.2.2.2.2.2.2.2.2.2.1 u.2.2.2.2.2.2.2.2.2.2.2.2.2.2.2.2.2.2.1 u.2.2.2.2.2.2.2.2.2.2.2.2.2.2.2.2.2.2.2.1 u.2.2.2.2.2.2.2.2.2.2.2.2.2.2.2.2.2.2.2.2.1 u.2.2.2.2.2.2.2.2.2.2.2.2.2.2.2.2.2.2.2.2.2.1 u.2.2.2.2.2.2.2.2.2.2.2.2.2.2.2.2.2.2.2.2.2.2)) ((wW_X7_lasts ak ad h7 xa ma wa pg sa la gq Hway Hstate Hnext Hsteps Hwritten Hstuffs Htwins Wpg Wway Wstate Wnext Wsteps Wwritten Wstuffs Wtwins Wworn Wcells Wkept Wstack Sof Sendless Soften Sby Speak Sover Lpg Lstuff Ltwins Lpeak Lrow)) sz) 0 0 (va_A ((wW_X7_lasts ak ad h7 xa ma wa pg sa la gq Hway Hstate Hnext Hsteps Hwritten Hstuffs Htwins Wpg Wway Wstate Wnext Wsteps Wwritten Wstuffs Wtwins Wworn Wcells Wkept Wstack Sof Sendless Soften Sby Speak Sover Lpg Lstuff Ltwins Lpeak Lrow)) sz) := by
  refine Met.ofW (cc := cX7_lasts) (maxL := 4) (ret := (some .int)) (by decide) rfl ?_
  intro p e s m args below meth c s₁ B hml hv
  obtain ⟨⟨rfl, hsz, hP, hE, hD0, hT⟩, hKT⟩ := hv
  have hx := B.exec
  have hb := B.bytes
  have hr := B.returns
  have hts := atoms_spec (ws := wsX7_lasts) B.pre
  have hown : s.vm.findClass RX7 = some m.cls := findClass_of_methodNamed B.named
  have hlocks := B.notSynchronized
  subst hsz
  have hD := hD0.self (sz := s.heap.size)
  generalize hAe : va_A ((wW_X7_lasts ak ad h7 xa ma wa pg sa la gq Hway Hstate Hnext Hsteps Hwritten Hstuffs Htwins Wpg Wway Wstate Wnext Wsteps Wwritten Wstuffs Wtwins Wworn Wcells Wkept Wstack Sof Sendless Soften Sby Speak Sover Lpg Lstuff Ltwins Lpeak Lrow)) s.heap.size = A at hD hT hKT ⊢
  have hA : ∀ q : Nat, s.heap.size ≤ q → A q := fun q h => by rw [← hAe]; exact Or.inr h
  have hS : va_S A s.heap s.heap [] := va_S.rf
  have hl := lv_entry ([.ref h7, .int (xr), .int (xl), .int (xw)]) (n := 4) (Nat.le_of_ble_eq_true rfl)
  rw [lg_entry_eq]
  generalize (lg_sl ([.ref h7, .int (xr), .int (xl), .int (xw)]) ++ List.replicate (4 - (lg_sl ([.ref h7, .int (xr), .int (xl), .int (xw)])).length) Slot.unset).toArray = ls at hl ⊢
  have hl : lv_has ls 4 [(0, .ref h7), (1, .int (xr)), (2, .int (xl)), (3, .int (xw))] := hl
  exact kj_X7_lasts_e hx hb hown hts hml hE hT hA (Nat.le_of_ble_eq_true rfl) (Nat.le_of_ble_eq_true rfl) ⟨Nat.le_of_ble_eq_true rfl, Nat.le_of_ble_eq_true rfl⟩ h7 xa ma wa pg pa sa la gq cl Hway Hstate Hnext Hsteps Hwritten Hstuffs Htwins Pst Pce Pgi Pln Pbears Pcosts Ptold PgivenC Pleast Pgreat Pact Ptarget Pfrom Pmiddle Pend Pcode xr xl xw hKT Φ (fun r Wpg Wway Wstate Wnext Wsteps Wwritten Wstuffs Wtwins Wworn Wcells Wkept Wstack Sof Sendless Soften Sby Speak Sover Lpg Lstuff Ltwins Lpeak Lrow H locs ls hw hP hD hS => W.iret (v := r) hx hb hr (fun t ht hW => ⟨⟨r, (Wpg, Wway, Wstate, Wnext, Wsteps, Wwritten, Wstuffs, Wtwins, Wworn, Wcells, Wkept, Wstack, Sof, Sendless, Soften, Sby, Speak, Sover, Lpg, Lstuff, Ltwins, Lpeak, Lrow), rfl, hw, by rw [ht]; exact hP, by rw [hAe]; exact hD⟩, by rw [hAe]; exact hS.F ht⟩) hS.2.2 dX7_lasts_26) (fun r Wpg Wway Wstate Wnext Wsteps Wwritten Wstuffs Wtwins Wworn Wcells Wkept Wstack Sof Sendless Soften Sby Speak Sover Lpg Lstuff Ltwins Lpeak Lrow H locs ls hw hP hD hS => W.iret (v := r) hx hb hr (fun t ht hW => ⟨⟨r, (Wpg, Wway, Wstate, Wnext, Wsteps, Wwritten, Wstuffs, Wtwins, Wworn, Wcells, Wkept, Wstack, Sof, Sendless, Soften, Sby, Speak, Sover, Lpg, Lstuff, Ltwins, Lpeak, Lrow), rfl, hw, by rw [ht]; exact hP, by rw [hAe]; exact hD⟩, by rw [hAe]; exact hS.F ht⟩) hS.2.2 dX7_lasts_71) (fun r Wpg Wway Wstate Wnext Wsteps Wwritten Wstuffs Wtwins Wworn Wcells Wkept Wstack Sof Sendless Soften Sby Speak Sover Lpg Lstuff Ltwins Lpeak Lrow H locs ls hw hP hD hS => W.iret (v := r) hx hb hr (fun t ht hW => ⟨⟨r, (Wpg, Wway, Wstate, Wnext, Wsteps, Wwritten, Wstuffs, Wtwins, Wworn, Wcells, Wkept, Wstack, Sof, Sendless, Soften, Sby, Speak, Sover, Lpg, Lstuff, Ltwins, Lpeak, Lrow), rfl, hw, by rw [ht]; exact hP, by rw [hAe]; exact hD⟩, by rw [hAe]; exact hS.F ht⟩) hS.2.2 dX7_lasts_79) (fun r Wpg Wway Wstate Wnext Wsteps Wwritten Wstuffs Wtwins Wworn Wcells Wkept Wstack Sof Sendless Soften Sby Speak Sover Lpg Lstuff Ltwins Lpeak Lrow H locs ls hw hP hD hS => W.iret (v := r) hx hb hr (fun t ht hW => ⟨⟨r, (Wpg, Wway, Wstate, Wnext, Wsteps, Wwritten, Wstuffs, Wtwins, Wworn, Wcells, Wkept, Wstack, Sof, Sendless, Soften, Sby, Speak, Sover, Lpg, Lstuff, Ltwins, Lpeak, Lrow), rfl, hw, by rw [ht]; exact hP, by rw [hAe]; exact hD⟩, by rw [hAe]; exact hS.F ht⟩) hS.2.2 dX7_lasts_81) Wpg Wway Wstate Wnext Wsteps Wwritten Wstuffs Wtwins Wworn Wcells Wkept Wstack Sof Sendless Soften Sby Speak Sover Lpg Lstuff Ltwins Lpeak Lrow _ _ _ hf hP hD hS hl
end
section
/-- the sign at a place, 0 behind the end -/
def sgA (t : Nat → Int32) (n k : Nat) : Int32 := if k < n then t k else 0
theorem sp_X8_signAt {t : Nat → Int32} {n k : Nat} {Φ : Int32 → Prop} (hn : n ≤ 1000) (hk : k ≤ 1000) (h : Φ (sgA t n k)) : wp_X8_signAt (nI n) t (nI k) Φ := by
  unfold wp_X8_signAt
  refine pk_le n k (fun h1 => ?_) (fun h1 => ⟨pk_in k 1000 (by omega), ?_⟩)
  · rw [sgA, if_neg (by omega)] at h; exact h
  · rw [sgA, if_pos h1] at h; rw [nI_clamp (by omega)]; exact h
theorem sp_X8_within {v lo hi : Int32} {Φ : Int32 → Prop} (h1 : ¬ v < lo → ¬ hi < v → Φ 1) (h0 : v < lo ∨ hi < v → Φ 0) : wp_X8_within v lo hi Φ := by
  unfold wp_X8_within
  exact ⟨fun h => h0 (Or.inl h), fun a => ⟨fun h => h0 (Or.inr h), fun b => h1 a b⟩⟩
def isL (s : Int32) : Prop := ¬ s < 97 ∧ ¬ 122 < s
def isD (s : Int32) : Prop := ¬ s < 48 ∧ ¬ 57 < s
def isB (s : Int32) : Prop := s = 32 ∨ s = 10
/-- what nextToken leaves: begin at b, the next place at q, the kind -/
def NT (t : Nat → Int32) (n p b q : Nat) (tk : Int32) (td : Int32) : Prop := p ≤ b ∧ b ≤ q ∧ q ≤ n ∧ ((tk = 0 ∧ b = n ∧ q = n) ∨ (b < q ∧ (tk = 1 ∨ tk = 2 ∨ tk = 3 ∨ tk = 4))) ∧ ∃ d : Nat, d ≤ 9999 ∧ td = nI d
theorem sp_nt345 {t : Nat → Int32} {S : Int32} {Φ : Int32 → Int32 → Int32 → Int64 → Int32 → Prop} {P B T : Int32} {w : Int64} {d l : Int32} (h3 : Φ P B 3 w d) (h4 : Φ P B 4 w d) : kf_X8_nextToken_345 S t Φ P B T w d l := by
  unfold kf_X8_nextToken_345
  exact ⟨fun _ => h3, fun _ => ⟨fun _ => h4, fun _ => ⟨fun _ => h4, fun _ => h3⟩⟩⟩
theorem sp_nt322 {t : Nat → Int32} {S : Int32} {Φ : Int32 → Int32 → Int32 → Int64 → Int32 → Prop} {P B T : Int32} {w : Int64} {d l : Int32} (h3 : Φ (P + 1) B 3 w d) (h4 : Φ (P + 1) B 4 w d) : kf_X8_nextToken_322 S t Φ P B T w d l := by
  unfold kf_X8_nextToken_322
  exact ⟨fun _ => sp_nt345 h3 h4, fun _ => ⟨fun _ => h3, fun _ => sp_nt345 h3 h4⟩⟩
theorem isD_nI {x : Int32} (h1 : ¬ x < 48) (h2 : ¬ 57 < x) : ∃ j : Nat, 48 ≤ j ∧ j ≤ 57 ∧ x = nI j := by
  obtain ⟨j, hj, rfl⟩ := nI_of (x := x) (fun h => h1 (by
    have := Int32.lt_iff_toInt_lt.mp h
    apply Int32.lt_iff_toInt_lt.mpr
    have z : (0 : Int32).toInt = 0 := rfl
    have z2 : (48 : Int32).toInt = 48 := rfl
    omega))
  refine ⟨j, ?_, ?_, rfl⟩
  · exact Nat.le_of_not_lt (fun h => h1 (nI_lt (b := 48) h (by decide)))
  · exact Nat.le_of_not_lt (fun h => h2 (nI_lt (a := 57) h (by omega)))
/-- digits: at most 4 are told -/
theorem sp_nt224 {t : Nat → Int32} {n b : Nat} {T : Int32} {w : Int64} {Φ : Int32 → Int32 → Int32 → Int64 → Int32 → Prop} (hn : n ≤ 1000) (h : ∀ (q : Nat) (tk td : Int32), b < q → q ≤ n → (tk = 2 ∨ tk = 4) → (∃ d : Nat, d ≤ 9999 ∧ td = nI d) → Φ (nI q) (nI b) tk w td) :
    ∀ (k q d : Nat), k = n - q → b ≤ q → q ≤ n → (q = b → b < n ∧ isD (t b)) → (d < 10 ^ (min (q - b) 4)) → lf_X8_nextToken_224 (nI n) t Φ (k + 1) (nI q) (nI b) T w (nI d) := by
  intro k
  induction k with
  | zero =>
    intro q d hk hb hq h0 hd
    have e : q = n := by omega
    subst e
    show lb_X8_nextToken_224 _ _ _ _ _ _ _ _ _
    unfold lb_X8_nextToken_224
    refine sp_X8_signAt hn (by omega) ?_
    rw [sgA, if_neg (by omega)]
    refine ⟨fun _ => ?_, fun h1 => absurd (by decide) h1⟩
    unfold kf_X8_nextToken_299
    have hbq : b < q := Nat.lt_of_le_of_ne hb (fun e => by have := (h0 e.symm).1; omega)
    have hd9 : d ≤ 9999 := by
      have : 10 ^ (min (q - b) 4) ≤ 10 ^ 4 := Nat.pow_le_pow_right (by decide) (Nat.min_le_right _ _)
      omega
    exact ⟨fun _ => h q 2 _ hbq hq (Or.inl rfl) ⟨d, hd9, rfl⟩, fun _ => h q 4 _ hbq hq (Or.inr rfl) ⟨d, hd9, rfl⟩⟩
  | succ k ih =>
    intro q d hk hb hq h0 hd
    have hqn : q < n := by omega
    have hd9 : d ≤ 9999 := by
      have : 10 ^ (min (q - b) 4) ≤ 10 ^ 4 := Nat.pow_le_pow_right (by decide) (Nat.min_le_right _ _)
      omega
    have hx : (¬ q = b ∨ isD (t q)) := by
      by_cases e : q = b
      · exact Or.inr (by rw [e]; exact (h0 e).2)
      · exact Or.inl e
    show lb_X8_nextToken_224 _ _ _ _ _ _ _ _ _
    unfold lb_X8_nextToken_224
    have hs : sgA t n q = t q := by rw [sgA, if_pos hqn]
    have out : ¬ isD (t q) → kf_X8_nextToken_299 (nI n) t Φ (nI q) (nI b) T w (nI d) := by
      intro hnd
      have hbq : b < q := by
        rcases hx with e | e
        · omega
        · exact absurd e hnd
      unfold kf_X8_nextToken_299
      exact ⟨fun _ => h q 2 _ hbq hq (Or.inl rfl) ⟨d, hd9, rfl⟩, fun _ => h q 4 _ hbq hq (Or.inr rfl) ⟨d, hd9, rfl⟩⟩
    refine sp_X8_signAt hn (by omega) ?_
    rw [hs]
    refine ⟨fun h1 => out (fun e => e.1 h1), fun h1 => sp_X8_signAt hn (by omega) ?_⟩
    rw [hs]
    refine ⟨fun h2 => out (fun e => e.2 h2), fun h2 => ?_⟩
    rw [show nI q - nI b = nI (q - b) from pk_sub hb, nI_1]
    refine pk_le 4 (q - b) (fun h4 => ?_) (fun h4 => sp_X8_signAt hn (by omega) ?_)
    · exact ih (q + 1) d (by omega) (by omega) (by omega) (fun e => by omega) (by rw [Nat.min_eq_right (by omega)]; rw [Nat.min_eq_right (by omega)] at hd; exact hd)
    · rw [hs]
      obtain ⟨j, j1, j2, e⟩ := isD_nI h1 h2
      rw [e, show (10 : Int32) = nI 10 from rfl, pk_mul, nI_add, show (48 : Int32) = nI 48 from rfl, pk_sub (by omega)]
      refine ih (q + 1) _ (by omega) (by omega) (by omega) (fun e => by omega) ?_
      rw [Nat.min_eq_left (by omega)] at hd ⊢
      have e1 : q + 1 - b = (q - b) + 1 := by omega
      rw [e1, Nat.pow_succ]
      omega
theorem sp_nt109 {t : Nat → Int32} {n b : Nat} {T d : Int32} {Φ : Int32 → Int32 → Int32 → Int64 → Int32 → Prop} (hn : n ≤ 1000) (h : ∀ (q : Nat) (tk : Int32) (w : Int64), b < q → q ≤ n → (tk = 1 ∨ tk = 4) → Φ (nI q) (nI b) tk w d) :
    ∀ (k q : Nat) (w : Int64), k = n - q → b ≤ q → q ≤ n → (q = b → b < n ∧ isL (t b)) → lf_X8_nextToken_109 (nI n) t Φ (k + 1) (nI q) (nI b) T w d := by
  intro k
  induction k with
  | zero =>
    intro q w hk hb hq h0
    have e : q = n := by omega
    subst e
    show lb_X8_nextToken_109 _ _ _ _ _ _ _ _ _
    unfold lb_X8_nextToken_109
    refine sp_X8_signAt hn (by omega) ?_
    rw [sgA, if_neg (by omega)]
    refine ⟨fun _ => ?_, fun h1 => absurd (by decide) h1⟩
    unfold kf_X8_nextToken_188
    have hbq : b < q := Nat.lt_of_le_of_ne hb (fun e => by have := (h0 e.symm).1; omega)
    exact ⟨fun _ => h q 1 _ hbq hq (Or.inl rfl), fun _ => h q 4 _ hbq hq (Or.inr rfl)⟩
  | succ k ih =>
    intro q w hk hb hq h0
    have hqn : q < n := by omega
    have hx : (¬ q = b ∨ isL (t q)) := by
      by_cases e : q = b
      · exact Or.inr (by rw [e]; exact (h0 e).2)
      · exact Or.inl e
    show lb_X8_nextToken_109 _ _ _ _ _ _ _ _ _
    unfold lb_X8_nextToken_109
    have hs : sgA t n q = t q := by rw [sgA, if_pos hqn]
    have out : ¬ isL (t q) → kf_X8_nextToken_188 (nI n) t Φ (nI q) (nI b) T w d := by
      intro hnd
      have hbq : b < q := by
        rcases hx with e | e
        · omega
        · exact absurd e hnd
      unfold kf_X8_nextToken_188
      exact ⟨fun _ => h q 1 _ hbq hq (Or.inl rfl), fun _ => h q 4 _ hbq hq (Or.inr rfl)⟩
    refine sp_X8_signAt hn (by omega) ?_
    rw [hs]
    refine ⟨fun h1 => out (fun e => e.1 h1), fun h1 => sp_X8_signAt hn (by omega) ?_⟩
    rw [hs]
    refine ⟨fun h2 => out (fun e => e.2 h2), fun h2 => ?_⟩
    rw [nI_1]
    exact ⟨fun _ => ih (q + 1) _ (by omega) (by omega) (by omega) (fun e => by omega), fun _ => sp_X8_signAt hn (by omega) (ih (q + 1) _ (by omega) (by omega) (by omega) (fun e => by omega))⟩
theorem sp_nt52 {t : Nat → Int32} {n p q : Nat} {B T d : Int32} {w : Int64} {Φ : Int32 → Int32 → Int32 → Int64 → Int32 → Prop} (hn : n ≤ 1000) (hp : p ≤ q) (hq : q ≤ n) (h : ∀ (b q : Nat) (tk : Int32) (w : Int64) (td : Int32), NT t n p b q tk td → Φ (nI q) (nI b) tk w td) : kf_X8_nextToken_52 (nI n) t Φ (nI q) B T w d := by
  unfold kf_X8_nextToken_52
  constructor
  · intro hne
    have hqn : q < n := Nat.lt_of_le_of_ne hq (fun e => hne (by rw [e]))
    refine ⟨pk_in q 1000 (by omega), ?_⟩
    rw [nI_clamp (by omega)]
    have oth : kf_X8_nextToken_212 (nI n) t Φ (nI q) (nI q) T 0 0 (t q) := by
      unfold kf_X8_nextToken_212
      have o2 : kf_X8_nextToken_322 (nI n) t Φ (nI q) (nI q) T 0 0 (t q) := by
        apply sp_nt322
        · rw [nI_1]; exact h q (q + 1) 3 0 0 ⟨hp, by omega, by omega, Or.inr ⟨by omega, by simp⟩, 0, by omega, rfl⟩
        · rw [nI_1]; exact h q (q + 1) 4 0 0 ⟨hp, by omega, by omega, Or.inr ⟨by omega, by simp⟩, 0, by omega, rfl⟩
      refine ⟨fun _ => o2, fun h1 => ⟨fun _ => o2, fun h2 => ⟨n - q + 1, ?_⟩⟩⟩
      refine sp_nt224 hn (fun q' tk td hb hq' htk hd => h q q' tk 0 td ⟨hp, by omega, hq', Or.inr ⟨hb, by rcases htk with e | e <;> simp [e]⟩, hd⟩) (n - q) q 0 rfl (Nat.le_refl _) hq (fun _ => ⟨hqn, h1, h2⟩) ?_
      rw [Nat.sub_self]; decide
    refine ⟨fun _ => oth, fun h1 => ⟨fun _ => oth, fun h2 => ⟨n - q + 1, ?_⟩⟩⟩
    exact sp_nt109 hn (fun q' tk w hb hq' htk => h q q' tk w 0 ⟨hp, by omega, hq', Or.inr ⟨hb, by rcases htk with e | e <;> simp [e]⟩, 0, by omega, rfl⟩) (n - q) q 0 rfl (Nat.le_refl _) hq (fun _ => ⟨hqn, h1, h2⟩)
  · intro e
    have e' : q = n := (nI_eq (by omega) (by omega)).mp e
    subst e'
    exact h q q 0 0 0 ⟨hp, Nat.le_refl _, Nat.le_refl _, Or.inl ⟨rfl, rfl, rfl⟩, 0, by omega, rfl⟩
theorem sp_X8_nextToken {t : Nat → Int32} {n p : Nat} {B T d : Int32} {w : Int64} {Φ : Int32 → Int32 → Int32 → Int64 → Int32 → Prop} (hn : n ≤ 1000) (hp : p ≤ n) (h : ∀ (b q : Nat) (tk : Int32) (w : Int64) (td : Int32), NT t n p b q tk td → Φ (nI q) (nI b) tk w td) : wp_X8_nextToken (nI n) t (nI p) B T w d Φ := by
  refine ⟨n - p + 1, ?_⟩
  have key : ∀ (k q : Nat), k = n - q → p ≤ q → q ≤ n → lf_X8_nextToken_0 (nI n) t Φ (k + 1) (nI q) B T w d := by
    intro k
    induction k with
    | zero =>
      intro q hk hpq hq
      show lb_X8_nextToken_0 _ _ _ _ _ _ _ _ _
      unfold lb_X8_nextToken_0
      exact ⟨fun _ => sp_nt52 hn hpq hq h, fun h1 => absurd (nI_le (by omega) (by omega)) h1⟩
    | succ k ih =>
      intro q hk hpq hq
      show lb_X8_nextToken_0 _ _ _ _ _ _ _ _ _
      unfold lb_X8_nextToken_0
      have e52 := sp_nt52 (B := B) (T := T) (w := w) (d := d) hn hpq hq h
      refine ⟨fun _ => e52, fun h1 => ⟨pk_in q 1000 (by omega), ?_⟩⟩
      rw [nI_1]
      exact ⟨fun _ => ih (q + 1) (by omega) (by omega) (by omega), fun _ => ⟨pk_in q 1000 (by omega), fun _ => e52, fun _ => ih (q + 1) (by omega) (by omega) (by omega)⟩⟩
  exact key (n - p) p rfl (Nat.le_refl _) hp
end
section
theorem sp_X8_isWord {T : Int32} {w x : Int64} {Φ : Int32 → Prop} (h1 : T = 1 → w = x → Φ 1) (h0 : ¬ (T = 1 ∧ w = x) → Φ 0) : wp_X8_isWord T w x Φ := by
  unfold wp_X8_isWord
  refine ⟨fun h => h0 (fun e => h e.1), fun h => ⟨fun e => h0 (fun q => e ((lg_cmp_eq _ _).mpr q.2)), fun e => h1 h ((lg_cmp_eq _ _).mp e)⟩⟩
theorem sp_X8_isSign {B T : Int32} {t : Nat → Int32} {x : Int32} {Φ : Int32 → Prop} (hb : T = 3 → vp_in B 1000) (h1 : T = 3 → t B.toNatClampNeg = x → Φ 1) (h0 : ¬ (T = 3 ∧ t B.toNatClampNeg = x) → Φ 0) : wp_X8_isSign B T t x Φ := by
  unfold wp_X8_isSign
  exact ⟨fun h => h0 (fun e => h e.1), fun h => ⟨hb h, fun e => h0 (fun q => e q.2), fun e => h1 h e⟩⟩
theorem sp_X8_fails {B k W : Int32} {Φ : Int32 → Int32 → Prop} (h : Φ 0 (k + (16 * B))) : wp_X8_fails B k W Φ := h
theorem sp_X8_puts {v : Int32} {c : Nat} {cd : Nat → Int32} {Φ : Int32 → (Nat → Int32) → Prop} (hc : c < 6000) (h : Φ (nI (c + 1)) (upd cd c v)) : wp_X8_puts v (nI c) cd Φ := by
  unfold wp_X8_puts
  refine ⟨pk_in c 6000 hc, ?_⟩
  rw [nI_1, nI_clamp (by omega)]
  exact h
theorem sp_X8_isKept {T : Int32} {w : Int64} {Φ : Int32 → Prop} (h1 : Φ 1) (h0 : T = 1 → Φ 0) : wp_X8_isKept T w Φ := by
  unfold wp_X8_isKept
  refine ⟨fun e => ?_, fun _ => h1⟩
  have h0 := h0 e
  repeat' (first | exact fun _ => h1 | exact fun _ => h0 | apply And.intro | intro)
theorem sp_X8_cellOf {w : Int64} {cs : Nat → Int32} {nm : Nat → Int64} {k : Nat} {Φ : Int32 → Prop} (hk : cs 1 = nI k) (h6 : k ≤ 6) (hn : Φ (-1)) (hf : ∀ j, j < k → nm j = w → Φ (nI j)) : wp_X8_cellOf w cs nm Φ := by
  refine ⟨k + 1, ?_⟩
  have key : ∀ m j, m = k - j → j ≤ k → lf_X8_cellOf_2 w cs nm Φ (m + 1) (nI j) := by
    intro m
    induction m with
    | zero =>
      intro j hj hjk
      show lb_X8_cellOf_2 _ _ _ _ _ _
      unfold lb_X8_cellOf_2
      rw [hk]
      exact ⟨fun _ => hn, fun h => absurd (nI_le (by omega) (by omega)) h⟩
    | succ m ih =>
      intro j hj hjk
      show lb_X8_cellOf_2 _ _ _ _ _ _
      unfold lb_X8_cellOf_2
      rw [hk]
      refine ⟨fun _ => hn, fun h => ⟨pk_in j 6 (by omega), fun _ => ?_, fun e => hf j (by omega) ?_⟩⟩
      · rw [nI_1]; exact ih (j + 1) (by omega) (by omega)
      · rw [nI_clamp (by omega)] at e; exact (lg_cmp_eq _ _).mp e
  exact key k 0 (by omega) (by omega)
theorem sp_X8_stuffOf {w : Int64} {cs : Nat → Int32} {nm : Nat → Int64} {k : Nat} {Φ : Int32 → Prop} (hk : cs 1 = nI k) (h6 : k ≤ 4) (hn : Φ (-1)) (hf : ∀ j, j < k → nm j = w → Φ (nI j)) : wp_X8_stuffOf w cs nm Φ := by
  refine ⟨k + 1, ?_⟩
  have key : ∀ m j, m = k - j → j ≤ k → lf_X8_stuffOf_2 w cs nm Φ (m + 1) (nI j) := by
    intro m
    induction m with
    | zero =>
      intro j hj hjk
      show lb_X8_stuffOf_2 _ _ _ _ _ _
      unfold lb_X8_stuffOf_2
      rw [hk]
      exact ⟨fun _ => hn, fun h => absurd (nI_le (by omega) (by omega)) h⟩
    | succ m ih =>
      intro j hj hjk
      show lb_X8_stuffOf_2 _ _ _ _ _ _
      unfold lb_X8_stuffOf_2
      rw [hk]
      refine ⟨fun _ => hn, fun h => ⟨pk_in j 4 (by omega), fun _ => ?_, fun e => hf j (by omega) ?_⟩⟩
      · rw [nI_1]; exact ih (j + 1) (by omega) (by omega)
      · rw [nI_clamp (by omega)] at e; exact (lg_cmp_eq _ _).mp e
  exact key k 0 (by omega) (by omega)
/-- the reader of the reference between two tokens: n signs, the token at b, the next place q -/
def RS (n b q : Nat) (T td : Int32) : Prop := n ≤ 1000 ∧ b ≤ q ∧ q ≤ n ∧ ((T = 0 ∧ b = n ∧ q = n) ∨ (b < q ∧ ¬ T = 0)) ∧ ∃ d : Nat, d ≤ 9999 ∧ td = nI d
theorem RS.sgn {n b q : Nat} {T td : Int32} (h : RS n b q T td) : T = 3 → vp_in (nI b) 1000 := by
  intro e
  obtain ⟨h1, h2, h3, h4, h5⟩ := h
  rcases h4 with h4 | h4
  · rw [e] at h4; exact absurd h4.1 (by decide)
  · exact pk_in b 1000 (by omega)
theorem RS.lt {n b q : Nat} {T td : Int32} (h : RS n b q T td) (hT : ¬ T = 0) : b < q ∧ b < 1000 := by
  obtain ⟨h1, h2, h3, h4, h5⟩ := h
  rcases h4 with h4 | h4
  · exact absurd h4.1 hT
  · omega
theorem RS.next {t : Nat → Int32} {n b q : Nat} {T td : Int32} {w : Int64} {Φ : Int32 → Int32 → Int32 → Int64 → Int32 → Prop} (h : RS n b q T td) (hΦ : ∀ b' q' T' w' td', RS n b' q' T' td' → q ≤ b' → Φ (nI q') (nI b') T' w' td') : wp_X8_nextToken (nI n) t (nI q) (nI b) T w td Φ := by
  refine sp_X8_nextToken h.1 h.2.2.1 (fun b' q' tk w' td' hN => hΦ b' q' tk w' td' ⟨h.1, hN.2.1, hN.2.2.1, ?_, hN.2.2.2.2⟩ hN.1)
  rcases hN.2.2.2.1 with e | e
  · exact Or.inl e
  · exact Or.inr ⟨e.1, by rcases e.2 with e | e | e | e <;> rw [e] <;> decide⟩
/-- brackets: what is open, the innermost first; true for not and worn -/
def popN : List Bool → List Bool
  | true :: l => popN l
  | l => l
def bst (c : Int32) (l : List Bool) : Option (List Bool) :=
  if c = 30 ∨ c = 31 then some (true :: l) else if c = 28 then some (false :: l) else if c = 29 then (match l with | false :: m => some (popN m) | _ => none) else if c = 20 ∨ c = 21 ∨ c = 22 ∨ c = 24 ∨ c = 25 ∨ c = 26 ∨ c = 27 then some l else some (popN l)
def BR (f : Nat → Int32) : Nat → Nat → List Bool → List Bool → Prop
  | _, 0, l, m => l = m
  | i, k + 1, l, m => ∃ x, bst (f i) l = some x ∧ x.length ≤ 5 ∧ ¬ f i < 0 ∧ BR f (i + 1) k x m
theorem BR_snoc {f : Nat → Int32} : ∀ {k i : Nat} {l m x : List Bool}, BR f i k l m → bst (f (i + k)) m = some x → x.length ≤ 5 → ¬ f (i + k) < 0 → BR f i (k + 1) l x := by
  intro k
  induction k with
  | zero =>
    intro i l m x h h1 h2 h3
    cases h
    exact ⟨x, h1, h2, h3, rfl⟩
  | succ k ih =>
    intro i l m x h h1 h2 h3
    obtain ⟨y, a, b, c, d⟩ := h
    have e : i + (k + 1) = i + 1 + k := by omega
    rw [e] at h1 h3
    exact ⟨y, a, b, c, ih d h1 h2 h3⟩
theorem BR_congr {f g : Nat → Int32} : ∀ {k i : Nat} {l m : List Bool}, (∀ j, i ≤ j → j < i + k → g j = f j) → BR f i k l m → BR g i k l m := by
  intro k
  induction k with
  | zero => intro i l m _ h; exact h
  | succ k ih =>
    intro i l m he h
    obtain ⟨y, a, b, c, d⟩ := h
    have e := he i (Nat.le_refl _) (by omega)
    exact ⟨y, by rw [e]; exact a, b, by rw [e]; exact c, ih (fun j h1 h2 => he j (by omega) (by omega)) d⟩
theorem BR_upd {f : Nat → Int32} {i k : Nat} {l m x : List Bool} {v : Int32} (h : BR f i k l m) (h1 : bst v m = some x) (h2 : x.length ≤ 5) (h3 : ¬ v < 0) : BR (upd f (i + k) v) i (k + 1) l x := by
  have e : upd f (i + k) v (i + k) = v := pk_us
  exact BR_snoc (BR_congr (fun j _ hj => pk_un (by omega)) h) (by rw [e]; exact h1) h2 (by rw [e]; exact h3)
/-- opened[1 ..] as the brackets -/
def OP (o : Nat → Int32) : List Bool → Prop
  | [] => True
  | b :: l => o (l.length + 1) = (if b then 1 else 2) ∧ OP o l
theorem OP_upd {o : Nat → Int32} {v : Int32} {k : Nat} : ∀ {l : List Bool}, OP o l → l.length < k → OP (upd o k v) l := by
  intro l
  induction l with
  | nil => intro _ _; trivial
  | cons b l ih =>
    intro h hk
    simp only [List.length_cons] at hk
    exact ⟨by rw [pk_un (by omega)]; exact h.1, ih h.2 (by omega)⟩
theorem popN_len : ∀ (l : List Bool), (popN l).length ≤ l.length := by
  intro l
  induction l with
  | nil => exact Nat.le_refl _
  | cons b l ih => cases b with
    | true => exact Nat.le_trans ih (Nat.le_succ _)
    | false => exact Nat.le_refl _
theorem popN_top : ∀ (l : List Bool), popN l = [] ∨ ∃ m, popN l = false :: m := by
  intro l
  induction l with
  | nil => exact Or.inl rfl
  | cons b l ih => cases b with
    | true => exact ih
    | false => exact Or.inr ⟨l, rfl⟩
theorem OP_pop {o : Nat → Int32} : ∀ {l : List Bool}, OP o l → OP o (popN l) := by
  intro l
  induction l with
  | nil => intro h; exact h
  | cons b l ih =>
    intro h
    cases b with
    | true => exact ih h.2
    | false => exact h
end
section
theorem bst_opnd {v : Nat} (h : v < 20 ∨ 100 ≤ v) (hv : v < 20000) (l : List Bool) : bst (nI v) l = some (popN l) := by
  have ne : ∀ k : Nat, 20 ≤ k → k < 100 → ¬ nI v = nI k := fun k h1 h2 e => by
    have := (nI_eq (by omega) (by omega)).mp e
    omega
  have n20 : ¬ nI v = 20 := ne 20 (by omega) (by omega)
  have n21 : ¬ nI v = 21 := ne 21 (by omega) (by omega)
  have n22 : ¬ nI v = 22 := ne 22 (by omega) (by omega)
  have n24 : ¬ nI v = 24 := ne 24 (by omega) (by omega)
  have n25 : ¬ nI v = 25 := ne 25 (by omega) (by omega)
  have n26 : ¬ nI v = 26 := ne 26 (by omega) (by omega)
  have n27 : ¬ nI v = 27 := ne 27 (by omega) (by omega)
  have n28 : ¬ nI v = 28 := ne 28 (by omega) (by omega)
  have n29 : ¬ nI v = 29 := ne 29 (by omega) (by omega)
  have n30 : ¬ nI v = 30 := ne 30 (by omega) (by omega)
  have n31 : ¬ nI v = 31 := ne 31 (by omega) (by omega)
  unfold bst
  rw [if_neg (by simp [n30, n31]), if_neg n28, if_neg n29, if_neg (by simp [n20, n21, n22, n24, n25, n26, n27])]
theorem bst_op {v : Int32} (h : v = 20 ∨ v = 21 ∨ v = 22 ∨ v = 24 ∨ v = 25 ∨ v = 26 ∨ v = 27) (l : List Bool) : bst v l = some l ∧ ¬ v < 0 := by
  rcases h with rfl | rfl | rfl | rfl | rfl | rfl | rfl <;> exact ⟨rfl, by decide⟩
abbrev KE : Type := Int32 → Int32 → Int32 → Int64 → Int32 → Int32 → Int32 → (Nat → Int32) → (Nat → Int32) → (Nat → Int32) → (Nat → Int32) → (Nat → Int32) → Int32 → Int32 → Prop
abbrev PE : Type := Int32 → Int32 → Int32 → Int32 → Int64 → Int32 → Int32 → Int32 → (Nat → Int32) → (Nat → Int32) → (Nat → Int32) → (Nat → Int32) → (Nat → Int32) → Prop
def EI (n b0 c0 : Nat) (cd0 : Nat → Int32) (b q : Nat) (T td : Int32) (c x : Nat) (cd op : Nat → Int32) (L : List Bool) (wn : Int32) : Prop :=
  RS n b q T td ∧ (1000 ≤ c0 ∧ b0 ≤ b) ∧ c0 ≤ c ∧ c ≤ 1000 + b + x ∧ L.length ≤ 5 ∧ OP op L ∧ BR cd c0 (c - c0) [] L ∧ (∀ j, j < c0 ∨ 2000 ≤ j → cd j = cd0 j) ∧ (wn = 0 → L = [] ∨ ∃ m, L = false :: m)
def KH (n b0 c0 : Nat) (cd0 lf lt : Nat → Int32) (b : Nat) (κ : KE) : Prop := ∀ b' q' T' w' td' wr' c' cd' op' cm' L' wn', EI n b0 c0 cd0 b' q' T' td' c' 0 cd' op' L' wn' → b < b' → κ (nI q') (nI b') T' w' td' wr' (nI c') lf lt cd' op' cm' (nI L'.length) wn'
def FH (n b0 c0 : Nat) (cd0 lf lt : Nat → Int32) (Φ : PE) : Prop := ∀ b' q' T' w' td' wr' c' cd' op' cm', RS n b' q' T' td' → b0 ≤ b' → c0 ≤ c' → c' ≤ 1000 + b' → (∀ j, j < c0 ∨ 2000 ≤ j → cd' j = cd0 j) → Φ 0 (nI q') (nI b') T' w' td' wr' (nI c') lf lt cd' op' cm'
def SH (n b0 c0 li : Nat) (cd0 lf lt : Nat → Int32) (Φ : PE) : Prop := ∀ b' q' T' w' td' wr' c' cd' op' cm', RS n b' q' T' td' → b0 ≤ b' → c0 ≤ c' → c' ≤ 1000 + b' → (∀ j, j < c0 ∨ 2000 ≤ j → cd' j = cd0 j) → (∃ L, BR cd' c0 (c' - c0) [] L) → Φ 1 (nI q') (nI b') T' w' td' wr' (nI c') lf (upd lt li (nI c')) cd' op' cm'
section RE
variable {t : Nat → Int32} {n b0 c0 li : Nat} {cs cd0 lf lt : Nat → Int32} {nm : Nat → Int64} {κ : KE} {Φ : PE} {b q c : Nat} {T td wr : Int32} {w : Int64} {cd op cm : Nat → Int32} {L : List Bool}
theorem ei_next {wn : Int32} (h : EI n b0 c0 cd0 b q T td c 1 cd op L wn) (hT : ¬ T = 0) (hK : KH n b0 c0 cd0 lf lt b κ) : wp_X8_nextToken (nI n) t (nI q) (nI b) T w td (fun q' b' T' w' td' => κ q' b' T' w' td' wr (nI c) lf lt cd op cm (nI L.length) wn) := by
  obtain ⟨h1, h2, h3, h4, h5, h6, h7, h8, h9⟩ := h
  have hb := h1.lt hT
  exact h1.next (fun b' q' T' w' td' hR hq => hK b' q' T' w' td' wr c cd op cm L wn ⟨hR, ⟨h2.1, by have := h2.2; omega⟩, h3, by omega, h5, h6, h7, h8, h9⟩ (by omega))
/-- a code is put -/
theorem ei_put {wn wn' : Int32} {v : Int32} {x : List Bool} (h : EI n b0 c0 cd0 b q T td c 0 cd op L wn) (hT : ¬ T = 0) (h1 : bst v L = some x) (h2 : x.length ≤ 5) (h3 : ¬ v < 0) (h4 : OP op x) (h5 : wn' = 0 → x = [] ∨ ∃ m, x = false :: m) : EI n b0 c0 cd0 b q T td (c + 1) 1 (upd cd c v) op x wn' ∧ c < 6000 := by
  obtain ⟨a1, a2, a3, a4, a5, a6, a7, a8, a9⟩ := h
  have hb := a1.lt hT
  refine ⟨⟨a1, a2, by omega, by omega, h2, h4, ?_, fun j hj => ?_, h5⟩, by omega⟩
  · have := BR_upd a7 h1 h2 h3
    rw [show c0 + (c - c0) = c by omega] at this
    rw [show c + 1 - c0 = c - c0 + 1 by omega]
    exact this
  · rw [pk_un (by omega)]; exact a8 j hj
theorem ei_keep {wn wn' : Int32} {v : Int32} (h : EI n b0 c0 cd0 b q T td c 0 cd op L wn) (hT : ¬ T = 0) (hv : v = 20 ∨ v = 21 ∨ v = 22 ∨ v = 24 ∨ v = 25 ∨ v = 26 ∨ v = 27) (hw : wn' = 1) : EI n b0 c0 cd0 b q T td (c + 1) 1 (upd cd c v) op L wn' ∧ c < 6000 :=
  ei_put h hT (bst_op hv L).1 h.2.2.2.2.1 (bst_op hv L).2 h.2.2.2.2.2.1 (fun e => by rw [hw] at e; exact absurd e (by decide))
theorem sp_rE279 {wn : Int32} (h : EI n b0 c0 cd0 b q T td c 0 cd op L wn) (hT : ¬ T = 0) (hK : KH n b0 c0 cd0 lf lt b κ) : kf_X8_readsE_279 (nI n) t cs nm (nI li) κ Φ (nI q) (nI b) T w td wr (nI c) lf lt cd op cm (nI L.length) := by
  unfold kf_X8_readsE_279
  have go : ∀ v : Int32, (v = 20 ∨ v = 21 ∨ v = 22 ∨ v = 24 ∨ v = 25 ∨ v = 26 ∨ v = 27) → wp_X8_puts v (nI c) cd (fun c' cd' => wp_X8_nextToken (nI n) t (nI q) (nI b) T w td (fun q' b' T' w' td' => κ q' b' T' w' td' wr c' lf lt cd' op cm (nI L.length) 1)) := by
    intro v hv
    have e := ei_keep (wn' := 1) h hT hv rfl
    exact sp_X8_puts e.2 (ei_next e.1 hT hK)
  refine sp_X8_isSign h.1.sgn (fun _ _ => ⟨fun e => absurd e (by decide), fun _ => go 20 (by simp)⟩) (fun _ => ⟨fun _ => ?_, fun e => absurd rfl e⟩)
  exact sp_X8_isSign h.1.sgn (fun _ _ => ⟨fun e => absurd e (by decide), fun _ => go 21 (by simp)⟩) (fun _ => ⟨fun _ => go 22 (by simp), fun e => absurd rfl e⟩)
theorem sp_rE415 {wn s0 : Int32} (h : EI n b0 c0 cd0 b q T td c 0 cd op L wn) (hT : ¬ T = 0) (hK : KH n b0 c0 cd0 lf lt b κ) (hs : s0 = 26 ∨ s0 = 27) : kf_X8_readsE_415 (nI n) t cs nm (nI li) κ Φ (nI q) (nI b) T w td wr (nI c) lf lt cd op cm (nI L.length) s0 := by
  unfold kf_X8_readsE_415
  have e := ei_keep (wn' := 1) (v := s0) h hT (by rcases hs with e | e <;> simp [e]) rfl
  have hl := h.2.2.2.2.1
  exact sp_X8_puts e.2 ⟨pk_in L.length 7 (by omega), ei_next e.1 hT hK⟩
theorem sp_rE362 {wn s0 : Int32} (h : EI n b0 c0 cd0 b q T td c 0 cd op L wn) (hT : ¬ T = 0) (hK : KH n b0 c0 cd0 lf lt b κ) (hs : s0 = 24 ∨ s0 = 25) : kf_X8_readsE_362 (nI n) t cs nm (nI li) κ Φ (nI q) (nI b) T w td wr (nI c) lf lt cd op cm (nI L.length) s0 := by
  unfold kf_X8_readsE_362
  have e := ei_keep (wn' := 1) (v := s0) h hT (by rcases hs with e | e <;> simp [e]) rfl
  have hl := h.2.2.2.2.1
  exact sp_X8_puts e.2 ⟨pk_in L.length 7 (by omega), ei_next e.1 hT hK⟩
theorem sp_rE397 {wn : Int32} (h : EI n b0 c0 cd0 b q T td c 0 cd op L wn) (hT : ¬ T = 0) (hK : KH n b0 c0 cd0 lf lt b κ) : kf_X8_readsE_397 (nI n) t cs nm (nI li) κ Φ (nI q) (nI b) T w td wr (nI c) lf lt cd op cm (nI L.length) := by
  unfold kf_X8_readsE_397
  exact sp_X8_isWord (fun _ _ => ⟨fun e => absurd e (by decide), fun _ => sp_rE415 h hT hK (Or.inl rfl)⟩) (fun _ => ⟨fun _ => sp_rE415 h hT hK (Or.inr rfl), fun e => absurd rfl e⟩)
theorem sp_rE472 {wn : Int32} (h : EI n b0 c0 cd0 b q T td c 0 cd op L wn) (hl : li < 192) (hF : FH n b0 c0 cd0 lf lt Φ) (hS : SH n b0 c0 li cd0 lf lt Φ) : kf_X8_readsE_472 (nI n) t cs nm (nI li) Φ (nI q) (nI b) T w td wr (nI c) lf lt cd op cm (nI L.length) := by
  unfold kf_X8_readsE_472
  obtain ⟨a1, a2, a3, a4, a5, a6, a7, a8, a9⟩ := h
  refine ⟨fun _ => ⟨pk_in li 192 hl, ?_⟩, fun _ => sp_X8_fails ⟨Or.inl rfl, hF b q T w td _ c cd op cm a1 a2.2 a3 (by omega) a8⟩⟩
  rw [nI_clamp (by omega)]
  exact hS b q T w td wr c cd op cm a1 a2.2 a3 (by omega) a8 ⟨L, a7⟩
theorem sp_rE229 (hT : ¬ T = 0) (hK : KH n b0 c0 cd0 lf lt b κ) : ∀ (M : List Bool), M.length ≤ 5 → OP op M → EI n b0 c0 cd0 b q T td c 1 cd op (popN M) 0 → ∃ k, lf_X8_readsE_229 (nI n) t cs nm (nI li) κ Φ k (nI q) (nI b) T w td wr (nI c) lf lt cd op cm (nI M.length) 0 := by
  intro M
  induction M with
  | nil =>
    intro _ _ h
    refine ⟨1, ?_⟩
    show lb_X8_readsE_229 _ _ _ _ _ _ _ _ _ _ _ _ _ _ _ _ _ _ _ _ _ _
    unfold lb_X8_readsE_229
    exact ⟨fun _ => ei_next h hT hK, fun e => absurd (by decide) e⟩
  | cons x M ih =>
    intro hl hO h
    have hlen : (x :: M).length = M.length + 1 := rfl
    simp only [List.length_cons] at hl
    cases x with
    | true =>
      obtain ⟨k, hk⟩ := ih (by omega) hO.2 h
      refine ⟨k + 1, ?_⟩
      show lb_X8_readsE_229 _ _ _ _ _ _ _ _ _ _ _ _ _ _ _ _ _ _ _ _ _ _
      unfold lb_X8_readsE_229
      rw [hlen]
      refine ⟨fun e => absurd e (nI_nle (by omega) (by omega)), fun _ => ⟨pk_in (M.length + 1) 7 (by omega), fun e => ?_, fun _ => ?_⟩⟩
      · rw [nI_clamp (by omega)] at e
        exact absurd hO.1 e
      · rw [pk_m1]; exact hk
    | false =>
      refine ⟨1, ?_⟩
      show lb_X8_readsE_229 _ _ _ _ _ _ _ _ _ _ _ _ _ _ _ _ _ _ _ _ _ _
      unfold lb_X8_readsE_229
      rw [hlen]
      refine ⟨fun e => absurd e (nI_nle (by omega) (by omega)), fun _ => ⟨pk_in (M.length + 1) 7 (by omega), fun _ => ei_next (L := false :: M) h hT hK, fun e => ?_⟩⟩
      rw [nI_clamp (by omega), hO.1] at e
      exact absurd e (by decide)
theorem sp_rE452 (hT : ¬ T = 0) (hK : KH n b0 c0 cd0 lf lt b κ) : ∀ (M : List Bool), M.length ≤ 5 → OP op M → EI n b0 c0 cd0 b q T td c 1 cd op (popN M) 0 → ∃ k, lf_X8_readsE_452 (nI n) t cs nm (nI li) κ Φ k (nI q) (nI b) T w td wr (nI c) lf lt cd op cm (nI M.length) 0 := by
  intro M
  induction M with
  | nil =>
    intro _ _ h
    refine ⟨1, ?_⟩
    show lb_X8_readsE_452 _ _ _ _ _ _ _ _ _ _ _ _ _ _ _ _ _ _ _ _ _ _
    unfold lb_X8_readsE_452
    exact ⟨fun _ => ei_next h hT hK, fun e => absurd (by decide) e⟩
  | cons x M ih =>
    intro hl hO h
    have hlen : (x :: M).length = M.length + 1 := rfl
    simp only [List.length_cons] at hl
    cases x with
    | true =>
      obtain ⟨k, hk⟩ := ih (by omega) hO.2 h
      refine ⟨k + 1, ?_⟩
      show lb_X8_readsE_452 _ _ _ _ _ _ _ _ _ _ _ _ _ _ _ _ _ _ _ _ _ _
      unfold lb_X8_readsE_452
      rw [hlen]
      refine ⟨fun e => absurd e (nI_nle (by omega) (by omega)), fun _ => ⟨pk_in (M.length + 1) 7 (by omega), fun e => ?_, fun _ => ?_⟩⟩
      · rw [nI_clamp (by omega)] at e
        exact absurd hO.1 e
      · rw [pk_m1]; exact hk
    | false =>
      refine ⟨1, ?_⟩
      show lb_X8_readsE_452 _ _ _ _ _ _ _ _ _ _ _ _ _ _ _ _ _ _ _ _ _ _
      unfold lb_X8_readsE_452
      rw [hlen]
      refine ⟨fun e => absurd e (nI_nle (by omega) (by omega)), fun _ => ⟨pk_in (M.length + 1) 7 (by omega), fun _ => ei_next (L := false :: M) h hT hK, fun e => ?_⟩⟩
      rw [nI_clamp (by omega), hO.1] at e
      exact absurd e (by decide)
theorem sp_rE377 (h : EI n b0 c0 cd0 b q T td c 0 cd op L 0) (hl : li < 192) (hK : KH n b0 c0 cd0 lf lt b κ) (hF : FH n b0 c0 cd0 lf lt Φ) (hS : SH n b0 c0 li cd0 lf lt Φ) : kf_X8_readsE_377 (nI n) t cs nm (nI li) κ Φ (nI q) (nI b) T w td wr (nI c) lf lt cd op cm (nI L.length) 0 := by
  unfold kf_X8_readsE_377
  refine sp_X8_isWord (fun e _ => ⟨fun _ => sp_rE397 h (by rw [e]; decide) hK, fun e => absurd e (by decide)⟩) (fun _ => ⟨fun e => absurd rfl e, fun _ => ?_⟩)
  refine sp_X8_isWord (fun e _ => ⟨fun e => absurd e (by decide), fun _ => sp_rE397 h (by rw [e]; decide) hK⟩) (fun _ => ⟨fun _ => ?_, fun e => absurd rfl e⟩)
  refine sp_X8_isSign h.1.sgn (fun e3 _ => ⟨fun e => absurd e (by decide), fun _ => ⟨fun _ => sp_rE472 h hl hF hS, fun hd => ?_⟩⟩) (fun _ => ⟨fun _ => sp_rE472 h hl hF hS, fun e => absurd rfl e⟩)
  have hT : ¬ T = 0 := by rw [e3]; decide
  obtain ⟨M, rfl⟩ : ∃ M, L = false :: M := by
    rcases h.2.2.2.2.2.2.2.2 rfl with e | e
    · rw [e] at hd; exact absurd (by decide) hd
    · exact e
  have hO := h.2.2.2.2.2.1
  have hlen := h.2.2.2.2.1
  simp only [List.length_cons] at hlen
  have e := ei_put (wn' := 0) (v := 29) (x := popN M) h hT rfl (Nat.le_trans (popN_len M) (by omega)) (by decide) (OP_pop hO.2) (fun _ => popN_top M)
  refine sp_X8_puts e.2 ?_
  rw [show ((false :: M).length) = M.length + 1 from rfl, pk_m1]
  exact sp_rE452 hT hK M (by omega) hO.2 e.1
theorem sp_rE336 (h : EI n b0 c0 cd0 b q T td c 0 cd op L 0) (hl : li < 192) (hT : ¬ T = 0) (hK : KH n b0 c0 cd0 lf lt b κ) (hF : FH n b0 c0 cd0 lf lt Φ) (hS : SH n b0 c0 li cd0 lf lt Φ) : kf_X8_readsE_336 (nI n) t cs nm (nI li) κ Φ (nI q) (nI b) T w td wr (nI c) lf lt cd op cm (nI L.length) 0 := by
  unfold kf_X8_readsE_336
  have hlen := h.2.2.2.2.1
  exact ⟨pk_in L.length 7 (by omega), fun _ => sp_rE377 h hl hK hF hS, fun _ => sp_X8_isSign h.1.sgn (fun _ _ => ⟨fun e => absurd e (by decide), fun _ => sp_rE362 h hT hK (Or.inl rfl)⟩) (fun _ => ⟨fun _ => sp_rE362 h hT hK (Or.inr rfl), fun e => absurd rfl e⟩)⟩
end RE
end
section
section RF
variable {t : Nat → Int32} {n b0 c0 li kc : Nat} {cs cd0 lf lt : Nat → Int32} {nm : Nat → Int64} {κ : KE} {Φ : PE} {b q c : Nat} {T td wr : Int32} {w : Int64} {cd op cm : Nat → Int32} {L : List Bool}
theorem ei_put2 {wn wn' : Int32} {v : Int32} {x : List Bool} {op' : Nat → Int32} (h : EI n b0 c0 cd0 b q T td c 0 cd op L wn) (hT : ¬ T = 0) (h1 : bst v L = some x) (h2 : x.length ≤ 5) (h3 : ¬ v < 0) (h4 : OP op' x) (h5 : wn' = 0 → x = [] ∨ ∃ m, x = false :: m) : EI n b0 c0 cd0 b q T td (c + 1) 1 (upd cd c v) op' x wn' ∧ c < 6000 := by
  obtain ⟨a1, a2, a3, a4, a5, a6, a7, a8, a9⟩ := h
  have hb := a1.lt hT
  refine ⟨⟨a1, a2, by omega, by omega, h2, h4, ?_, fun j hj => ?_, h5⟩, by omega⟩
  · have := BR_upd a7 h1 h2 h3
    rw [show c0 + (c - c0) = c by omega] at this
    rw [show c + 1 - c0 = c - c0 + 1 by omega]
    exact this
  · rw [pk_un (by omega)]; exact a8 j hj
theorem sp_rE170 {l3 l5 s0 : Int32} (h : EI n b0 c0 cd0 b q T td c 0 cd op L l3) (h3 : ¬ l3 = 0) (hL : L.length < 5) (hT : ¬ T = 0) (hK : KH n b0 c0 cd0 lf lt b κ) (hs : (¬ l5 = 0 ∧ (s0 = 30 ∨ s0 = 31)) ∨ (l5 = 0 ∧ s0 = 28)) : kf_X8_readsE_170 (nI n) t cs nm (nI li) κ Φ (nI q) (nI b) T w td wr (nI c) lf lt cd op cm (nI L.length) l3 l5 s0 := by
  unfold kf_X8_readsE_170
  have hO := h.2.2.2.2.2.1
  rcases hs with ⟨h5, hs⟩ | ⟨h5, hs⟩
  · have e := ei_put2 (wn' := l3) (v := s0) (x := true :: L) (op' := upd op (L.length + 1) 1) h hT (by rcases hs with rfl | rfl <;> rfl) (by simp only [List.length_cons]; omega) (by rcases hs with rfl | rfl <;> decide) ⟨pk_us, OP_upd hO (by omega)⟩ (fun e => absurd e h3)
    refine sp_X8_puts e.2 ⟨fun z => absurd z h5, fun _ => ?_⟩
    unfold kf_X8_readsE_191
    rw [nI_1]
    refine ⟨pk_in (L.length + 1) 7 (by omega), pk_in (L.length + 1) 7 (by omega), ?_⟩
    rw [nI_clamp (by omega)]
    exact ei_next (L := true :: L) e.1 hT hK
  · have e := ei_put2 (wn' := l3) (v := s0) (x := false :: L) (op' := upd op (L.length + 1) 2) h hT (by rw [hs]; rfl) (by simp only [List.length_cons]; omega) (by rw [hs]; decide) ⟨pk_us, OP_upd hO (by omega)⟩ (fun e => absurd e h3)
    refine sp_X8_puts e.2 ⟨fun _ => ?_, fun z => absurd h5 z⟩
    unfold kf_X8_readsE_191
    rw [nI_1]
    refine ⟨pk_in (L.length + 1) 7 (by omega), pk_in (L.length + 1) 7 (by omega), ?_⟩
    rw [nI_clamp (by omega)]
    exact ei_next (L := false :: L) e.1 hT hK
theorem sp_rE142 {l3 l5 l6 : Int32} (h : EI n b0 c0 cd0 b q T td c 0 cd op L l3) (h3 : ¬ l3 = 0) (hL : L.length < 5) (hT : ¬ T = 0) (hK : KH n b0 c0 cd0 lf lt b κ) (h5 : ¬ l5 = 0 → T = 1) (h6 : ¬ l6 = 0 → T = 3) (h56 : ¬ l5 = 0 ∨ ¬ l6 = 0) : kf_X8_readsE_142 (nI n) t cs nm (nI li) κ Φ (nI q) (nI b) T w td wr (nI c) lf lt cd op cm (nI L.length) l3 l5 l6 := by
  unfold kf_X8_readsE_142
  refine ⟨fun e6 => ?_, fun e6 => sp_rE170 h h3 hL hT hK (Or.inr ⟨Classical.byContradiction (fun e5 => absurd ((h5 e5).symm.trans (h6 e6)) (by decide)), rfl⟩)⟩
  have e5 : ¬ l5 = 0 := h56.elim id (fun z => absurd e6 z)
  exact sp_X8_isWord (fun _ _ => ⟨fun e => absurd e (by decide), fun _ => sp_rE170 h h3 hL hT hK (Or.inl ⟨e5, Or.inl rfl⟩)⟩) (fun _ => ⟨fun _ => sp_rE170 h h3 hL hT hK (Or.inl ⟨e5, Or.inr rfl⟩), fun e => absurd rfl e⟩)
theorem ei_opnd {l3 : Int32} {v : Nat} (h : EI n b0 c0 cd0 b q T td c 0 cd op L l3) (hT : ¬ T = 0) (hv : v < 20 ∨ 100 ≤ v) (hv2 : v < 20000) : EI n b0 c0 cd0 b q T td (c + 1) 1 (upd cd c (nI v)) op (popN L) 0 ∧ c < 6000 :=
  ei_put2 h hT (bst_opnd hv hv2 L) (Nat.le_trans (popN_len L) h.2.2.2.2.1) (nI_pos (by omega)) (OP_pop h.2.2.2.2.2.1) (fun _ => popN_top L)
theorem sp_rE121 {l3 l4 l5 l6 : Int32} (h : EI n b0 c0 cd0 b q T td c 0 cd op L l3) (h3 : ¬ l3 = 0) (hT : ¬ T = 0) (hk : cs 1 = nI kc) (hk6 : kc ≤ 6) (hK : KH n b0 c0 cd0 lf lt b κ) (hF : FH n b0 c0 cd0 lf lt Φ) (h5 : ¬ l5 = 0 → T = 1) (h6 : ¬ l6 = 0 → T = 3) : kf_X8_readsE_121 (nI n) t cs nm (nI li) κ Φ (nI q) (nI b) T w td wr (nI c) lf lt cd op cm (nI L.length) l3 l4 l5 l6 := by
  unfold kf_X8_readsE_121
  have hlen := h.2.2.2.2.1
  refine ⟨fun hd => ?_, fun _ => sp_X8_fails ⟨Or.inl rfl, hF b q T w td _ c cd op cm h.1 h.2.1.2 h.2.2.1 (by have := h.2.2.2.1; omega) h.2.2.2.2.2.2.2.1⟩⟩
  have hL : L.length < 5 := Nat.lt_of_le_of_ne hlen (fun e => hd (by rw [e]; rfl))
  refine ⟨fun e5 => sp_rE142 h h3 hL hT hK h5 h6 (Or.inl e5), fun e5 => ⟨fun e6 => ⟨fun _ => ?_, fun _ => ?_⟩, fun e6 => sp_rE142 h h3 hL hT hK h5 h6 (Or.inr e6)⟩⟩
  · obtain ⟨d, hd9, rfl⟩ := h.1.2.2.2.2
    rw [show (100 : Int32) = nI 100 from rfl, nI_add]
    have e := ei_opnd (v := 100 + d) h hT (by omega) (by omega)
    exact sp_X8_puts e.2 (sp_rE229 hT hK L hlen h.2.2.2.2.2.1 e.1)
  · refine sp_X8_cellOf hk hk6 ?_ (fun j hj _ => ?_)
    · have e := ei_opnd (v := 0) h hT (by omega) (by omega)
      exact sp_X8_puts e.2 (sp_rE229 hT hK L hlen h.2.2.2.2.2.1 e.1)
    · rw [show (1 : Int32) = nI 1 from rfl, nI_add]
      have e := ei_opnd (v := 1 + j) h hT (by omega) (by omega)
      exact sp_X8_puts e.2 (sp_rE229 hT hK L hlen h.2.2.2.2.2.1 e.1)
theorem sp_rE103 {l3 l4 l5 l6 : Int32} (h : EI n b0 c0 cd0 b q T td c 0 cd op L l3) (h3 : ¬ l3 = 0) (hT : ¬ T = 0) (hk : cs 1 = nI kc) (hk6 : kc ≤ 6) (hK : KH n b0 c0 cd0 lf lt b κ) (hF : FH n b0 c0 cd0 lf lt Φ) (h5 : ¬ l5 = 0 → T = 1) (h6 : ¬ l6 = 0 → T = 3) : kf_X8_readsE_103 (nI n) t cs nm (nI li) κ Φ (nI q) (nI b) T w td wr (nI c) lf lt cd op cm (nI L.length) l3 l4 l5 l6 := by
  unfold kf_X8_readsE_103
  have e := @sp_rE121 t n b0 c0 li kc cs cd0 lf lt nm κ Φ b q c T td wr w cd op cm L l3 l4 l5 l6 h h3 hT hk hk6 hK hF h5 h6
  refine ⟨fun _ => e, fun _ => sp_X8_cellOf hk hk6 ⟨fun _ => e, fun _ => ?_⟩ (fun j hj _ => ⟨fun _ => e, fun _ => ?_⟩)⟩
  · exact sp_X8_fails ⟨Or.inl rfl, hF b q T w td _ c cd op cm h.1 h.2.1.2 h.2.2.1 (by have := h.2.2.2.1; omega) h.2.2.2.2.2.2.2.1⟩
  · exact sp_X8_fails ⟨Or.inl rfl, hF b q T w td _ c cd op cm h.1 h.2.1.2 h.2.2.1 (by have := h.2.2.2.1; omega) h.2.2.2.2.2.2.2.1⟩
theorem sp_rE64 {l3 l4 s0 : Int32} (h : EI n b0 c0 cd0 b q T td c 0 cd op L l3) (h3 : ¬ l3 = 0) (hk : cs 1 = nI kc) (hk6 : kc ≤ 6) (hK : KH n b0 c0 cd0 lf lt b κ) (hF : FH n b0 c0 cd0 lf lt Φ) (h4 : ¬ l4 = 0 → T = 1) (h5 : ¬ s0 = 0 → T = 1) : kf_X8_readsE_64 (nI n) t cs nm (nI li) κ Φ (nI q) (nI b) T w td wr (nI c) lf lt cd op cm (nI L.length) l3 l4 s0 := by
  unfold kf_X8_readsE_64
  have n1 : ∀ {z : Int32}, (z = 1 → ¬ z = 0) := fun e => by rw [e]; decide
  refine sp_X8_isSign h.1.sgn (fun e3 _ => ?_) (fun _ => ?_)
  · have hT : ¬ T = 0 := by rw [e3]; decide
    have e := @sp_rE103 t n b0 c0 li kc cs cd0 lf lt nm κ Φ b q c T td wr w cd op cm L l3 l4 s0 1 h h3 hT hk hk6 hK hF h5 (fun _ => e3)
    exact ⟨fun _ => e, fun _ => ⟨fun _ => e, fun _ => ⟨fun _ => e, fun z => absurd z (by decide)⟩⟩⟩
  · have h6 : ¬ (0 : Int32) = 0 → T = 3 := fun z => absurd rfl z
    refine ⟨fun e4 => sp_rE103 h h3 (n1 (h4 e4)) hk hk6 hK hF h5 h6, fun _ => ⟨fun e5 => sp_rE103 h h3 (n1 (h5 e5)) hk hk6 hK hF h5 h6, fun _ => ⟨fun z => absurd rfl z, fun _ => ⟨fun e2 => sp_rE103 h h3 (by rw [e2]; decide) hk hk6 hK hF h5 h6, fun _ => ?_⟩⟩⟩⟩
    exact sp_X8_fails ⟨Or.inl rfl, hF b q T w td _ c cd op cm h.1 h.2.1.2 h.2.2.1 (by have := h.2.2.2.1; omega) h.2.2.2.2.2.2.2.1⟩
theorem sp_rE37 {l3 s0 : Int32} (h : EI n b0 c0 cd0 b q T td c 0 cd op L l3) (h3 : ¬ l3 = 0) (hk : cs 1 = nI kc) (hk6 : kc ≤ 6) (hK : KH n b0 c0 cd0 lf lt b κ) (hF : FH n b0 c0 cd0 lf lt Φ) (h4 : ¬ s0 = 0 → T = 1) : kf_X8_readsE_37 (nI n) t cs nm (nI li) κ Φ (nI q) (nI b) T w td wr (nI c) lf lt cd op cm (nI L.length) l3 s0 := by
  unfold kf_X8_readsE_37
  refine sp_X8_isWord (fun e1 _ => ⟨fun _ => sp_rE64 h h3 hk hk6 hK hF h4 (fun _ => e1), fun e => absurd e (by decide)⟩) (fun _ => ⟨fun e => absurd rfl e, fun _ => ?_⟩)
  exact sp_X8_isWord (fun e1 _ => ⟨fun e => absurd e (by decide), fun _ => sp_rE64 h h3 hk hk6 hK hF h4 (fun _ => e1)⟩) (fun _ => ⟨fun _ => sp_rE64 h h3 hk hk6 hK hF h4 (fun z => absurd rfl z), fun e => absurd rfl e⟩)
theorem sp_rE21 (hl : li < 192) (hk : cs 1 = nI kc) (hk6 : kc ≤ 6) (hF : FH n b0 c0 cd0 lf lt Φ) (hS : SH n b0 c0 li cd0 lf lt Φ) : ∀ (m b q : Nat) (T : Int32) (w : Int64) (td wr : Int32) (c : Nat) (cd op cm : Nat → Int32) (L : List Bool) (wn : Int32), EI n b0 c0 cd0 b q T td c 0 cd op L wn → n - b < m → lf_X8_readsE_21 (nI n) t cs nm (nI li) Φ m (nI q) (nI b) T w td wr (nI c) lf lt cd op cm (nI L.length) wn := by
  intro m
  induction m with
  | zero => intro b q T w td wr c cd op cm L wn _ h; exact absurd h (Nat.not_lt_zero _)
  | succ m ih =>
    intro b q T w td wr c cd op cm L wn h hm
    have hK : KH n b0 c0 cd0 lf lt b (lf_X8_readsE_21 (nI n) t cs nm (nI li) Φ m) := by
      intro b' q' T' w' td' wr' c' cd' op' cm' L' wn' h' hb
      have := h'.1.2.1
      have := h'.1.2.2.1
      exact ih b' q' T' w' td' wr' c' cd' op' cm' L' wn' h' (by omega)
    show lb_X8_readsE_21 _ _ _ _ _ _ _ _ _ _ _ _ _ _ _ _ _ _ _ _ _
    unfold lb_X8_readsE_21
    constructor
    · intro e0
      subst e0
      have s3 : ∀ {x : Int32}, T = 3 → ¬ T = 0 := fun e => by rw [e]; decide
      refine sp_X8_isSign h.1.sgn (fun e _ => ⟨fun _ => sp_rE279 h (by rw [e]; decide) hK, fun z => absurd z (by decide)⟩) (fun _ => ⟨fun z => absurd rfl z, fun _ => ?_⟩)
      refine sp_X8_isSign h.1.sgn (fun e _ => ⟨fun _ => sp_rE279 h (by rw [e]; decide) hK, fun z => absurd z (by decide)⟩) (fun _ => ⟨fun z => absurd rfl z, fun _ => ?_⟩)
      refine sp_X8_isSign h.1.sgn (fun e _ => ⟨fun z => absurd z (by decide), fun _ => sp_rE279 h (by rw [e]; decide) hK⟩) (fun _ => ⟨fun _ => ?_, fun z => absurd rfl z⟩)
      refine sp_X8_isSign h.1.sgn (fun e _ => ⟨fun _ => sp_rE336 h hl (by rw [e]; decide) hK hF hS, fun z => absurd z (by decide)⟩) (fun _ => ⟨fun z => absurd rfl z, fun _ => ?_⟩)
      exact sp_X8_isSign h.1.sgn (fun e _ => ⟨fun z => absurd z (by decide), fun _ => sp_rE336 h hl (by rw [e]; decide) hK hF hS⟩) (fun _ => ⟨fun _ => sp_rE377 h hl hK hF hS, fun z => absurd rfl z⟩)
    · intro e0
      exact sp_X8_isKept ⟨fun _ => sp_rE37 h e0 hk hk6 hK hF (fun z => absurd rfl z), fun z => absurd z (by decide)⟩ (fun e1 => ⟨fun z => absurd rfl z, fun _ => sp_rE37 h e0 hk hk6 hK hF (fun _ => e1)⟩)
end RF
/-- readsE: one E of the line li, its codes from c on -/
theorem sp_X8_readsE {t : Nat → Int32} {n li kc b q c : Nat} {cs lf lt cd op cm : Nat → Int32} {nm : Nat → Int64} {Φ : PE} {T td wr : Int32} {w : Int64} (hR : RS n b q T td) (hl : li < 192) (hk : cs 1 = nI kc) (hk6 : kc ≤ 6) (hc : 1000 ≤ c) (hc2 : c ≤ 1000 + b) (hF : FH n b c cd (upd lf li (nI c)) lt Φ) (hS : SH n b c li cd (upd lf li (nI c)) lt Φ) : wp_X8_readsE (nI n) t cs nm (nI li) (nI q) (nI b) T w td wr (nI c) lf lt cd op cm Φ := by
  unfold wp_X8_readsE
  refine ⟨pk_in li 192 hl, n - b + 1, ?_⟩
  rw [nI_clamp (by omega)]
  exact sp_rE21 hl hk hk6 hF hS (n - b + 1) b q T w td wr c cd op _ [] 1 ⟨hR, ⟨hc, Nat.le_refl _⟩, Nat.le_refl _, hc2, by decide, trivial, by rw [Nat.sub_self]; exact rfl, fun _ _ => rfl, fun z => absurd z (by decide)⟩ (Nat.lt_succ_self _)
end
section
def RH (n b : Nat) (Φ : Int32 → Int32 → Int32 → Int32 → Int64 → Int32 → Int32 → Prop) : Prop := ∀ r b' q' T' w' td' wr', RS n b' q' T' td' → b ≤ b' → (r = 0 ∨ r = 1) → (r = 1 → b < b') → Φ r (nI q') (nI b') T' w' td' wr'
theorem sp_X8_ends {t : Nat → Int32} {n b q : Nat} {T td wr : Int32} {w : Int64} {Φ : Int32 → Int32 → Int32 → Int32 → Int64 → Int32 → Int32 → Prop} (h : RS n b q T td) (hΦ : RH n b Φ) : wp_X8_ends (nI n) t (nI q) (nI b) T w td wr Φ := by
  unfold wp_X8_ends
  refine sp_X8_isSign h.sgn (fun e _ => ⟨fun _ => h.next (fun b' q' T' w' td' hR hq => ?_), fun z => absurd z (by decide)⟩) (fun _ => ⟨fun z => absurd rfl z, fun _ => sp_X8_fails ⟨Or.inl rfl, ?_⟩⟩)
  · have := h.lt (by rw [e]; decide)
    exact hΦ 1 b' q' T' w' td' wr hR (by omega) (Or.inr rfl) (fun _ => by omega)
  · exact hΦ 0 b q T w td _ h (Nat.le_refl _) (Or.inl rfl) (fun z => absurd z (by decide))
theorem sp_X8_needsWord {t : Nat → Int32} {n b q : Nat} {T td wr : Int32} {w x : Int64} {Φ : Int32 → Int32 → Int32 → Int32 → Int64 → Int32 → Int32 → Prop} (h : RS n b q T td) (hΦ : RH n b Φ) : wp_X8_needsWord (nI n) t x (nI q) (nI b) T w td wr Φ := by
  unfold wp_X8_needsWord
  refine sp_X8_isWord (fun e _ => ⟨fun _ => h.next (fun b' q' T' w' td' hR hq => ?_), fun z => absurd z (by decide)⟩) (fun _ => ⟨fun z => absurd rfl z, fun _ => sp_X8_fails ⟨Or.inl rfl, ?_⟩⟩)
  · have := h.lt (by rw [e]; decide)
    exact hΦ 1 b' q' T' w' td' wr hR (by omega) (Or.inr rfl) (fun _ => by omega)
  · exact hΦ 0 b q T w td _ h (Nat.le_refl _) (Or.inl rfl) (fun z => absurd z (by decide))
theorem sp_X8_needsNumber {B T td lo hi wr : Int32} {Φ : Int32 → Int32 → Prop} (h0 : ∀ wr', Φ 0 wr') (h1 : T = 2 → ¬ td < lo → ¬ hi < td → Φ 1 wr) : wp_X8_needsNumber B T td lo hi wr Φ := by
  unfold wp_X8_needsNumber
  refine ⟨fun e => sp_X8_within (fun a c => ⟨fun _ => h1 e a c, fun z => absurd z (by decide)⟩) (fun _ => ⟨fun z => absurd rfl z, fun _ => sp_X8_fails ⟨fun _ => h0 _, fun z => absurd rfl z⟩⟩), fun _ => sp_X8_fails ⟨Or.inl rfl, h0 _⟩⟩
theorem sp_X8_needsNew {B T wr : Int32} {w : Int64} {st ce : Nat → Int32} {sn cn : Nat → Int64} {s k : Nat} {Φ : Int32 → Int32 → Prop} (hs : st 1 = nI s) (hs4 : s ≤ 4) (hk : ce 1 = nI k) (hk6 : k ≤ 6) (h0 : ∀ wr', Φ 0 wr') (h1 : T = 1 → Φ 1 wr) : wp_X8_needsNew B T w st ce sn cn wr Φ := by
  unfold wp_X8_needsNew
  have f3 : wp_X8_fails B 3 wr (fun r_9 Fwrong_8 => (r_9 = 0 → Φ 0 Fwrong_8) ∧ (¬ r_9 = 0 → Φ 1 Fwrong_8)) := sp_X8_fails ⟨fun _ => h0 _, fun z => absurd rfl z⟩
  refine sp_X8_isKept ⟨fun z => absurd z (by decide), fun _ => sp_X8_fails ⟨Or.inl rfl, h0 _⟩⟩ (fun e1 => ⟨fun _ => sp_X8_stuffOf hs hs4 ⟨fun z => absurd z (by decide), fun _ => ?_⟩ (fun j hj _ => ⟨fun _ => f3, fun z => absurd (nI_pos' (by omega)) z⟩), fun z => absurd rfl z⟩)
  exact sp_X8_cellOf hk hk6 ⟨fun _ => h1 e1, fun z => absurd (by decide) z⟩ (fun j hj _ => ⟨fun z => absurd z (nI_pos (by omega)), fun _ => f3⟩)
/-- every cost kept is one that may be told -/
def CO (co : Nat → Int32) : Prop := ∀ j, ∃ c : Nat, c ≤ 999 ∧ co j = nI c
theorem CO_upd {co : Nat → Int32} {i : Nat} {v : Int32} (h : CO co) (h0 : ¬ v < 0) (h9 : ¬ 999 < v) : CO (upd co i v) := by
  intro j
  by_cases e : j = i
  · subst e
    obtain ⟨c, hc, rfl⟩ := nI_of h0
    exact ⟨c, Nat.le_of_not_lt (fun z => h9 (nI_lt (a := 999) z hc)), pk_us⟩
  · obtain ⟨c, hc, ec⟩ := h j
    exact ⟨c, hc, by rw [pk_un e]; exact ec⟩
theorem sp_X8_readsStuff {t : Nat → Int32} {n b q s k : Nat} {T td wr : Int32} {w : Int64} {st ce be co : Nat → Int32} {sn cn : Nat → Int64} {Φ : Int32 → Int32 → Int32 → Int32 → Int64 → Int32 → Int32 → (Nat → Int32) → (Nat → Int64) → (Nat → Int32) → (Nat → Int32) → Prop} (h : RS n b q T td) (hs : st 1 = nI s) (hs4 : s ≤ 4) (hk : ce 1 = nI k) (hk6 : k ≤ 6)
    (hΦ : ∀ r b' q' T' w' td' wr' st' sn' be' co', RS n b' q' T' td' → b ≤ b' → (r = 0 ∨ r = 1) → (r = 1 → b < b') → (st' = st ∨ ∃ s', s' ≤ 4 ∧ st' = upd st 1 (nI s')) → (CO co → CO co') → Φ r (nI q') (nI b') T' w' td' wr' st' sn' be' co') : wp_X8_readsStuff (nI n) t ce cn (nI q) (nI b) T w td wr st sn be co Φ := by
  unfold wp_X8_readsStuff
  refine ⟨fun hne => ?_, fun _ => sp_X8_fails ⟨Or.inl rfl, hΦ 0 b q T w td _ st sn be co h (Nat.le_refl _) (Or.inl rfl) (fun z => absurd z (by decide)) (Or.inl rfl) id⟩⟩
  have hs3 : s < 4 := Nat.lt_of_le_of_ne hs4 (fun e => hne (by rw [hs, e]; rfl))
  have z0 : (0 : Int32) = 1 → False := by decide
  refine h.next (fun b1 q1 T1 w1 td1 h1 hb1 => ?_)
  have hbq := h.2.1
  refine sp_X8_needsNew hs hs4 hk hk6 (fun wr' => ⟨fun z => absurd rfl z, fun _ => hΦ 0 b1 q1 T1 w1 td1 wr' _ _ _ _ h1 (by omega) (Or.inl rfl) (fun z => (z0 z).elim) (Or.inl rfl) id⟩) (fun eT => ⟨fun _ => ?_, fun z => absurd z (by decide)⟩)
  have hlt1 := h1.lt (by rw [eT]; decide)
  rw [hs]
  refine ⟨pk_in s 4 hs3, h1.next (fun b2 q2 T2 w2 td2 h2 hb2 => ?_)⟩
  refine sp_X8_needsWord h2 (fun r b3 q3 T3 w3 td3 wr3 h3 hb3 hr _ => ⟨fun _ => hΦ 0 b3 q3 T3 w3 td3 wr3 _ _ _ _ h3 (by omega) (Or.inl rfl) (fun z => (z0 z).elim) (Or.inl rfl) id, fun _ => ?_⟩)
  refine sp_X8_needsNumber (fun wr' => ⟨fun z => absurd rfl z, fun _ => hΦ 0 b3 q3 T3 w3 td3 wr' _ _ _ _ h3 (by omega) (Or.inl rfl) (fun z => (z0 z).elim) (Or.inl rfl) id⟩) (fun _ _ _ => ⟨fun _ => ?_, fun z => absurd z (by decide)⟩)
  have e4 : (4 : Int32) + nI s = nI (4 + s) := nI_add 4 s
  rw [e4]
  refine ⟨pk_in (4 + s) 24 (by omega), h3.next (fun b4 q4 T4 w4 td4 h4 hb4 => ?_)⟩
  have := h3.2.1
  refine sp_X8_needsWord h4 (fun r b5 q5 T5 w5 td5 wr5 h5 hb5 hr _ => ⟨fun _ => hΦ 0 b5 q5 T5 w5 td5 wr5 _ _ _ _ h5 (by omega) (Or.inl rfl) (fun z => (z0 z).elim) (Or.inl rfl) id, fun _ => ?_⟩)
  refine sp_X8_needsNumber (fun wr' => ⟨fun z => absurd rfl z, fun _ => hΦ 0 b5 q5 T5 w5 td5 wr' _ _ _ _ h5 (by omega) (Or.inl rfl) (fun z => (z0 z).elim) (Or.inl rfl) id⟩) (fun _ c0 c9 => ⟨fun _ => ?_, fun z => absurd z (by decide)⟩)
  refine ⟨pk_in (4 + s) 24 (by omega), h5.next (fun b6 q6 T6 w6 td6 h6 hb6 => ?_)⟩
  have := h5.2.1
  refine sp_X8_ends h6 (fun r b7 q7 T7 w7 td7 wr7 h7 hb7 hr _ => ⟨hr, hΦ r b7 q7 T7 w7 td7 wr7 _ _ _ _ h7 (by omega) hr (fun _ => by omega) (Or.inr ⟨s + 1, by omega, by rw [nI_1]⟩) (fun hC => CO_upd hC c0 c9)⟩)
theorem sp_X8_readsCell {t : Nat → Int32} {n b q s k : Nat} {T td wr : Int32} {w : Int64} {st ce ca : Nat → Int32} {sn cn : Nat → Int64} {Φ : Int32 → Int32 → Int32 → Int32 → Int64 → Int32 → Int32 → (Nat → Int32) → (Nat → Int64) → (Nat → Int32) → Prop} (h : RS n b q T td) (hs : st 1 = nI s) (hs4 : s ≤ 4) (hk : ce 1 = nI k) (hk6 : k ≤ 6)
    (hΦ : ∀ r b' q' T' w' td' wr' ce' cn' ca', RS n b' q' T' td' → b ≤ b' → (r = 0 ∨ r = 1) → (r = 1 → b < b') → (ce' = ce ∨ ∃ k', k' ≤ 6 ∧ ce' = upd ce 1 (nI k')) → Φ r (nI q') (nI b') T' w' td' wr' ce' cn' ca') : wp_X8_readsCell (nI n) t st sn (nI q) (nI b) T w td wr ce cn ca Φ := by
  unfold wp_X8_readsCell
  refine ⟨fun hne => ?_, fun _ => sp_X8_fails ⟨Or.inl rfl, hΦ 0 b q T w td _ ce cn ca h (Nat.le_refl _) (Or.inl rfl) (fun z => absurd z (by decide)) (Or.inl rfl)⟩⟩
  have hk5 : k < 6 := Nat.lt_of_le_of_ne hk6 (fun e => hne (by rw [hk, e]; rfl))
  have z0 : (0 : Int32) = 1 → False := by decide
  refine h.next (fun b1 q1 T1 w1 td1 h1 hb1 => ?_)
  have hbq := h.2.1
  refine sp_X8_needsNew hs hs4 hk hk6 (fun wr' => ⟨fun z => absurd rfl z, fun _ => hΦ 0 b1 q1 T1 w1 td1 wr' _ _ _ h1 (by omega) (Or.inl rfl) (fun z => (z0 z).elim) (Or.inl rfl)⟩) (fun eT => ⟨fun _ => ?_, fun z => absurd z (by decide)⟩)
  have hlt1 := h1.lt (by rw [eT]; decide)
  rw [hk]
  refine ⟨pk_in k 6 hk5, h1.next (fun b2 q2 T2 w2 td2 h2 hb2 => ?_)⟩
  refine sp_X8_needsNumber (fun wr' => ⟨fun z => absurd rfl z, fun _ => hΦ 0 b2 q2 T2 w2 td2 wr' _ _ _ h2 (by omega) (Or.inl rfl) (fun z => (z0 z).elim) (Or.inl rfl)⟩) (fun _ _ _ => ⟨fun _ => ?_, fun z => absurd z (by decide)⟩)
  have e4 : (6 : Int32) + nI k = nI (6 + k) := nI_add 6 k
  rw [e4]
  have := h2.2.1
  refine ⟨pk_in (6 + k) 36 (by omega), h2.next (fun b6 q6 T6 w6 td6 h6 hb6 => ?_)⟩
  refine sp_X8_ends h6 (fun r b7 q7 T7 w7 td7 wr7 h7 hb7 hr _ => ⟨hr, hΦ r b7 q7 T7 w7 td7 wr7 _ _ _ h7 (by omega) hr (fun _ => by omega) (Or.inr ⟨k + 1, by omega, by rw [nI_1]⟩)⟩)
end
section
section RI
variable {t : Nat → Int32} {n b q i k : Nat} {T td wr : Int32} {w : Int64} {ce ip ic le mo : Nat → Int32} {cn : Nat → Int64}
abbrev PI : Type := Int32 → Int32 → Int32 → Int32 → Int64 → Int32 → Int32 → (Nat → Int32) → (Nat → Int32) → (Nat → Int32) → (Nat → Int32) → Prop
variable {Φ : PI}
theorem sp_rI201 {s0 s1 : Int32} (h : RS n b q T td) (hi : ip 1 = nI i) (h0 : ∀ wr', Φ 0 (nI q) (nI b) T w td wr' ip ic le mo) (h1 : ∀ r b' q' T' w' td' wr', RS n b' q' T' td' → q ≤ b' → (r = 0 ∨ r = 1) → Φ r (nI q') (nI b') T' w' td' wr' (upd ip 1 (nI (i + 1))) ic le mo) : kf_X8_readsInput_201 (nI n) t ce cn Φ (nI q) (nI b) T w td wr ip ic le mo s0 s1 := by
  unfold kf_X8_readsInput_201
  refine ⟨fun _ => h.next (fun b1 q1 T1 w1 td1 h1' hb1 => sp_X8_ends h1' (fun r b2 q2 T2 w2 td2 wr2 h2 hb2 hr _ => ⟨hr, ?_⟩)), fun _ => sp_X8_fails ⟨Or.inl rfl, h0 _⟩⟩
  rw [hi, nI_1]
  exact h1 r b2 q2 T2 w2 td2 wr2 h2 (by omega) hr
theorem sp_rI98 (h : RS n b q T td) (hi : ip 1 = nI i) (hi2 : i < 2)
    (hΦ : ∀ r b' q' T' w' td' wr' ip' le' mo', RS n b' q' T' td' → q ≤ b' → (r = 0 ∨ r = 1) → (∀ j, ¬ j = 2 + i → le' j = le j ∧ mo' j = mo j) → (ip' = ip ∨ (ip' = upd ip 1 (nI (i + 1)) ∧ ∃ a m : Nat, le' (2 + i) = nI a ∧ mo' (2 + i) = nI m ∧ a ≤ m ∧ m ≤ 9999)) → Φ r (nI q') (nI b') T' w' td' wr' ip' ic le' mo') : kf_X8_readsInput_98 (nI n) t ce cn Φ (nI q) (nI b) T w td wr ip ic le mo (nI (2 + i)) := by
  unfold kf_X8_readsInput_98
  refine h.next (fun b1 q1 T1 w1 td1 h1 hb1 => ?_)
  refine sp_X8_needsNumber (fun wr' => ⟨fun z => absurd rfl z, fun _ => hΦ 0 b1 q1 T1 w1 td1 wr' ip le mo h1 hb1 (Or.inl rfl) (fun _ _ => ⟨rfl, rfl⟩) (Or.inl rfl)⟩) (fun _ _ _ => ⟨fun _ => ?_, fun z => absurd z (by decide)⟩)
  have := h1.2.1
  have hin : vp_in (nI (2 + i)) 12 := pk_in (2 + i) 12 (by omega)
  rw [nI_clamp (by omega)]
  refine ⟨hin, h1.next (fun b2 q2 T2 w2 td2 h2 hb2 => ⟨hin, ?_⟩)⟩
  have hle : ∀ j, ¬ j = 2 + i → upd le (2 + i) td1 j = le j := fun j hj => pk_un hj
  rw [pk_us]
  refine sp_X8_needsNumber (fun wr' => ⟨fun z => absurd rfl z, fun _ => hΦ 0 b2 q2 T2 w2 td2 wr' ip _ mo h2 (by omega) (Or.inl rfl) (fun j hj => ⟨hle j hj, rfl⟩) (Or.inl rfl)⟩) (fun _ hlo _ => ⟨fun _ => ⟨hin, hin, ?_⟩, fun z => absurd z (by decide)⟩)
  obtain ⟨a, ha, rfl⟩ := h1.2.2.2.2
  obtain ⟨m, hm, rfl⟩ := h2.2.2.2.2
  have ham : a ≤ m := Nat.le_of_not_lt (fun z => hlo (nI_lt z (by omega)))
  have := h2.2.1
  have fr : ∀ j, ¬ j = 2 + i → upd le (2 + i) (nI a) j = le j ∧ upd mo (2 + i) (nI m) j = mo j := fun j hj => ⟨pk_un hj, pk_un hj⟩
  have fin : ∀ s0 s1 : Int32, kf_X8_readsInput_201 (nI n) t ce cn Φ (nI q2) (nI b2) T2 w2 (nI m) wr ip ic (upd le (2 + i) (nI a)) (upd mo (2 + i) (nI m)) s0 s1 := fun s0 s1 =>
    sp_rI201 h2 hi (fun wr' => hΦ 0 b2 q2 T2 w2 _ wr' ip _ _ h2 (by omega) (Or.inl rfl) fr (Or.inl rfl)) (fun r b' q' T' w' td' wr' hR hq hr => hΦ r b' q' T' w' td' wr' _ _ _ hR (by omega) hr fr (Or.inr ⟨rfl, a, m, pk_us, pk_us, ham, hm⟩))
  exact ⟨fun _ => fin _ _, fun _ => fin _ _⟩
theorem sp_X8_readsInput (h : RS n b q T td) (hi : ip 1 = nI i) (hi2 : i ≤ 2) (hk : ce 1 = nI k) (hk6 : k ≤ 6)
    (hΦ : ∀ r b' q' T' w' td' wr' ip' ic' le' mo', RS n b' q' T' td' → b ≤ b' → (r = 0 ∨ r = 1) → (r = 1 → b < b') → (∀ j, ¬ j = 2 + i → le' j = le j ∧ mo' j = mo j) → (ip' = ip ∨ (i < 2 ∧ ip' = upd ip 1 (nI (i + 1)) ∧ ∃ a m : Nat, le' (2 + i) = nI a ∧ mo' (2 + i) = nI m ∧ a ≤ m ∧ m ≤ 9999)) → (i < 2 ∨ (le' = le ∧ mo' = mo)) → Φ r (nI q') (nI b') T' w' td' wr' ip' ic' le' mo') : wp_X8_readsInput (nI n) t ce cn (nI q) (nI b) T w td wr ip ic le mo Φ := by
  unfold wp_X8_readsInput
  have z0 : (0 : Int32) = 1 → False := by decide
  refine ⟨fun hne => ?_, fun _ => sp_X8_fails ⟨Or.inl rfl, hΦ 0 b q T w td _ ip ic le mo h (Nat.le_refl _) (Or.inl rfl) (fun z => (z0 z).elim) (fun _ _ => ⟨rfl, rfl⟩) (Or.inl rfl) (Or.inr ⟨rfl, rfl⟩)⟩⟩
  have hi1 : i < 2 := Nat.lt_of_le_of_ne hi2 (fun e => hne (by rw [hi, e]; rfl))
  have hbq := h.2.1
  refine h.next (fun b1 q1 T1 w1 td1 h1 hb1 => ?_)
  have fl : ∀ (wr' : Int32) (ic' : Nat → Int32), Φ 0 (nI q1) (nI b1) T1 w1 td1 wr' ip ic' le mo := fun wr' ic' => hΦ 0 b1 q1 T1 w1 td1 wr' ip ic' le mo h1 (by omega) (Or.inl rfl) (fun z => (z0 z).elim) (fun _ _ => ⟨rfl, rfl⟩) (Or.inl rfl) (Or.inl hi1)
  refine sp_X8_isKept ⟨fun z => absurd z (by decide), fun _ => sp_X8_fails ⟨Or.inl rfl, fl _ _⟩⟩ (fun eT => ⟨fun _ => ?_, fun z => absurd rfl z⟩)
  have hlt := h1.lt (by rw [eT]; decide)
  have e2 : (2 : Int32) + nI i = nI (2 + i) := nI_add 2 i
  have hin : vp_in (nI (2 + i)) 12 := pk_in (2 + i) 12 (by omega)
  have all : ∀ r : Int32, vp_in (2 + ip 1) 12 ∧ vp_in (2 + ip 1) 12 ∧ (0 ≤ (upd ic (2 + ip 1).toNatClampNeg r) (2 + ip 1).toNatClampNeg → (¬ ip 1 = 1 → kf_X8_readsInput_98 (nI n) t ce cn Φ (nI q1) (nI b1) T1 w1 td1 wr ip (upd ic (2 + ip 1).toNatClampNeg r) le mo (2 + ip 1)) ∧ (ip 1 = 1 → vp_in (2 + ip 1) 12 ∧ (¬ (upd ic (2 + ip 1).toNatClampNeg r) 2 = (upd ic (2 + ip 1).toNatClampNeg r) (2 + ip 1).toNatClampNeg → kf_X8_readsInput_98 (nI n) t ce cn Φ (nI q1) (nI b1) T1 w1 td1 wr ip (upd ic (2 + ip 1).toNatClampNeg r) le mo (2 + ip 1)) ∧ ((upd ic (2 + ip 1).toNatClampNeg r) 2 = (upd ic (2 + ip 1).toNatClampNeg r) (2 + ip 1).toNatClampNeg → wp_X8_fails (nI b1) 3 wr (fun r_70 Fwrong_69 => (r_70 = 0 ∨ r_70 = 1) ∧ Φ r_70 (nI q1) (nI b1) T1 w1 td1 Fwrong_69 ip (upd ic (2 + ip 1).toNatClampNeg r) le mo)))) ∧ (¬ 0 ≤ (upd ic (2 + ip 1).toNatClampNeg r) (2 + ip 1).toNatClampNeg → wp_X8_fails (nI b1) 2 wr (fun r_74 Fwrong_73 => (r_74 = 0 ∨ r_74 = 1) ∧ Φ r_74 (nI q1) (nI b1) T1 w1 td1 Fwrong_73 ip (upd ic (2 + ip 1).toNatClampNeg r) le mo)) := by
    intro r
    rw [hi, e2]
    have g98 : kf_X8_readsInput_98 (nI n) t ce cn Φ (nI q1) (nI b1) T1 w1 td1 wr ip (upd ic (nI (2 + i)).toNatClampNeg r) le mo (nI (2 + i)) :=
      sp_rI98 h1 hi hi1 (fun r b' q' T' w' td' wr' ip' le' mo' hR hq hr hf hx => hΦ r b' q' T' w' td' wr' ip' _ le' mo' hR (by omega) hr (fun _ => by omega) hf (hx.imp id (fun e => ⟨hi1, e⟩)) (Or.inl hi1))
    exact ⟨hin, hin, fun _ => ⟨fun _ => g98, fun _ => ⟨hin, fun _ => g98, fun _ => sp_X8_fails ⟨Or.inl rfl, fl _ _⟩⟩⟩, fun _ => sp_X8_fails ⟨Or.inl rfl, fl _ _⟩⟩
  exact sp_X8_cellOf hk hk6 (all _) (fun j _ _ => all _)
end RI
theorem sp_X8_needsCell {t : Nat → Int32} {n b q l k : Nat} {T td wr : Int32} {w : Int64} {ce ac : Nat → Int32} {cn : Nat → Int64} {Φ : Int32 → Int32 → Int32 → Int32 → Int64 → Int32 → Int32 → (Nat → Int32) → Prop} (h : RS n b q T td) (hl : l < 96) (hk : ce 1 = nI k) (hk6 : k ≤ 6)
    (hΦ : ∀ r b' q' T' w' td' wr' ac', RS n b' q' T' td' → b ≤ b' → (r = 0 ∨ r = 1) → (∀ j, ¬ j = l → ac' j = ac j) → (r = 1 → ∃ y : Nat, y < 6 ∧ ac' l = nI y) → Φ r (nI q') (nI b') T' w' td' wr' ac') : wp_X8_needsCell (nI n) t ce cn (nI l) (nI q) (nI b) T w td wr ac Φ := by
  unfold wp_X8_needsCell
  have z0 : (0 : Int32) = 1 → False := by decide
  refine sp_X8_isKept ⟨fun z => absurd z (by decide), fun _ => sp_X8_fails ⟨Or.inl rfl, hΦ 0 b q T w td _ ac h (Nat.le_refl _) (Or.inl rfl) (fun _ _ => rfl) (fun z => (z0 z).elim)⟩⟩ (fun _ => ⟨fun _ => ?_, fun z => absurd rfl z⟩)
  have hin : vp_in (nI l) 96 := pk_in l 96 hl
  have := h.2.1
  rw [nI_clamp (by omega)]
  refine sp_X8_cellOf hk hk6 ⟨hin, hin, fun z => ?_, fun _ => ?_⟩ (fun j hj _ => ⟨hin, hin, fun _ => h.next (fun b' q' T' w' td' hR hq => ?_), fun z => ?_⟩)
  · rw [pk_us] at z; exact absurd z (by decide)
  · exact sp_X8_fails ⟨Or.inl rfl, hΦ 0 b q T w td _ _ h (Nat.le_refl _) (Or.inl rfl) (fun j hj => pk_un hj) (fun z => (z0 z).elim)⟩
  · exact hΦ 1 b' q' T' w' td' wr _ hR (by omega) (Or.inr rfl) (fun j hj => pk_un hj) (fun _ => ⟨j, by omega, pk_us⟩)
  · rw [pk_us] at z; exact absurd (nI_pos' (by omega)) z
theorem sp_X8_actAt {T : Int32} {w : Int64} {Φ : Int32 → Prop} (hn : Φ (-1)) (ha : ∀ a : Nat, a ≤ 6 → T = 1 → Φ (nI a)) : wp_X8_actAt T w Φ := by
  unfold wp_X8_actAt
  refine sp_X8_isWord (fun e _ => ⟨fun z => absurd z (by decide), fun _ => ha 0 (by decide) e⟩) (fun _ => ⟨fun _ => ?_, fun z => absurd rfl z⟩)
  refine sp_X8_isWord (fun e _ => ⟨fun z => absurd z (by decide), fun _ => ha 1 (by decide) e⟩) (fun _ => ⟨fun _ => ?_, fun z => absurd rfl z⟩)
  refine sp_X8_isWord (fun e _ => ⟨fun z => absurd z (by decide), fun _ => ha 2 (by decide) e⟩) (fun _ => ⟨fun _ => ?_, fun z => absurd rfl z⟩)
  refine sp_X8_isWord (fun e _ => ⟨fun z => absurd z (by decide), fun _ => ha 3 (by decide) e⟩) (fun _ => ⟨fun _ => ?_, fun z => absurd rfl z⟩)
  refine sp_X8_isWord (fun e _ => ⟨fun z => absurd z (by decide), fun _ => ha 4 (by decide) e⟩) (fun _ => ⟨fun _ => ?_, fun z => absurd rfl z⟩)
  refine sp_X8_isWord (fun e _ => ⟨fun z => absurd z (by decide), fun _ => ha 5 (by decide) e⟩) (fun _ => ⟨fun _ => ?_, fun z => absurd rfl z⟩)
  exact sp_X8_isWord (fun e _ => ⟨fun z => absurd z (by decide), fun _ => ha 6 (by decide) e⟩) (fun _ => ⟨fun _ => hn, fun z => absurd rfl z⟩)
end
section
def LW (ta ac lf lt cd : Nat → Int32) (l lo hi : Nat) : Prop := ((ta l = 0 ∨ ta l = 4) → ∃ y : Nat, y < 6 ∧ ac l = nI y) ∧ ∀ w, w < 2 → ∃ (f g : Nat) (L : List Bool), lf (2 * l + w) = nI f ∧ lt (2 * l + w) = nI g ∧ lo ≤ f ∧ f ≤ g ∧ g ≤ hi ∧ BR cd f (g - f) [] L
abbrev PA : Type := Int32 → Int32 → Int32 → Int32 → Int64 → Int32 → Int32 → Int32 → (Nat → Int32) → (Nat → Int32) → (Nat → Int32) → (Nat → Int32) → (Nat → Int32) → (Nat → Int32) → (Nat → Int32) → Prop
def AP (n b c l : Nat) (ta ac lf lt cd : Nat → Int32) (Φ : PA) : Prop := ∀ r b' q' T' w' td' wr' c' ta' ac' lf' lt' cd' op' cm', RS n b' q' T' td' → b ≤ b' → c ≤ c' → c' ≤ 1000 + b' → (∀ j, ¬ j = l → ta' j = ta j ∧ ac' j = ac j) → (∀ j, ¬ j = 2 * l → ¬ j = 2 * l + 1 → lf' j = lf j ∧ lt' j = lt j) → (∀ j, j < c ∨ 2000 ≤ j → cd' j = cd j) → (r = 0 ∨ r = 1) → (r = 1 → LW ta' ac' lf' lt' cd' l c c') → Φ r (nI q') (nI b') T' w' td' wr' (nI c') ta' ac' lf' lt' cd' op' cm'
theorem LW_2 {ta ac lf lt cd : Nat → Int32} {l lo hi f0 g0 f1 g1 : Nat} {L0 L1 : List Bool} (ha : (ta l = 0 ∨ ta l = 4) → ∃ y : Nat, y < 6 ∧ ac l = nI y) (e1 : lf (2 * l) = nI f0) (e2 : lt (2 * l) = nI g0) (e3 : lo ≤ f0 ∧ f0 ≤ g0 ∧ g0 ≤ hi) (e4 : BR cd f0 (g0 - f0) [] L0) (k1 : lf (2 * l + 1) = nI f1) (k2 : lt (2 * l + 1) = nI g1) (k3 : lo ≤ f1 ∧ f1 ≤ g1 ∧ g1 ≤ hi) (k4 : BR cd f1 (g1 - f1) [] L1) : LW ta ac lf lt cd l lo hi := by
  refine ⟨ha, fun w hw => ?_⟩
  match w, hw with
  | 0, _ => exact ⟨f0, g0, L0, e1, e2, e3.1, e3.2.1, e3.2.2, e4⟩
  | 1, _ => exact ⟨f1, g1, L1, k1, k2, k3.1, k3.2.1, k3.2.2, k4⟩
section RA
variable {t : Nat → Int32} {n b q c l k : Nat} {T td wr : Int32} {w : Int64} {ce ta ac lf lt cd op cm : Nat → Int32} {cn : Nat → Int64} {Φ : PA}
theorem sp_rA107 {a : Nat} (h : RS n b q T td) (hl : l < 96) (ha6 : a ≤ 6) (hk : ce 1 = nI k) (hk6 : k ≤ 6) (hc : 1000 ≤ c) (hc2 : c ≤ 1000 + b) (hta : ta l = nI a) (h0 : a = 0 → ∃ y : Nat, y < 6 ∧ ac l = nI y) (e1 : lf (2 * l + 1) = nI c) (e2 : lt (2 * l + 1) = nI c) (hΦ : AP n b c l ta ac lf lt cd Φ) : kf_X8_readsAct_107 (nI n) t ce cn (nI l) Φ (nI q) (nI b) T w td wr (nI c) ta ac lf lt cd op cm (nI a) := by
  unfold kf_X8_readsAct_107
  have z0 : (0 : Int32) = 1 → False := by decide
  have m2 : (2 : Int32) * nI l = nI (2 * l) := pk_mul 2 l
  have m3 : nI (2 * l) + 1 = nI (2 * l + 1) := nI_1 _
  rw [m2]
  have flf : ∀ (v : Int32) (j : Nat), ¬ j = 2 * l → upd lf (2 * l) v j = lf j := fun v j hj => pk_un hj
  refine sp_X8_readsE h (by omega) hk hk6 hc hc2 (fun b1 q1 T1 w1 td1 wr1 c1 cd1 op1 cm1 h1 hb1 hc1 hc1' hf1 => ⟨fun z => absurd rfl z, fun _ => ?_⟩) (fun b1 q1 T1 w1 td1 wr1 c1 cd1 op1 cm1 h1 hb1 hc1 hc1' hf1 hL1 => ⟨fun _ => ?_, fun z => absurd z (by decide)⟩)
  · exact hΦ 0 b1 q1 T1 w1 td1 wr1 c1 ta ac _ lt cd1 op1 cm1 h1 hb1 hc1 hc1' (fun _ _ => ⟨rfl, rfl⟩) (fun j hj _ => ⟨flf _ j hj, rfl⟩) hf1 (Or.inl rfl) (fun z => (z0 z).elim)
  obtain ⟨L1, hL1⟩ := hL1
  -- the second E
  have second : ∀ (b2 q2 : Nat) (T2 : Int32) (w2 : Int64) (td2 wr2 : Int32), RS n b2 q2 T2 td2 → b1 ≤ b2 → ¬ a = 4 → ¬ a = 0 → wp_X8_readsE (nI n) t ce cn (nI (2 * l + 1)) (nI q2) (nI b2) T2 w2 td2 wr2 (nI c1) (upd lf (2 * l) (nI c)) (upd lt (2 * l) (nI c1)) cd1 op1 cm1 (fun r_78 Fplace_66 Fbegin_67 Ftoken_68 Fword_69 Ftold_70 Fwrong_71 Fcode_72 AlineFrom_73 AlineTo_74 Acodes_75 Aopened_76 Acompared_77 => (r_78 = 0 → Φ 0 Fplace_66 Fbegin_67 Ftoken_68 Fword_69 Ftold_70 Fwrong_71 Fcode_72 ta ac AlineFrom_73 AlineTo_74 Acodes_75 Aopened_76 Acompared_77) ∧ (¬ r_78 = 0 → Φ 1 Fplace_66 Fbegin_67 Ftoken_68 Fword_69 Ftold_70 Fwrong_71 Fcode_72 ta ac AlineFrom_73 AlineTo_74 Acodes_75 Aopened_76 Acompared_77)) := by
    intro b2 q2 T2 w2 td2 wr2 h2 hb2 ha4 ha0
    have fr : ∀ (v1 v2 v3 : Int32) (j : Nat), ¬ j = 2 * l → ¬ j = 2 * l + 1 → upd (upd lf (2 * l) v1) (2 * l + 1) v2 j = lf j ∧ upd lt (2 * l) v3 j = lt j := fun v1 v2 v3 j h1 h2 => ⟨by rw [pk_un h2, pk_un h1], pk_un h1⟩
    refine sp_X8_readsE h2 (by omega) hk hk6 (by omega) (by omega) (fun b3 q3 T3 w3 td3 wr3 c3 cd3 op3 cm3 h3 hb3 hc3 hc3' hf3 => ⟨fun _ => ?_, fun z => absurd rfl z⟩) (fun b3 q3 T3 w3 td3 wr3 c3 cd3 op3 cm3 h3 hb3 hc3 hc3' hf3 hL3 => ⟨fun z => absurd z (by decide), fun _ => ?_⟩)
    · exact hΦ 0 b3 q3 T3 w3 td3 wr3 c3 ta ac _ _ cd3 op3 cm3 h3 (by omega) (by omega) hc3' (fun _ _ => ⟨rfl, rfl⟩) (fun j h1 h2 => fr _ _ _ j h1 h2) (fun j hj => by rw [hf3 j (by omega), hf1 j hj]) (Or.inl rfl) (fun z => (z0 z).elim)
    · obtain ⟨L3, hL3⟩ := hL3
      refine hΦ 1 b3 q3 T3 w3 td3 wr3 c3 ta ac _ _ cd3 op3 cm3 h3 (by omega) (by omega) hc3' (fun _ _ => ⟨rfl, rfl⟩) (fun j h1 h2 => ⟨(fr _ _ 0 j h1 h2).1, by rw [pk_un h2, pk_un h1]⟩) (fun j hj => by rw [hf3 j (by omega), hf1 j hj]) (Or.inr rfl) (fun _ => ?_)
      refine LW_2 (f0 := c) (g0 := c1) (f1 := c1) (g1 := c3) (L0 := L1) (L1 := L3) ?_ ?_ ?_ ⟨Nat.le_refl _, hc1, hc3⟩ ?_ pk_us pk_us ⟨hc1, hc3, Nat.le_refl _⟩ hL3
      · rw [hta]
        intro z
        rcases z with z | z
        · exact absurd ((nI_eq (a := a) (b := 0) (by omega) (by decide)).mp z) ha0
        · exact absurd ((nI_eq (a := a) (b := 4) (by omega) (by decide)).mp z) ha4
      · rw [pk_un (by omega)]; exact pk_us
      · rw [pk_un (by omega)]; exact pk_us
      · exact BR_congr (fun j _ hj => hf3 j (by omega)) hL1
  have k1 : (upd lf (2 * l) (nI c)) (2 * l + 1) = nI c := by rw [pk_un (by omega)]; exact e1
  have k2 : (upd lt (2 * l) (nI c1)) (2 * l + 1) = nI c := by rw [pk_un (by omega)]; exact e2
  have mk : ∀ ac' : Nat → Int32, ((ta l = 0 ∨ ta l = 4) → ∃ y : Nat, y < 6 ∧ ac' l = nI y) → LW ta ac' (upd lf (2 * l) (nI c)) (upd lt (2 * l) (nI c1)) cd1 l c c1 := fun ac' hx =>
    LW_2 (f0 := c) (g0 := c1) (f1 := c) (g1 := c) (L0 := L1) (L1 := []) hx pk_us pk_us ⟨Nat.le_refl _, hc1, Nat.le_refl _⟩ hL1 k1 k2 ⟨Nat.le_refl _, Nat.le_refl _, hc1⟩ (by rw [Nat.sub_self]; exact rfl)
  have fr2 : ∀ j, ¬ j = 2 * l → ¬ j = 2 * l + 1 → upd lf (2 * l) (nI c) j = lf j ∧ upd lt (2 * l) (nI c1) j = lt j := fun j h1 _ => ⟨pk_un h1, pk_un h1⟩
  have fail : ∀ (b2 q2 : Nat) (T2 : Int32) (w2 : Int64) (td2 wr2 : Int32) (ac' : Nat → Int32), RS n b2 q2 T2 td2 → b1 ≤ b2 → (∀ j, ¬ j = l → ac' j = ac j) → Φ 0 (nI q2) (nI b2) T2 w2 td2 wr2 (nI c1) ta ac' (upd lf (2 * l) (nI c)) (upd lt (2 * l) (nI c1)) cd1 op1 cm1 := fun b2 q2 T2 w2 td2 wr2 ac' h2 hb2 hac =>
    hΦ 0 b2 q2 T2 w2 td2 wr2 c1 ta ac' _ _ cd1 op1 cm1 h2 (by omega) hc1 (by omega) (fun j hj => ⟨rfl, hac j hj⟩) fr2 hf1 (Or.inl rfl) (fun z => (z0 z).elim)
  rw [m3]
  refine ⟨fun n3 => ⟨fun n5 => ⟨fun n4 => ?_, fun e4 => ?_⟩, fun e5 => ?_⟩, fun e3 => ?_⟩
  · refine hΦ 1 b1 q1 T1 w1 td1 wr1 c1 ta ac _ _ cd1 op1 cm1 h1 hb1 hc1 hc1' (fun _ _ => ⟨rfl, rfl⟩) fr2 hf1 (Or.inr rfl) (fun _ => mk ac (fun z => ?_))
    rw [hta] at z
    rcases z with z | z
    · exact h0 ((nI_eq (a := a) (b := 0) (by omega) (by decide)).mp z)
    · exact absurd z n4
  · refine sp_X8_needsWord h1 (fun r b2 q2 T2 w2 td2 wr2 h2 hb2 hr _ => ⟨fun _ => fail b2 q2 T2 w2 td2 wr2 ac h2 hb2 (fun _ _ => rfl), fun _ => ?_⟩)
    refine sp_X8_needsCell h2 hl hk hk6 (fun r b3 q3 T3 w3 td3 wr3 ac3 h3 hb3 hr3 hfr hy => ⟨fun _ => fail b3 q3 T3 w3 td3 wr3 ac3 h3 (by omega) hfr, fun hr1 => ?_⟩)
    have er : r = 1 := hr3.resolve_left hr1
    exact hΦ 1 b3 q3 T3 w3 td3 wr3 c1 ta ac3 _ _ cd1 op1 cm1 h3 (by omega) hc1 (by omega) (fun j hj => ⟨rfl, hfr j hj⟩) fr2 hf1 (Or.inr rfl) (fun _ => mk ac3 (fun _ => hy er))
  · refine sp_X8_needsWord h1 (fun r b2 q2 T2 w2 td2 wr2 h2 hb2 hr _ => ⟨fun _ => fail b2 q2 T2 w2 td2 wr2 ac h2 hb2 (fun _ _ => rfl), fun _ => second b2 q2 T2 w2 td2 wr2 h2 hb2 (fun e => ?_) (fun e => ?_)⟩)
    · rw [e] at e5; exact absurd e5 (by decide)
    · rw [e] at e5; exact absurd e5 (by decide)
  · refine sp_X8_needsWord h1 (fun r b2 q2 T2 w2 td2 wr2 h2 hb2 hr _ => ⟨fun _ => fail b2 q2 T2 w2 td2 wr2 ac h2 hb2 (fun _ _ => rfl), fun _ => second b2 q2 T2 w2 td2 wr2 h2 hb2 (fun e => ?_) (fun e => ?_)⟩)
    · rw [e] at e3; exact absurd e3 (by decide)
    · rw [e] at e3; exact absurd e3 (by decide)
theorem sp_X8_readsAct (h : RS n b q T td) (hl : l < 96) (hk : ce 1 = nI k) (hk6 : k ≤ 6) (hc : 1000 ≤ c) (hc2 : c ≤ 1000 + b) (hΦ : AP n b c l ta ac lf lt cd Φ) : wp_X8_readsAct (nI n) t ce cn (nI l) (nI q) (nI b) T w td wr (nI c) ta ac lf lt cd op cm Φ := by
  unfold wp_X8_readsAct
  have z0 : (0 : Int32) = 1 → False := by decide
  have m2 : (2 : Int32) * nI l = nI (2 * l) := pk_mul 2 l
  have m3 : nI (2 * l) + 1 = nI (2 * l + 1) := nI_1 _
  rw [m2, m3]
  refine sp_X8_actAt ⟨fun z => absurd z (by decide), fun _ => sp_X8_fails ⟨Or.inl rfl, hΦ 0 b q T w td _ c ta ac lf lt cd op cm h (Nat.le_refl _) (Nat.le_refl _) hc2 (fun _ _ => ⟨rfl, rfl⟩) (fun _ _ _ => ⟨rfl, rfl⟩) (fun _ _ => rfl) (Or.inl rfl) (fun z => (z0 z).elim)⟩⟩ (fun a ha6 eT => ⟨fun _ => ?_, fun z => absurd (nI_pos' (by omega)) z⟩)
  have i1 : vp_in (nI l) 96 := pk_in l 96 hl
  have i2 : vp_in (nI (2 * l)) 192 := pk_in (2 * l) 192 (by omega)
  have i3 : vp_in (nI (2 * l + 1)) 192 := pk_in (2 * l + 1) 192 (by omega)
  have hbq := h.2.1
  refine ⟨i1, i1, i2, i2, i3, i3, h.next (fun b1 q1 T1 w1 td1 h1 hb1 => ?_)⟩
  rw [nI_clamp (n := l) (by omega), nI_clamp (n := 2 * l) (by omega), nI_clamp (n := 2 * l + 1) (by omega)]
  have fr : ∀ (u v : Int32) (j : Nat), ¬ j = 2 * l → ¬ j = 2 * l + 1 → upd (upd lf (2 * l) u) (2 * l + 1) u j = lf j ∧ upd (upd lt (2 * l) v) (2 * l + 1) v j = lt j := fun u v j h1 h2 => ⟨by rw [pk_un h2, pk_un h1], by rw [pk_un h2, pk_un h1]⟩
  have up : ∀ (ac1 : Nat → Int32) (b2 : Nat), b ≤ b2 → (∀ j, ¬ j = l → ac1 j = ac j) → AP n b2 c l (upd ta l (nI a)) ac1 (upd (upd lf (2 * l) (nI c)) (2 * l + 1) (nI c)) (upd (upd lt (2 * l) (nI c)) (2 * l + 1) (nI c)) cd Φ := by
    intro ac1 b2 hb2 hac r b' q' T' w' td' wr' c' ta' ac' lf' lt' cd' op' cm' hR hb' hc' hc'' hta hlf hcd hr hLW
    exact hΦ r b' q' T' w' td' wr' c' ta' ac' lf' lt' cd' op' cm' hR (by omega) hc' hc'' (fun j hj => ⟨by rw [(hta j hj).1, pk_un hj], by rw [(hta j hj).2, hac j hj]⟩) (fun j h1 h2 => ⟨by rw [(hlf j h1 h2).1, (fr (nI c) (nI c) j h1 h2).1], by rw [(hlf j h1 h2).2, (fr (nI c) (nI c) j h1 h2).2]⟩) hcd hr hLW
  refine ⟨fun n6 => ⟨fun n0 => ?_, fun e0 => ?_⟩, fun e6 => ?_⟩
  · exact sp_rA107 h1 hl ha6 hk hk6 hc (by omega) pk_us (fun e => absurd (by rw [e]; rfl) n0) pk_us pk_us (up _ b1 (by omega) (fun j hj => pk_un hj))
  · have ea : a = 0 := (nI_eq (a := a) (b := 0) (by omega) (by decide)).mp e0
    refine sp_X8_needsCell h1 hl hk hk6 (fun r b2 q2 T2 w2 td2 wr2 ac2 h2 hb2 hr hfr hy => ⟨fun hr1 => ?_, fun _ => ?_⟩)
    · have er : r = 1 := hr.resolve_left hr1
      exact sp_rA107 h2 hl ha6 hk hk6 hc (by omega) pk_us (fun _ => hy er) pk_us pk_us (up ac2 b2 (by omega) (fun j hj => by rw [hfr j hj, pk_un hj]))
    · exact hΦ 0 b2 q2 T2 w2 td2 wr2 c _ ac2 _ _ cd op cm h2 (by omega) (Nat.le_refl _) (by omega) (fun j hj => ⟨pk_un hj, by rw [hfr j hj, pk_un hj]⟩) (fun j h1 h2 => fr _ _ j h1 h2) (fun _ _ => rfl) (Or.inl rfl) (fun z => (z0 z).elim)
  · refine hΦ 1 b1 q1 T1 w1 td1 wr c _ _ _ _ cd op cm h1 (by omega) (Nat.le_refl _) (by omega) (fun j hj => ⟨pk_un hj, pk_un hj⟩) (fun j h1 h2 => fr _ _ j h1 h2) (fun _ _ => rfl) (Or.inr rfl) (fun _ => ?_)
    refine LW_2 (f0 := c) (g0 := c) (f1 := c) (g1 := c) (L0 := []) (L1 := []) ?_ ?_ ?_ ⟨Nat.le_refl _, Nat.le_refl _, Nat.le_refl _⟩ (by rw [Nat.sub_self]; exact rfl) pk_us pk_us ⟨Nat.le_refl _, Nat.le_refl _, Nat.le_refl _⟩ (by rw [Nat.sub_self]; exact rfl)
    · rw [pk_us, e6]
      intro z
      rcases z with z | z <;> exact absurd z (by decide)
    · rw [pk_un (by omega)]; exact pk_us
    · rw [pk_un (by omega)]; exact pk_us
end RA
end
section
theorem LW_congr {ta ac lf lt cd ta' ac' lf' lt' cd' : Nat → Int32} {l lo hi hi' : Nat} (h : LW ta ac lf lt cd l lo hi) (h1 : ta' l = ta l) (h2 : ac' l = ac l) (h3 : ∀ w, w < 2 → lf' (2 * l + w) = lf (2 * l + w) ∧ lt' (2 * l + w) = lt (2 * l + w)) (h4 : ∀ j, lo ≤ j → j < hi → cd' j = cd j) (h5 : hi ≤ hi') : LW ta' ac' lf' lt' cd' l lo hi' := by
  refine ⟨fun z => ?_, fun w hw => ?_⟩
  · rw [h1] at z; rw [h2]; exact h.1 z
  · obtain ⟨f, g, L, a1, a2, a3, a4, a5, a6⟩ := h.2 w hw
    exact ⟨f, g, L, by rw [(h3 w hw).1]; exact a1, by rw [(h3 w hw).2]; exact a2, a3, a4, by omega, BR_congr (fun j b1 b2 => h4 j (by omega) (by omega)) a6⟩
/-- a programme of the reference (place p) as its rows hold it; its codes end at cap -/
def GP (p cap : Nat) (st ce ip ln le mo ta ac ls lf lt cd : Nat → Int32) : Prop :=
  (∃ s : Nat, s ≤ 4 ∧ st p = nI s) ∧ (∃ k : Nat, k ≤ 6 ∧ ce p = nI k) ∧ (∃ i : Nat, i ≤ 2 ∧ ip p = nI i ∧ ∀ j, j < i → ∃ a m : Nat, le (2 * p + j) = nI a ∧ mo (2 * p + j) = nI m ∧ a ≤ m ∧ m ≤ 9999) ∧ (∃ l : Nat, l ≤ 16 ∧ ln p = nI l ∧ ∀ j, j < l → (∃ x : Nat, x < 4 ∧ ls (16 * p + j) = nI x) ∧ LW ta ac lf lt cd (16 * p + j) (1000 * p) cap)
def cp (p c : Nat) : Nat := if p = 1 then c else 1000 * p + 1000
theorem cp1 (c : Nat) : cp 1 c = c := if_pos rfl
theorem cpn {p c : Nat} (h : ¬ p = 1) : cp p c = 1000 * p + 1000 := if_neg h
def GA (c : Nat) (st ce ip ln le mo ta ac ls lf lt cd : Nat → Int32) : Prop := ∀ p, p < 6 → GP p (cp p c) st ce ip ln le mo ta ac ls lf lt cd
section GAS
variable {c : Nat} {st ce ip ln le mo ta ac ls lf lt cd : Nat → Int32}
theorem GA.upSt (h : GA c st ce ip ln le mo ta ac ls lf lt cd) {s : Nat} (hs : s ≤ 4) : GA c (upd st 1 (nI s)) ce ip ln le mo ta ac ls lf lt cd := by
  intro p hp
  obtain ⟨h1, h2⟩ := h p hp
  refine ⟨?_, h2⟩
  by_cases e : p = 1
  · exact ⟨s, hs, by rw [e]; exact pk_us⟩
  · obtain ⟨s', a, b⟩ := h1; exact ⟨s', a, by rw [pk_un e]; exact b⟩
theorem GA.upCe (h : GA c st ce ip ln le mo ta ac ls lf lt cd) {s : Nat} (hs : s ≤ 6) : GA c st (upd ce 1 (nI s)) ip ln le mo ta ac ls lf lt cd := by
  intro p hp
  obtain ⟨h0, h1, h2⟩ := h p hp
  refine ⟨h0, ?_, h2⟩
  by_cases e : p = 1
  · exact ⟨s, hs, by rw [e]; exact pk_us⟩
  · obtain ⟨s', a, b⟩ := h1; exact ⟨s', a, by rw [pk_un e]; exact b⟩
theorem GA.upIp {ip' le' mo' : Nat → Int32} {i : Nat} (h : GA c st ce ip ln le mo ta ac ls lf lt cd) (hi : ip 1 = nI i) (hi2 : i ≤ 2) (hf : ∀ j, ¬ j = 2 + i → le' j = le j ∧ mo' j = mo j) (hx : ip' = ip ∨ (i < 2 ∧ ip' = upd ip 1 (nI (i + 1)) ∧ ∃ a m : Nat, le' (2 + i) = nI a ∧ mo' (2 + i) = nI m ∧ a ≤ m ∧ m ≤ 9999)) (hi3 : i < 2 ∨ (le' = le ∧ mo' = mo)) : GA c st ce ip' ln le' mo' ta ac ls lf lt cd := by
  intro p hp
  obtain ⟨h0, h1, ⟨i', a1, a2, a3⟩, h3⟩ := h p hp
  refine ⟨h0, h1, ?_, h3⟩
  have old : ∀ j, j < i' → ∃ a m : Nat, le' (2 * p + j) = nI a ∧ mo' (2 * p + j) = nI m ∧ a ≤ m ∧ m ≤ 9999 := by
    intro j hj
    obtain ⟨a, m, b1, b2, b3⟩ := a3 j hj
    rcases hi3 with hi3 | hi3
    · have hne : ¬ 2 * p + j = 2 + i := by
        intro e
        have ep : p = 1 := by omega
        subst ep
        have : i' = i := (nI_eq (by omega) (by omega)).mp (a2.symm.trans hi)
        omega
      exact ⟨a, m, by rw [(hf _ hne).1]; exact b1, by rw [(hf _ hne).2]; exact b2, b3⟩
    · rw [hi3.1, hi3.2]; exact ⟨a, m, b1, b2, b3⟩
  rcases hx with hx | ⟨hi1, hx, a, m, e1, e2, e3⟩
  · rw [hx]; exact ⟨i', a1, a2, old⟩
  · by_cases ep : p = 1
    · subst ep
      have : i' = i := (nI_eq (by omega) (by omega)).mp (a2.symm.trans hi)
      refine ⟨i + 1, by omega, by rw [hx]; exact pk_us, fun j hj => ?_⟩
      by_cases ej : j = i
      · exact ⟨a, m, by rw [ej]; exact e1, by rw [ej]; exact e2, e3⟩
      · exact old j (by omega)
    · exact ⟨i', a1, by rw [hx, pk_un ep]; exact a2, old⟩
/-- a line is being read -/
theorem GA.frame {c' l : Nat} {ta' ac' ls' lf' lt' cd' : Nat → Int32} (h : GA c st ce ip ln le mo ta ac ls lf lt cd) (hl : ln 1 = nI l) (hl6 : l < 16) (hc : 1000 ≤ c) (hc' : c ≤ c') (h1 : ∀ j, ¬ j = 16 + l → ta' j = ta j ∧ ac' j = ac j) (h2 : ∀ j, ¬ j = 16 + l → ls' j = ls j) (h3 : ∀ j, ¬ j = 2 * (16 + l) → ¬ j = 2 * (16 + l) + 1 → lf' j = lf j ∧ lt' j = lt j) (h4 : ∀ j, j < c ∨ 2000 ≤ j → cd' j = cd j) : GA c' st ce ip ln le mo ta' ac' ls' lf' lt' cd' := by
  intro p hp
  obtain ⟨g0, g1, g2, ⟨k, a1, a2, a3⟩⟩ := h p hp
  refine ⟨g0, g1, g2, k, a1, a2, fun j hj => ?_⟩
  obtain ⟨⟨x, x1, x2⟩, b2⟩ := a3 j hj
  have hne : ¬ 16 * p + j = 16 + l := by
    intro e
    have ep : p = 1 := by omega
    subst ep
    have : k = l := (nI_eq (by omega) (by omega)).mp (a2.symm.trans hl)
    omega
  refine ⟨⟨x, x1, by rw [h2 _ hne]; exact x2⟩, LW_congr b2 (h1 _ hne).1 (h1 _ hne).2 (fun w hw => h3 _ (by omega) (by omega)) (fun i i1 i2 => ?_) ?_⟩
  · by_cases ep : p = 1
    · subst ep; rw [cp1] at i2; exact h4 i (Or.inl i2)
    · rw [cpn ep] at i2
      apply h4
      omega
  · by_cases ep : p = 1
    · subst ep; rw [cp1, cp1]; exact hc'
    · rw [cpn ep, cpn ep]; exact Nat.le_refl _
theorem GA.line {l x : Nat} (h : GA c st ce ip ln le mo ta ac ls lf lt cd) (hl : ln 1 = nI l) (hl6 : l < 16) (hx : x < 4) (hs : ls (16 + l) = nI x) (hw : LW ta ac lf lt cd (16 + l) 1000 c) : GA c st ce ip (upd ln 1 (nI (l + 1))) le mo ta ac ls lf lt cd := by
  intro p hp
  obtain ⟨g0, g1, g2, ⟨k, a1, a2, a3⟩⟩ := h p hp
  refine ⟨g0, g1, g2, ?_⟩
  by_cases ep : p = 1
  · subst ep
    have e : k = l := (nI_eq (by omega) (by omega)).mp (a2.symm.trans hl)
    refine ⟨l + 1, by omega, pk_us, fun j hj => ?_⟩
    by_cases ej : j = l
    · subst ej; rw [cp1]; exact ⟨⟨x, hx, hs⟩, hw⟩
    · exact a3 j (by omega)
  · exact ⟨k, a1, by rw [pk_un ep]; exact a2, a3⟩
end GAS
section RL
variable {t : Nat → Int32} {n b q c s k l : Nat} {T td wr : Int32} {w : Int64} {st ce ip ln le mo ta ac ls tw lf lt cd op cm : Nat → Int32} {sn cn : Nat → Int64}
abbrev PL_ : Type := Int32 → Int32 → Int32 → Int32 → Int64 → Int32 → Int32 → Int32 → (Nat → Int32) → (Nat → Int32) → (Nat → Int32) → (Nat → Int32) → (Nat → Int32) → (Nat → Int32) → (Nat → Int32) → (Nat → Int32) → (Nat → Int32) → (Nat → Int32) → Prop
variable {Φ : PL_}
theorem sp_X8_readsLine (h : RS n b q T td) (hc : 1000 ≤ c) (hc2 : c ≤ 1000 + b) (hG : GA c st ce ip ln le mo ta ac ls lf lt cd) (hs : st 1 = nI s) (hs4 : s ≤ 4) (hk : ce 1 = nI k) (hk6 : k ≤ 6) (hl : ln 1 = nI l) (hl6 : l ≤ 16)
    (hΦ : ∀ r b' q' T' w' td' wr' c' ln' ta' ac' ls' tw' lf' lt' cd' op' cm', RS n b' q' T' td' → b ≤ b' → (r = 0 ∨ r = 1) → (r = 1 → b < b') → 1000 ≤ c' → c' ≤ 1000 + b' → GA c' st ce ip ln' le mo ta' ac' ls' lf' lt' cd' → (∀ p, ¬ p = 1 → ln' p = ln p) → Φ r (nI q') (nI b') T' w' td' wr' (nI c') ln' ta' ac' ls' tw' lf' lt' cd' op' cm') : wp_X8_readsLine (nI n) t st ce sn cn (nI q) (nI b) T w td wr (nI c) ln ta ac ls tw lf lt cd op cm Φ := by
  unfold wp_X8_readsLine
  have z0 : (0 : Int32) = 1 → False := by decide
  refine ⟨fun hne => ?_, fun _ => sp_X8_fails ⟨Or.inl rfl, hΦ 0 b q T w td _ c ln ta ac ls tw lf lt cd op cm h (Nat.le_refl _) (Or.inl rfl) (fun z => (z0 z).elim) hc hc2 hG (fun _ _ => rfl)⟩⟩
  have hl1 : l < 16 := Nat.lt_of_le_of_ne hl6 (fun e => hne (by rw [hl, e]; rfl))
  have hbq := h.2.1
  refine h.next (fun b1 q1 T1 w1 td1 h1 hb1 => ?_)
  refine sp_X8_isKept ⟨fun z => absurd z (by decide), fun _ => sp_X8_fails ⟨Or.inl rfl, hΦ 0 b1 q1 T1 w1 td1 _ c ln ta ac ls tw lf lt cd op cm h1 (by omega) (Or.inl rfl) (fun z => (z0 z).elim) hc (by omega) hG (fun _ _ => rfl)⟩⟩ (fun eT => ⟨fun _ => ?_, fun z => absurd rfl z⟩)
  have hlt := h1.lt (by rw [eT]; decide)
  have e2 : (16 : Int32) + nI l = nI (16 + l) := nI_add 16 l
  have hin : vp_in (nI (16 + l)) 96 := pk_in (16 + l) 96 (by omega)
  have ecl : (nI (16 + l)).toNatClampNeg = 16 + l := nI_clamp (by omega)
  rw [hl, e2]
  refine sp_X8_stuffOf hs hs4 ⟨hin, hin, hin, fun z => ?_, fun _ => ?_⟩ (fun x hx _ => ⟨hin, hin, hin, fun _ => ?_, fun z => ?_⟩)
  · rw [pk_us] at z; exact absurd z (by decide)
  · refine sp_X8_fails ⟨Or.inl rfl, hΦ 0 b1 q1 T1 w1 td1 _ c ln ta ac _ _ lf lt cd op cm h1 (by omega) (Or.inl rfl) (fun z => (z0 z).elim) hc (by omega) ?_ (fun _ _ => rfl)⟩
    rw [ecl]
    exact hG.frame hl hl1 hc (Nat.le_refl _) (fun _ _ => ⟨rfl, rfl⟩) (fun j hj => pk_un hj) (fun _ _ _ => ⟨rfl, rfl⟩) (fun _ _ => rfl)
  · rw [ecl]
    refine h1.next (fun b2 q2 T2 w2 td2 h2 hb2 => ?_)
    refine sp_X8_readsAct h2 (by omega) hk hk6 hc (by omega) (fun r b3 q3 T3 w3 td3 wr3 c3 ta3 ac3 lf3 lt3 cd3 op3 cm3 h3 hb3 hc3 hc3' hta hlf hcd hr hLW => ?_)
    have hG3 : GA c3 st ce ip ln le mo ta3 ac3 (upd ls (16 + l) (nI x)) lf3 lt3 cd3 := hG.frame hl hl1 hc hc3 hta (fun j hj => pk_un hj) hlf hcd
    refine ⟨fun hr1 => ?_, fun _ => hΦ 0 b3 q3 T3 w3 td3 wr3 c3 ln ta3 ac3 _ _ lf3 lt3 cd3 op3 cm3 h3 (by omega) (Or.inl rfl) (fun z => (z0 z).elim) (by omega) hc3' hG3 (fun _ _ => rfl)⟩
    have er : r = 1 := hr.resolve_left hr1
    refine sp_X8_ends h3 (fun r4 b4 q4 T4 w4 td4 wr4 h4 hb4 hr4 _ => ⟨hr4, ?_⟩)
    rw [nI_1]
    refine hΦ r4 b4 q4 T4 w4 td4 wr4 c3 _ ta3 ac3 _ _ lf3 lt3 cd3 op3 cm3 h4 (by omega) hr4 (fun _ => by omega) (by omega) (by omega) (hG3.line hl hl1 (by omega : x < 4) pk_us ?_) (fun p hp => pk_un hp)
    exact LW_congr (hi := c3) (lo := 1000) (by
      obtain ⟨u1, u2⟩ := hLW er
      refine ⟨u1, fun w hw => ?_⟩
      obtain ⟨f, g, L, a1, a2, a3, a4, a5, a6⟩ := u2 w hw
      exact ⟨f, g, L, a1, a2, by omega, a4, a5, a6⟩) rfl rfl (fun _ _ => ⟨rfl, rfl⟩) (fun _ _ _ => rfl) (Nat.le_refl _)
  · rw [pk_us] at z; exact absurd (nI_pos' (by omega)) z
end RL
end
