theorem dX8_within_0 : decode cX8_within 0 = .ok (.iload_n 0, 1) := by decide +kernel
theorem dX8_within_1 : decode cX8_within 1 = .ok (.iload_n 1, 1) := by decide +kernel
theorem dX8_within_2 : decode cX8_within 2 = .ok (.if_icmp .lt 12, 3) := by decide +kernel
theorem dX8_within_14 : decode cX8_within 14 = .ok (.iconst 0, 1) := by decide +kernel
theorem dX8_within_5 : decode cX8_within 5 = .ok (.iload_n 0, 1) := by decide +kernel
theorem dX8_within_6 : decode cX8_within 6 = .ok (.iload_n 2, 1) := by decide +kernel
theorem dX8_within_7 : decode cX8_within 7 = .ok (.if_icmp .gt 7, 3) := by decide +kernel
theorem dX8_within_10 : decode cX8_within 10 = .ok (.iconst 1, 1) := by decide +kernel
theorem dX8_within_11 : decode cX8_within 11 = .ok (.goto 4, 3) := by decide +kernel
theorem dX8_within_15 : decode cX8_within 15 = .ok (.ireturn, 1) := by decide +kernel
theorem dX8_feed_93 : decode cX8_feed 93 = .ok (.aload_n 0, 1) := by decide +kernel
theorem dX8_feed_94 : decode cX8_feed 94 = .ok (.getfield 7, 3) := by decide +kernel
theorem dX8_feed_97 : decode cX8_feed 97 = .ok (.aload_n 0, 1) := by decide +kernel
theorem dX8_feed_98 : decode cX8_feed 98 = .ok (.getfield 159, 3) := by decide +kernel
theorem dX8_feed_101 : decode cX8_feed 101 = .ok (.iload 10, 2) := by decide +kernel
theorem dX8_feed_103 : decode cX8_feed 103 = .ok (.iastore, 1) := by decide +kernel
theorem dX8_feed_104 : decode cX8_feed 104 = .ok (.aload_n 0, 1) := by decide +kernel
theorem dX8_feed_105 : decode cX8_feed 105 = .ok (.dup, 1) := by decide +kernel
theorem dX8_feed_106 : decode cX8_feed 106 = .ok (.getfield 159, 3) := by decide +kernel
theorem dX8_feed_109 : decode cX8_feed 109 = .ok (.iconst 1, 1) := by decide +kernel
theorem dX8_feed_110 : decode cX8_feed 110 = .ok (.iadd, 1) := by decide +kernel
theorem dX8_feed_111 : decode cX8_feed 111 = .ok (.putfield 159, 3) := by decide +kernel
theorem dX8_feed_114 : decode cX8_feed 114 = .ok (.iinc 7 1, 3) := by decide +kernel
theorem dX8_feed_117 : decode cX8_feed 117 = .ok (.goto (-109), 3) := by decide +kernel
theorem dX8_feed_39 : decode cX8_feed 39 = .ok (.lstore 8, 2) := by decide +kernel
theorem dX8_feed_41 : decode cX8_feed 41 = .ok (.lload 8, 2) := by decide +kernel
theorem dX8_feed_43 : decode cX8_feed 43 = .ok (.bipush 56, 2) := by decide +kernel
theorem dX8_feed_45 : decode cX8_feed 45 = .ok (.bipush 8, 2) := by decide +kernel
theorem dX8_feed_47 : decode cX8_feed 47 = .ok (.iload 7, 2) := by decide +kernel
theorem dX8_feed_49 : decode cX8_feed 49 = .ok (.bipush 7, 2) := by decide +kernel
theorem dX8_feed_51 : decode cX8_feed 51 = .ok (.iand, 1) := by decide +kernel
theorem dX8_feed_52 : decode cX8_feed 52 = .ok (.imul, 1) := by decide +kernel
theorem dX8_feed_53 : decode cX8_feed 53 = .ok (.isub, 1) := by decide +kernel
theorem dX8_feed_54 : decode cX8_feed 54 = .ok (.lushr, 1) := by decide +kernel
theorem dX8_feed_55 : decode cX8_feed 55 = .ok (.ldc2_w 157, 3) := by decide +kernel
theorem dX8_feed_58 : decode cX8_feed 58 = .ok (.land, 1) := by decide +kernel
theorem dX8_feed_59 : decode cX8_feed 59 = .ok (.l2i, 1) := by decide +kernel
theorem dX8_feed_60 : decode cX8_feed 60 = .ok (.istore 10, 2) := by decide +kernel
theorem dX8_feed_62 : decode cX8_feed 62 = .ok (.aload_n 0, 1) := by decide +kernel
theorem dX8_feed_63 : decode cX8_feed 63 = .ok (.getfield 159, 3) := by decide +kernel
theorem dX8_feed_66 : decode cX8_feed 66 = .ok (.sipush 1000, 3) := by decide +kernel
theorem dX8_feed_69 : decode cX8_feed 69 = .ok (.if_icmp .ge 45, 3) := by decide +kernel
theorem dX8_feed_72 : decode cX8_feed 72 = .ok (.iload 10, 2) := by decide +kernel
theorem dX8_feed_74 : decode cX8_feed 74 = .ok (.bipush 10, 2) := by decide +kernel
theorem dX8_feed_76 : decode cX8_feed 76 = .ok (.if_icmp .eq 17, 3) := by decide +kernel
theorem dX8_feed_79 : decode cX8_feed 79 = .ok (.iload 10, 2) := by decide +kernel
theorem dX8_feed_81 : decode cX8_feed 81 = .ok (.bipush 32, 2) := by decide +kernel
theorem dX8_feed_83 : decode cX8_feed 83 = .ok (.if_icmp .lt 31, 3) := by decide +kernel
theorem dX8_feed_86 : decode cX8_feed 86 = .ok (.iload 10, 2) := by decide +kernel
theorem dX8_feed_88 : decode cX8_feed 88 = .ok (.bipush 126, 2) := by decide +kernel
theorem dX8_feed_90 : decode cX8_feed 90 = .ok (.if_icmp .gt 24, 3) := by decide +kernel
theorem dX8_feed_8 : decode cX8_feed 8 = .ok (.iload 7, 2) := by decide +kernel
theorem dX8_feed_10 : decode cX8_feed 10 = .ok (.bipush 24, 2) := by decide +kernel
theorem dX8_feed_12 : decode cX8_feed 12 = .ok (.if_icmp .ge 108, 3) := by decide +kernel
theorem dX8_feed_120 : decode cX8_feed 120 = .ok (.aload_n 0, 1) := by decide +kernel
theorem dX8_feed_121 : decode cX8_feed 121 = .ok (.getfield 159, 3) := by decide +kernel
theorem dX8_feed_15 : decode cX8_feed 15 = .ok (.iload 7, 2) := by decide +kernel
theorem dX8_feed_17 : decode cX8_feed 17 = .ok (.bipush 8, 2) := by decide +kernel
theorem dX8_feed_19 : decode cX8_feed 19 = .ok (.if_icmp .ge 7, 3) := by decide +kernel
theorem dX8_feed_26 : decode cX8_feed 26 = .ok (.iload 7, 2) := by decide +kernel
theorem dX8_feed_28 : decode cX8_feed 28 = .ok (.bipush 16, 2) := by decide +kernel
theorem dX8_feed_30 : decode cX8_feed 30 = .ok (.if_icmp .ge 7, 3) := by decide +kernel
theorem dX8_feed_37 : decode cX8_feed 37 = .ok (.lload 5, 2) := by decide +kernel
theorem dX8_feed_33 : decode cX8_feed 33 = .ok (.lload_n 3, 1) := by decide +kernel
theorem dX8_feed_34 : decode cX8_feed 34 = .ok (.goto 5, 3) := by decide +kernel
theorem dX8_feed_22 : decode cX8_feed 22 = .ok (.lload_n 1, 1) := by decide +kernel
theorem dX8_feed_23 : decode cX8_feed 23 = .ok (.goto 16, 3) := by decide +kernel
theorem dX8_feed_0 : decode cX8_feed 0 = .ok (.aload_n 0, 1) := by decide +kernel
theorem dX8_feed_1 : decode cX8_feed 1 = .ok (.iconst 0, 1) := by decide +kernel
theorem dX8_feed_2 : decode cX8_feed 2 = .ok (.putfield 153, 3) := by decide +kernel
theorem dX8_feed_5 : decode cX8_feed 5 = .ok (.iconst 0, 1) := by decide +kernel
theorem dX8_feed_6 : decode cX8_feed 6 = .ok (.istore 7, 2) := by decide +kernel
theorem dX8_feed_124 : decode cX8_feed 124 = .ok (.ireturn, 1) := by decide +kernel
theorem dX8_signAt_0 : decode cX8_signAt 0 = .ok (.iload_n 1, 1) := by decide +kernel
theorem dX8_signAt_1 : decode cX8_signAt 1 = .ok (.aload_n 0, 1) := by decide +kernel
theorem dX8_signAt_2 : decode cX8_signAt 2 = .ok (.getfield 162, 3) := by decide +kernel
theorem dX8_signAt_5 : decode cX8_signAt 5 = .ok (.if_icmp .ge 12, 3) := by decide +kernel
theorem dX8_signAt_17 : decode cX8_signAt 17 = .ok (.iconst 0, 1) := by decide +kernel
theorem dX8_signAt_8 : decode cX8_signAt 8 = .ok (.aload_n 0, 1) := by decide +kernel
theorem dX8_signAt_9 : decode cX8_signAt 9 = .ok (.getfield 7, 3) := by decide +kernel
theorem dX8_signAt_12 : decode cX8_signAt 12 = .ok (.iload_n 1, 1) := by decide +kernel
theorem dX8_signAt_13 : decode cX8_signAt 13 = .ok (.iaload, 1) := by decide +kernel
theorem dX8_signAt_14 : decode cX8_signAt 14 = .ok (.goto 4, 3) := by decide +kernel
theorem dX8_signAt_18 : decode cX8_signAt 18 = .ok (.ireturn, 1) := by decide +kernel
def mob (am : Nat → Nat) (x0 : Int32) (x1 : Int32) (x3 : Int32) (x4 : Int32) (x5 : Int32) (x6 : Int32) (x7 : Int64) (x8 : Int32) (x9 : Int32) (x29 : Int32) (x42 : Int32) (x43 : Int32) (x44 : Int32) (x45 : Int32) (x46 : Int32) (x49 : Int32) (x53 : Int32) (x54 : Int32) (x55 : Int32) (x56 : Int32) (x57 : Int32) (x68 : Int32) : List Value := [.int x0, .int x1, .ref (am 0), .int x3, .int x4, .int x5, .int x6, .long x7, .int x8, .int x9, .ref (am 1), .ref (am 2), .ref (am 3), .ref (am 4), .ref (am 5), .ref (am 6), .ref (am 7), .ref (am 8), .ref (am 9), .ref (am 10), .ref (am 11), .ref (am 12), .ref (am 13), .ref (am 14), .ref (am 15), .ref (am 16), .ref (am 17), .ref (am 18), .ref (am 19), .int x29, .ref (am 20), .ref (am 21), .ref (am 22), .ref (am 23), .ref (am 24), .ref (am 25), .ref (am 26), .ref (am 27), .ref (am 28), .ref (am 29), .ref (am 30), .ref (am 31), .int x42, .int x43, .int x44, .int x45, .int x46, .ref (am 32), .ref (am 33), .int x49, .ref (am 34), .ref (am 35), .ref (am 36), .int x53, .int x54, .int x55, .int x56, .int x57, .ref (am 37), .ref (am 38), .ref (am 39), .ref (am 40), .ref (am 41), .ref (am 42), .ref (am 43), .ref (am 44), .ref (am 45), .ref (am 46), .int x68]

def wp_X8_within (v : Int32) (lo : Int32) (hi : Int32)  (Φ : Int32 → Prop) : Prop := (v < lo → Φ 0 ) ∧ (¬ v < lo → (hi < v → Φ 0 ) ∧ (¬ hi < v → Φ 1 ))
set_option maxHeartbeats 4000000 in
set_option maxRecDepth 100000 in
theorem kj_X8_within_e {p : Program} {l : Launch} {e : Env} {R : Room} {s : State} {m : MethodId} {args : Array Value} {below : List Frame} {meth : Method} {c : Code} {cells slots : Nat} {Q : State → Prop} {A : Nat → Prop} {D : va_G} {ak : Nat → ClassId} {ad : Nat → Nat} (hx : p.tables.exec = Jvm.exec) (hb : c.code = cX8_within) (hown : s.vm.findClass RX8 = some m.cls) (hts : ∀ w ∈ wsX8_within, w.before args s = true) (hml : c.maxLocals = 3) (hE : EV D ak s) (hT : ST D ak ad A s s.heap) (hA : ∀ q, s.heap.size ≤ q → A q) (v : Int32) (lo : Int32) (hi : Int32)  (Φ : Int32 → Prop)
    (kR15 : ∀ (r : Int32)  (H : Heap) (locs : List Loc) (ls : Array Slot), (r = 0 ∨ r = 1) → Φ r  → va_P D vwCl [] H → va_D A [] → va_S A s.heap H locs → W p l e R s m args below meth c H locs cells slots Q (F0 m 15 ls [.int r]))
    : ∀  (H : Heap) (locs : List Loc) (ls : Array Slot), wp_X8_within v lo hi  Φ → va_P D vwCl [] H → va_D A [] → va_S A s.heap H locs → lv_has ls 3 [(0, .int (v)), (1, .int (lo)), (2, .int (hi))] → W p l e R s m args below meth c H locs cells slots Q (F0 m 0 ls ([])) := by
  intro  H locs ls hw hP hD hS hl
  delta wp_X8_within at hw
  refine lv_iload_n hx hb dX8_within_0 rfl (lv_at hl 0 rfl) ?_
  refine lv_iload_n hx hb dX8_within_1 rfl (lv_at hl 1 rfl) ?_
  refine lv_icmp_lt (tgt := 14) hx hb dX8_within_2 (by decide) (fun c_1 => ?_) (fun c_1 => ?_)
  · replace hw := hw.1 c_1
    refine lv_iconst (v := 0) hx hb dX8_within_14 (by decide) ?_
    exact kR15 0  _ _ _ (Or.inl rfl) hw hP hD hS
  · replace hw := hw.2 c_1
    refine lv_iload_n hx hb dX8_within_5 rfl (lv_at hl 0 rfl) ?_
    refine lv_iload_n hx hb dX8_within_6 rfl (lv_at hl 2 rfl) ?_
    refine lv_icmp_gt (tgt := 14) hx hb dX8_within_7 (by decide) (fun c_2 => ?_) (fun c_2 => ?_)
    · replace hw := hw.1 c_2
      refine lv_iconst (v := 0) hx hb dX8_within_14 (by decide) ?_
      exact kR15 0  _ _ _ (Or.inl rfl) hw hP hD hS
    · replace hw := hw.2 c_2
      refine lv_iconst (v := 1) hx hb dX8_within_10 (by decide) ?_
      refine lv_goto (tgt := 15) hx hb dX8_within_11 (by decide) ?_
      exact kR15 1  _ _ _ (Or.inr rfl) hw hP hD hS
set_option maxHeartbeats 4000000 in
set_option maxRecDepth 100000 in
theorem c_X8_within (l : Launch) (D : va_G) (ak : Nat → ClassId) (ad : Nat → Nat) (sz : Nat) (v : Int32) (lo : Int32) (hi : Int32) (Φ : Int32 → Prop) (hf : wp_X8_within v lo hi Φ) : Met l yX8_within wsX8_within ({ frames := 0, cells := 0, slots := 0, locals := 0 }) (cPre D ak ad [.int (v), .int (lo), .int (hi)] ([]) sz) (cI D (S := Unit) (fun (r : Int32) (u : Unit) => Φ r ) (fun u => []) ([]) sz) 0 0 (va_A ([]) sz) := by
  refine Met.ofW (cc := cX8_within) (maxL := 3) (ret := (some .boolean)) (by decide) rfl ?_
  intro p e s m args below meth c s₁ B hml hv
  obtain ⟨rfl, hsz, hP, hE, hD0, hT⟩ := hv
  have hx := B.exec
  have hb := B.bytes
  have hr := B.returns
  have hts := atoms_spec (ws := wsX8_within) B.pre
  have hown : s.vm.findClass RX8 = some m.cls := findClass_of_methodNamed B.named
  have hlocks := B.notSynchronized
  subst hsz
  have hD := hD0.self (sz := s.heap.size)
  generalize hAe : va_A ([]) s.heap.size = A at hD hT ⊢
  have hA : ∀ q : Nat, s.heap.size ≤ q → A q := fun q h => by rw [← hAe]; exact Or.inr h
  have hS : va_S A s.heap s.heap [] := va_S.rf
  have hl := lv_entry ([.int (v), .int (lo), .int (hi)]) (n := 3) (Nat.le_of_ble_eq_true rfl)
  rw [lg_entry_eq]
  generalize (lg_sl ([.int (v), .int (lo), .int (hi)]) ++ List.replicate (3 - (lg_sl ([.int (v), .int (lo), .int (hi)])).length) Slot.unset).toArray = ls at hl ⊢
  have hl : lv_has ls 3 [(0, .int (v)), (1, .int (lo)), (2, .int (hi))] := hl
  exact kj_X8_within_e hx hb hown hts hml hE hT hA v lo hi Φ (fun r  H locs ls hz hw hP hD hS => W.zret (v := r) hx hb hr (bl_zn hz) (fun t ht hW => ⟨⟨r, (), rfl, hw, by rw [ht]; exact hP, by rw [hAe]; exact hD⟩, by rw [hAe]; exact hS.F ht⟩) hS.2.2 dX8_within_15)  _ _ _ hf hP hD hS hl

def wW_X8_feed (ak : Nat → ClassId) (ad : Nat → Nat) (h : Nat) (am : Nat → Nat) (Fthrown : Int32) (Ftaped : Int32) (Fsize : Int32) (Fplace : Int32) (Fbegin : Int32) (Ftoken : Int32) (Fword : Int64) (Ftold : Int32) (Fwrong : Int32) (Fcode : Int32) (Fat : Int32) (Fway : Int32) (Fnext : Int32) (FisEnd : Int32) (FisFallen : Int32) (Fwritten : Int32) (Fmade : Int32) (Fstate : Int32) (FhandNext : Int32) (FhandSteps : Int32) (FhandWritten : Int32) (FmarkAt : Int32) (Atape : Nat → Int32) : va_W := [(h, .inr (7, mob am (Fthrown) (Ftaped) (Fsize) (Fplace) (Fbegin) (Ftoken) (Fword) (Ftold) (Fwrong) (Fcode) (Fat) (Fway) (Fnext) (FisEnd) (FisFallen) (Fwritten) (Fmade) (Fstate) (FhandNext) (FhandSteps) (FhandWritten) (FmarkAt))), ((am 0), .inl (ak 0, 1000, .inl (Atape)))]
def kf_X8_feed_93 (xa : Int64) (xb : Int64) (xc : Int64) (κ8 : Int32 → Int32 → (Nat → Int32) → Int32 → Prop) (Φ : Int32 → Int32 → Int32 → (Nat → Int32) → Prop) (Fthrown : Int32) (Ftaped : Int32) (Atape : Nat → Int32) (l7 : Int32) (l10 : Int32) : Prop := vp_in Ftaped 1000 ∧ κ8 Fthrown (Ftaped + 1) (upd Atape (Ftaped).toNatClampNeg l10) (l7 + 1)
set_option maxHeartbeats 4000000 in
set_option maxRecDepth 100000 in
theorem kj_X8_feed_93 {p : Program} {l : Launch} {e : Env} {R : Room} {s : State} {m : MethodId} {args : Array Value} {below : List Frame} {meth : Method} {c : Code} {cells slots : Nat} {Q : State → Prop} {A : Nat → Prop} {D : va_G} {ak : Nat → ClassId} {ad : Nat → Nat} (hx : p.tables.exec = Jvm.exec) (hb : c.code = cX8_feed) (hown : s.vm.findClass RX8 = some m.cls) (hts : ∀ w ∈ wsX8_feed, w.before args s = true) (hml : c.maxLocals = 11) (hE : EV D ak s) (hT : ST D ak ad A s s.heap) (hA : ∀ q, s.heap.size ≤ q → A q) (h : Nat) (am : Nat → Nat) (Fsize : Int32) (Fplace : Int32) (Fbegin : Int32) (Ftoken : Int32) (Fword : Int64) (Ftold : Int32) (Fwrong : Int32) (Fcode : Int32) (Fat : Int32) (Fway : Int32) (Fnext : Int32) (FisEnd : Int32) (FisFallen : Int32) (Fwritten : Int32) (Fmade : Int32) (Fstate : Int32) (FhandNext : Int32) (FhandSteps : Int32) (FhandWritten : Int32) (FmarkAt : Int32) (xa : Int64) (xb : Int64) (xc : Int64) (κ8 : Int32 → Int32 → (Nat → Int32) → Int32 → Prop) (Φ : Int32 → Int32 → Int32 → (Nat → Int32) → Prop)
    (kk8 : ∀ (Fthrown : Int32) (Ftaped : Int32) (Atape : Nat → Int32) (l7 : Int32) (H : Heap) (locs : List Loc) (ls : Array Slot), κ8 Fthrown Ftaped Atape l7 → va_P D vwCl (wW_X8_feed ak ad h am Fthrown Ftaped Fsize Fplace Fbegin Ftoken Fword Ftold Fwrong Fcode Fat Fway Fnext FisEnd FisFallen Fwritten Fmade Fstate FhandNext FhandSteps FhandWritten FmarkAt Atape) H → va_D A (wW_X8_feed ak ad h am Fthrown Ftaped Fsize Fplace Fbegin Ftoken Fword Ftold Fwrong Fcode Fat Fway Fnext FisEnd FisFallen Fwritten Fmade Fstate FhandNext FhandSteps FhandWritten FmarkAt Atape) → va_S A s.heap H locs → lv_has ls 11 [(0, .ref h), (1, .long (xa)), (3, .long (xb)), (5, .long (xc)), (7, .int (l7))] → W p l e R s m args below meth c H locs cells slots Q (F0 m 8 ls ([])))
    (kR124 : ∀ (r : Int32) (Fthrown : Int32) (Ftaped : Int32) (Atape : Nat → Int32) (H : Heap) (locs : List Loc) (ls : Array Slot), Φ r Fthrown Ftaped Atape → va_P D vwCl (wW_X8_feed ak ad h am Fthrown Ftaped Fsize Fplace Fbegin Ftoken Fword Ftold Fwrong Fcode Fat Fway Fnext FisEnd FisFallen Fwritten Fmade Fstate FhandNext FhandSteps FhandWritten FmarkAt Atape) H → va_D A (wW_X8_feed ak ad h am Fthrown Ftaped Fsize Fplace Fbegin Ftoken Fword Ftold Fwrong Fcode Fat Fway Fnext FisEnd FisFallen Fwritten Fmade Fstate FhandNext FhandSteps FhandWritten FmarkAt Atape) → va_S A s.heap H locs → W p l e R s m args below meth c H locs cells slots Q (F0 m 124 ls [.int r]))
    : ∀ (Fthrown : Int32) (Ftaped : Int32) (Atape : Nat → Int32) (l7 : Int32) (l10 : Int32) (H : Heap) (locs : List Loc) (ls : Array Slot), kf_X8_feed_93 xa xb xc κ8 Φ Fthrown Ftaped Atape l7 l10 → va_P D vwCl (wW_X8_feed ak ad h am Fthrown Ftaped Fsize Fplace Fbegin Ftoken Fword Ftold Fwrong Fcode Fat Fway Fnext FisEnd FisFallen Fwritten Fmade Fstate FhandNext FhandSteps FhandWritten FmarkAt Atape) H → va_D A (wW_X8_feed ak ad h am Fthrown Ftaped Fsize Fplace Fbegin Ftoken Fword Ftold Fwrong Fcode Fat Fway Fnext FisEnd FisFallen Fwritten Fmade Fstate FhandNext FhandSteps FhandWritten FmarkAt Atape) → va_S A s.heap H locs → lv_has ls 11 [(0, .ref h), (1, .long (xa)), (3, .long (xb)), (5, .long (xc)), (7, .int (l7)), (10, .int (l10))] → W p l e R s m args below meth c H locs cells slots Q (F0 m 93 ls ([])) := by
  intro Fthrown Ftaped Atape l7 l10 H locs ls hw hP hD hS hl
  delta kf_X8_feed_93 at hw
  refine lv_aload_n hx hb dX8_feed_93 rfl (lv_at hl 0 rfl) ?_
  refine va_get (D := D) (ci := 7) (v := .ref (am 0)) (C := RX8) (T := TX8) (N := 69) hx hb hts (fun w h => wm_c (wc_X8 w h)) hown hE.1 hP 0 rfl rfl 2 (by decide) (hts (.fieldLink RX8 7 "WornLinesModel" "tape" "[I") (wm_c hw_0)) (fun _ h9 => h9) rfl dX8_feed_94 ?_
  refine lv_aload_n hx hb dX8_feed_97 rfl (lv_at hl 0 rfl) ?_
  refine va_get (D := D) (ci := 7) (v := .int (Ftaped)) (C := RX8) (T := TX8) (N := 69) hx hb hts (fun w h => wm_c (wc_X8 w h)) hown hE.1 hP 0 rfl rfl 1 (by decide) (hts (.fieldLink RX8 159 "WornLinesModel" "taped" "I") (wm_c hw_1)) (fun _ h9 => h9) rfl dX8_feed_98 ?_
  refine lv_iload hx hb dX8_feed_101 (lv_at hl 5 rfl) ?_
  obtain ⟨h_6, hw⟩ := hw
  refine va_iast hx hb hE.1 hP hD hS 1 0 rfl rfl (h_6) dX8_feed_103 (fun H locs hP hD hS => ?_)
  have hP : va_P D vwCl (wW_X8_feed ak ad h am Fthrown Ftaped Fsize Fplace Fbegin Ftoken Fword Ftold Fwrong Fcode Fat Fway Fnext FisEnd FisFallen Fwritten Fmade Fstate FhandNext FhandSteps FhandWritten FmarkAt (upd Atape (Ftaped).toNatClampNeg l10)) H := hP
  have hD : va_D A (wW_X8_feed ak ad h am Fthrown Ftaped Fsize Fplace Fbegin Ftoken Fword Ftold Fwrong Fcode Fat Fway Fnext FisEnd FisFallen Fwritten Fmade Fstate FhandNext FhandSteps FhandWritten FmarkAt (upd Atape (Ftaped).toNatClampNeg l10)) := hD
  refine lv_aload_n hx hb dX8_feed_104 rfl (lv_at hl 0 rfl) ?_
  refine lv_dup hx hb dX8_feed_105 rfl ?_
  refine va_get (D := D) (ci := 7) (v := .int (Ftaped)) (C := RX8) (T := TX8) (N := 69) hx hb hts (fun w h => wm_c (wc_X8 w h)) hown hE.1 hP 0 rfl rfl 1 (by decide) (hts (.fieldLink RX8 159 "WornLinesModel" "taped" "I") (wm_c hw_1)) (fun _ h9 => h9) rfl dX8_feed_106 ?_
  refine lv_iconst (v := 1) hx hb dX8_feed_109 (by decide) ?_
  refine lv_iadd hx hb dX8_feed_110 ?_
  refine va_put (D := D) (ci := 7) (v := .int (Ftaped + 1)) (ty := .int) (C := RX8) (T := TX8) (N := 69) hx hb hts (fun w h => wm_c (wc_X8 w h)) tyX8 tyX8_ok nmX8 hown hE.1 hP hD hS 0 rfl rfl 1 (by decide) (hts (.fieldLink RX8 159 "WornLinesModel" "taped" "I") (wm_c hw_1)) (fun _ h9 => h9) rfl (by decide +kernel) (rfl) rfl (Nat.le_of_ble_eq_true rfl) dX8_feed_111 (fun H locs hP hD hS => ?_)
  have hP : va_P D vwCl (wW_X8_feed ak ad h am Fthrown (Ftaped + 1) Fsize Fplace Fbegin Ftoken Fword Ftold Fwrong Fcode Fat Fway Fnext FisEnd FisFallen Fwritten Fmade Fstate FhandNext FhandSteps FhandWritten FmarkAt (upd Atape (Ftaped).toNatClampNeg l10)) H := hP
  have hD : va_D A (wW_X8_feed ak ad h am Fthrown (Ftaped + 1) Fsize Fplace Fbegin Ftoken Fword Ftold Fwrong Fcode Fat Fway Fnext FisEnd FisFallen Fwritten Fmade Fstate FhandNext FhandSteps FhandWritten FmarkAt (upd Atape (Ftaped).toNatClampNeg l10)) := hD
  refine lv_iinc (v := (l7 + 1)) (lv' := [(7, .int (l7 + 1)), (0, .ref h), (1, .long (xa)), (3, .long (xb)), (5, .long (xc)), (10, .int (l10))]) hx hb dX8_feed_114 hl (k := 4) rfl (rfl) (by decide) rfl (fun ls hl => ?_)
  refine lv_goto (tgt := 8) hx hb dX8_feed_117 (by decide) ?_
  exact kk8 Fthrown (Ftaped + 1) (upd Atape (Ftaped).toNatClampNeg l10) (l7 + 1) _ _ _ hw hP hD hS (lv_sub hl [1, 2, 3, 4, 0] rfl)

def kf_X8_feed_39 (xa : Int64) (xb : Int64) (xc : Int64) (κ8 : Int32 → Int32 → (Nat → Int32) → Int32 → Prop) (Φ : Int32 → Int32 → Int32 → (Nat → Int32) → Prop) (Fthrown : Int32) (Ftaped : Int32) (Atape : Nat → Int32) (l7 : Int32) (s0 : Int64) : Prop := (1000 ≤ Ftaped → κ8 Fthrown Ftaped Atape (l7 + 1)) ∧ (¬ 1000 ≤ Ftaped → ((((((s0).toUInt64 >>> ((56 - (8 * (l7 &&& 7))).toInt64.toUInt64 &&& Int64.toUInt64 63)).toInt64) &&& 255).toInt32) = 10 → kf_X8_feed_93 xa xb xc κ8 Φ Fthrown Ftaped Atape l7 (((((s0).toUInt64 >>> ((56 - (8 * (l7 &&& 7))).toInt64.toUInt64 &&& Int64.toUInt64 63)).toInt64) &&& 255).toInt32)) ∧ (¬ (((((s0).toUInt64 >>> ((56 - (8 * (l7 &&& 7))).toInt64.toUInt64 &&& Int64.toUInt64 63)).toInt64) &&& 255).toInt32) = 10 → ((((((s0).toUInt64 >>> ((56 - (8 * (l7 &&& 7))).toInt64.toUInt64 &&& Int64.toUInt64 63)).toInt64) &&& 255).toInt32) < 32 → κ8 Fthrown Ftaped Atape (l7 + 1)) ∧ (¬ (((((s0).toUInt64 >>> ((56 - (8 * (l7 &&& 7))).toInt64.toUInt64 &&& Int64.toUInt64 63)).toInt64) &&& 255).toInt32) < 32 → (126 < (((((s0).toUInt64 >>> ((56 - (8 * (l7 &&& 7))).toInt64.toUInt64 &&& Int64.toUInt64 63)).toInt64) &&& 255).toInt32) → κ8 Fthrown Ftaped Atape (l7 + 1)) ∧ (¬ 126 < (((((s0).toUInt64 >>> ((56 - (8 * (l7 &&& 7))).toInt64.toUInt64 &&& Int64.toUInt64 63)).toInt64) &&& 255).toInt32) → kf_X8_feed_93 xa xb xc κ8 Φ Fthrown Ftaped Atape l7 (((((s0).toUInt64 >>> ((56 - (8 * (l7 &&& 7))).toInt64.toUInt64 &&& Int64.toUInt64 63)).toInt64) &&& 255).toInt32)))))
set_option maxHeartbeats 4000000 in
set_option maxRecDepth 100000 in
theorem kj_X8_feed_39 {p : Program} {l : Launch} {e : Env} {R : Room} {s : State} {m : MethodId} {args : Array Value} {below : List Frame} {meth : Method} {c : Code} {cells slots : Nat} {Q : State → Prop} {A : Nat → Prop} {D : va_G} {ak : Nat → ClassId} {ad : Nat → Nat} (hx : p.tables.exec = Jvm.exec) (hb : c.code = cX8_feed) (hown : s.vm.findClass RX8 = some m.cls) (hts : ∀ w ∈ wsX8_feed, w.before args s = true) (hml : c.maxLocals = 11) (hE : EV D ak s) (hT : ST D ak ad A s s.heap) (hA : ∀ q, s.heap.size ≤ q → A q) (h : Nat) (am : Nat → Nat) (Fsize : Int32) (Fplace : Int32) (Fbegin : Int32) (Ftoken : Int32) (Fword : Int64) (Ftold : Int32) (Fwrong : Int32) (Fcode : Int32) (Fat : Int32) (Fway : Int32) (Fnext : Int32) (FisEnd : Int32) (FisFallen : Int32) (Fwritten : Int32) (Fmade : Int32) (Fstate : Int32) (FhandNext : Int32) (FhandSteps : Int32) (FhandWritten : Int32) (FmarkAt : Int32) (xa : Int64) (xb : Int64) (xc : Int64) (κ8 : Int32 → Int32 → (Nat → Int32) → Int32 → Prop) (Φ : Int32 → Int32 → Int32 → (Nat → Int32) → Prop)
    (kk8 : ∀ (Fthrown : Int32) (Ftaped : Int32) (Atape : Nat → Int32) (l7 : Int32) (H : Heap) (locs : List Loc) (ls : Array Slot), κ8 Fthrown Ftaped Atape l7 → va_P D vwCl (wW_X8_feed ak ad h am Fthrown Ftaped Fsize Fplace Fbegin Ftoken Fword Ftold Fwrong Fcode Fat Fway Fnext FisEnd FisFallen Fwritten Fmade Fstate FhandNext FhandSteps FhandWritten FmarkAt Atape) H → va_D A (wW_X8_feed ak ad h am Fthrown Ftaped Fsize Fplace Fbegin Ftoken Fword Ftold Fwrong Fcode Fat Fway Fnext FisEnd FisFallen Fwritten Fmade Fstate FhandNext FhandSteps FhandWritten FmarkAt Atape) → va_S A s.heap H locs → lv_has ls 11 [(0, .ref h), (1, .long (xa)), (3, .long (xb)), (5, .long (xc)), (7, .int (l7))] → W p l e R s m args below meth c H locs cells slots Q (F0 m 8 ls ([])))
    (kR124 : ∀ (r : Int32) (Fthrown : Int32) (Ftaped : Int32) (Atape : Nat → Int32) (H : Heap) (locs : List Loc) (ls : Array Slot), Φ r Fthrown Ftaped Atape → va_P D vwCl (wW_X8_feed ak ad h am Fthrown Ftaped Fsize Fplace Fbegin Ftoken Fword Ftold Fwrong Fcode Fat Fway Fnext FisEnd FisFallen Fwritten Fmade Fstate FhandNext FhandSteps FhandWritten FmarkAt Atape) H → va_D A (wW_X8_feed ak ad h am Fthrown Ftaped Fsize Fplace Fbegin Ftoken Fword Ftold Fwrong Fcode Fat Fway Fnext FisEnd FisFallen Fwritten Fmade Fstate FhandNext FhandSteps FhandWritten FmarkAt Atape) → va_S A s.heap H locs → W p l e R s m args below meth c H locs cells slots Q (F0 m 124 ls [.int r]))
    : ∀ (Fthrown : Int32) (Ftaped : Int32) (Atape : Nat → Int32) (l7 : Int32) (s0 : Int64) (H : Heap) (locs : List Loc) (ls : Array Slot), kf_X8_feed_39 xa xb xc κ8 Φ Fthrown Ftaped Atape l7 s0 → va_P D vwCl (wW_X8_feed ak ad h am Fthrown Ftaped Fsize Fplace Fbegin Ftoken Fword Ftold Fwrong Fcode Fat Fway Fnext FisEnd FisFallen Fwritten Fmade Fstate FhandNext FhandSteps FhandWritten FmarkAt Atape) H → va_D A (wW_X8_feed ak ad h am Fthrown Ftaped Fsize Fplace Fbegin Ftoken Fword Ftold Fwrong Fcode Fat Fway Fnext FisEnd FisFallen Fwritten Fmade Fstate FhandNext FhandSteps FhandWritten FmarkAt Atape) → va_S A s.heap H locs → lv_has ls 11 [(0, .ref h), (1, .long (xa)), (3, .long (xb)), (5, .long (xc)), (7, .int (l7))] → W p l e R s m args below meth c H locs cells slots Q (F0 m 39 ls (.long (s0) :: [])) := by
  intro Fthrown Ftaped Atape l7 s0 H locs ls hw hP hD hS hl
  delta kf_X8_feed_39 at hw
  refine lv_lstore (lv' := [(8, .long (s0)), (0, .ref h), (1, .long (xa)), (3, .long (xb)), (5, .long (xc)), (7, .int (l7))]) hx hb dX8_feed_39 hl (by decide) rfl (fun ls hl => ?_)
  refine lv_lload hx hb dX8_feed_41 (lv_at hl 0 rfl) ?_
  refine lv_bipush (v := 56) hx hb dX8_feed_43 (by decide) ?_
  refine lv_bipush (v := 8) hx hb dX8_feed_45 (by decide) ?_
  refine lv_iload hx hb dX8_feed_47 (lv_at hl 5 rfl) ?_
  refine lv_bipush (v := 7) hx hb dX8_feed_49 (by decide) ?_
  refine lv_iand hx hb dX8_feed_51 ?_
  refine lv_imul hx hb dX8_feed_52 ?_
  refine lv_isub hx hb dX8_feed_53 ?_
  refine lv_lushr (v := ((s0).toUInt64 >>> ((56 - (8 * (l7 &&& 7))).toInt64.toUInt64 &&& Int64.toUInt64 63)).toInt64) hx hb dX8_feed_54 rfl ?_
  refine lv_ldc2 hx hb hown (hts (.constantLong RX8 157 (255)) (wm_c hw_2)) dX8_feed_55 ?_
  refine lv_land hx hb dX8_feed_58 ?_
  refine lv_l2i (v := ((((s0).toUInt64 >>> ((56 - (8 * (l7 &&& 7))).toInt64.toUInt64 &&& Int64.toUInt64 63)).toInt64) &&& 255).toInt32) hx hb dX8_feed_59 rfl ?_
  refine lv_istore (lv' := [(10, .int (((((s0).toUInt64 >>> ((56 - (8 * (l7 &&& 7))).toInt64.toUInt64 &&& Int64.toUInt64 63)).toInt64) &&& 255).toInt32)), (8, .long (s0)), (0, .ref h), (1, .long (xa)), (3, .long (xb)), (5, .long (xc)), (7, .int (l7))]) hx hb dX8_feed_60 hl (by decide) rfl (fun ls hl => ?_)
  refine lv_aload_n hx hb dX8_feed_62 rfl (lv_at hl 2 rfl) ?_
  refine va_get (D := D) (ci := 7) (v := .int (Ftaped)) (C := RX8) (T := TX8) (N := 69) hx hb hts (fun w h => wm_c (wc_X8 w h)) hown hE.1 hP 0 rfl rfl 1 (by decide) (hts (.fieldLink RX8 159 "WornLinesModel" "taped" "I") (wm_c hw_1)) (fun _ h9 => h9) rfl dX8_feed_63 ?_
  refine lv_sipush (v := 1000) hx hb dX8_feed_66 (by decide) ?_
  refine lv_icmp_ge (tgt := 114) hx hb dX8_feed_69 (by decide) (fun c_4 => ?_) (fun c_4 => ?_)
  · replace hw := hw.1 c_4
    refine lv_iinc (v := (l7 + 1)) (lv' := [(7, .int (l7 + 1)), (10, .int (((((s0).toUInt64 >>> ((56 - (8 * (l7 &&& 7))).toInt64.toUInt64 &&& Int64.toUInt64 63)).toInt64) &&& 255).toInt32)), (8, .long (s0)), (0, .ref h), (1, .long (xa)), (3, .long (xb)), (5, .long (xc))]) hx hb dX8_feed_114 hl (k := 6) rfl (rfl) (by decide) rfl (fun ls hl => ?_)
    refine lv_goto (tgt := 8) hx hb dX8_feed_117 (by decide) ?_
    exact kk8 Fthrown Ftaped Atape (l7 + 1) _ _ _ hw hP hD hS (lv_sub hl [3, 4, 5, 6, 0] rfl)
  · replace hw := hw.2 c_4
    refine lv_iload hx hb dX8_feed_72 (lv_at hl 0 rfl) ?_
    refine lv_bipush (v := 10) hx hb dX8_feed_74 (by decide) ?_
    refine lv_icmp_eq (tgt := 93) hx hb dX8_feed_76 (by decide) (fun c_5 => ?_) (fun c_5 => ?_)
    · replace hw := hw.1 c_5
      exact kj_X8_feed_93 hx hb hown hts hml hE hT hA h am Fsize Fplace Fbegin Ftoken Fword Ftold Fwrong Fcode Fat Fway Fnext FisEnd FisFallen Fwritten Fmade Fstate FhandNext FhandSteps FhandWritten FmarkAt xa xb xc _ Φ kk8 kR124 Fthrown Ftaped Atape l7 (((((s0).toUInt64 >>> ((56 - (8 * (l7 &&& 7))).toInt64.toUInt64 &&& Int64.toUInt64 63)).toInt64) &&& 255).toInt32) _ _ _ hw hP hD hS (lv_sub hl [2, 3, 4, 5, 6, 0] rfl)
    · replace hw := hw.2 c_5
      refine lv_iload hx hb dX8_feed_79 (lv_at hl 0 rfl) ?_
      refine lv_bipush (v := 32) hx hb dX8_feed_81 (by decide) ?_
      refine lv_icmp_lt (tgt := 114) hx hb dX8_feed_83 (by decide) (fun c_7 => ?_) (fun c_7 => ?_)
      · replace hw := hw.1 c_7
        refine lv_iinc (v := (l7 + 1)) (lv' := [(7, .int (l7 + 1)), (10, .int (((((s0).toUInt64 >>> ((56 - (8 * (l7 &&& 7))).toInt64.toUInt64 &&& Int64.toUInt64 63)).toInt64) &&& 255).toInt32)), (8, .long (s0)), (0, .ref h), (1, .long (xa)), (3, .long (xb)), (5, .long (xc))]) hx hb dX8_feed_114 hl (k := 6) rfl (rfl) (by decide) rfl (fun ls hl => ?_)
        refine lv_goto (tgt := 8) hx hb dX8_feed_117 (by decide) ?_
        exact kk8 Fthrown Ftaped Atape (l7 + 1) _ _ _ hw hP hD hS (lv_sub hl [3, 4, 5, 6, 0] rfl)
      · replace hw := hw.2 c_7
        refine lv_iload hx hb dX8_feed_86 (lv_at hl 0 rfl) ?_
        refine lv_bipush (v := 126) hx hb dX8_feed_88 (by decide) ?_
        refine lv_icmp_gt (tgt := 114) hx hb dX8_feed_90 (by decide) (fun c_8 => ?_) (fun c_8 => ?_)
        · replace hw := hw.1 c_8
          refine lv_iinc (v := (l7 + 1)) (lv' := [(7, .int (l7 + 1)), (10, .int (((((s0).toUInt64 >>> ((56 - (8 * (l7 &&& 7))).toInt64.toUInt64 &&& Int64.toUInt64 63)).toInt64) &&& 255).toInt32)), (8, .long (s0)), (0, .ref h), (1, .long (xa)), (3, .long (xb)), (5, .long (xc))]) hx hb dX8_feed_114 hl (k := 6) rfl (rfl) (by decide) rfl (fun ls hl => ?_)
          refine lv_goto (tgt := 8) hx hb dX8_feed_117 (by decide) ?_
          exact kk8 Fthrown Ftaped Atape (l7 + 1) _ _ _ hw hP hD hS (lv_sub hl [3, 4, 5, 6, 0] rfl)
        · replace hw := hw.2 c_8
          exact kj_X8_feed_93 hx hb hown hts hml hE hT hA h am Fsize Fplace Fbegin Ftoken Fword Ftold Fwrong Fcode Fat Fway Fnext FisEnd FisFallen Fwritten Fmade Fstate FhandNext FhandSteps FhandWritten FmarkAt xa xb xc _ Φ kk8 kR124 Fthrown Ftaped Atape l7 (((((s0).toUInt64 >>> ((56 - (8 * (l7 &&& 7))).toInt64.toUInt64 &&& Int64.toUInt64 63)).toInt64) &&& 255).toInt32) _ _ _ hw hP hD hS (lv_sub hl [2, 3, 4, 5, 6, 0] rfl)

def lb_X8_feed_8 (xa : Int64) (xb : Int64) (xc : Int64)  (Φ : Int32 → Int32 → Int32 → (Nat → Int32) → Prop) (back : Int32 → Int32 → (Nat → Int32) → Int32 → Prop) (Fthrown : Int32) (Ftaped : Int32) (Atape : Nat → Int32) (l7 : Int32) : Prop := (24 ≤ l7 → Φ Ftaped Fthrown Ftaped Atape) ∧ (¬ 24 ≤ l7 → (8 ≤ l7 → (16 ≤ l7 → kf_X8_feed_39 xa xb xc back Φ Fthrown Ftaped Atape l7 xc) ∧ (¬ 16 ≤ l7 → kf_X8_feed_39 xa xb xc back Φ Fthrown Ftaped Atape l7 xb)) ∧ (¬ 8 ≤ l7 → kf_X8_feed_39 xa xb xc back Φ Fthrown Ftaped Atape l7 xa))
def lf_X8_feed_8 (xa : Int64) (xb : Int64) (xc : Int64)  (Φ : Int32 → Int32 → Int32 → (Nat → Int32) → Prop) : Nat → Int32 → Int32 → (Nat → Int32) → Int32 → Prop
  | 0, _, _, _, _ => False
  | n_ + 1, Fthrown, Ftaped, Atape, l7 => lb_X8_feed_8 xa xb xc  Φ (lf_X8_feed_8 xa xb xc  Φ n_) Fthrown Ftaped Atape l7
theorem li_X8_feed_8 (xa : Int64) (xb : Int64) (xc : Int64)  (Φ : Int32 → Int32 → Int32 → (Nat → Int32) → Prop) (Inv : Int32 → Int32 → (Nat → Int32) → Int32 → Prop) (mu : Int32 → Int32 → (Nat → Int32) → Int32 → Nat) (hs : ∀ (back : Int32 → Int32 → (Nat → Int32) → Int32 → Prop) (Fthrown : Int32) (Ftaped : Int32) (Atape : Nat → Int32) (l7 : Int32), Inv Fthrown Ftaped Atape l7 → (∀ (Fthrown' : Int32) (Ftaped' : Int32) (Atape' : Nat → Int32) (l7' : Int32), Inv Fthrown' Ftaped' Atape' l7' → mu Fthrown' Ftaped' Atape' l7' < mu Fthrown Ftaped Atape l7 → back Fthrown' Ftaped' Atape' l7') → lb_X8_feed_8 xa xb xc  Φ back Fthrown Ftaped Atape l7) : ∀ (n_ : Nat) (Fthrown : Int32) (Ftaped : Int32) (Atape : Nat → Int32) (l7 : Int32), Inv Fthrown Ftaped Atape l7 → mu Fthrown Ftaped Atape l7 < n_ → lf_X8_feed_8 xa xb xc  Φ n_ Fthrown Ftaped Atape l7 := by
  intro n_
  induction n_ with
  | zero => intro Fthrown Ftaped Atape l7 _ h; exact absurd h (Nat.not_lt_zero _)
  | succ n_ ih => intro Fthrown Ftaped Atape l7 hI hm; exact hs _ Fthrown Ftaped Atape l7 hI (fun Fthrown' Ftaped' Atape' l7' h1 h2 => ih Fthrown' Ftaped' Atape' l7' h1 (by omega))
set_option maxHeartbeats 4000000 in
set_option maxRecDepth 100000 in
theorem lp_X8_feed_8 {p : Program} {l : Launch} {e : Env} {R : Room} {s : State} {m : MethodId} {args : Array Value} {below : List Frame} {meth : Method} {c : Code} {cells slots : Nat} {Q : State → Prop} {A : Nat → Prop} {D : va_G} {ak : Nat → ClassId} {ad : Nat → Nat} (hx : p.tables.exec = Jvm.exec) (hb : c.code = cX8_feed) (hown : s.vm.findClass RX8 = some m.cls) (hts : ∀ w ∈ wsX8_feed, w.before args s = true) (hml : c.maxLocals = 11) (hE : EV D ak s) (hT : ST D ak ad A s s.heap) (hA : ∀ q, s.heap.size ≤ q → A q) (h : Nat) (am : Nat → Nat) (Fsize : Int32) (Fplace : Int32) (Fbegin : Int32) (Ftoken : Int32) (Fword : Int64) (Ftold : Int32) (Fwrong : Int32) (Fcode : Int32) (Fat : Int32) (Fway : Int32) (Fnext : Int32) (FisEnd : Int32) (FisFallen : Int32) (Fwritten : Int32) (Fmade : Int32) (Fstate : Int32) (FhandNext : Int32) (FhandSteps : Int32) (FhandWritten : Int32) (FmarkAt : Int32) (xa : Int64) (xb : Int64) (xc : Int64)  (Φ : Int32 → Int32 → Int32 → (Nat → Int32) → Prop)
    (kR124 : ∀ (r : Int32) (Fthrown : Int32) (Ftaped : Int32) (Atape : Nat → Int32) (H : Heap) (locs : List Loc) (ls : Array Slot), Φ r Fthrown Ftaped Atape → va_P D vwCl (wW_X8_feed ak ad h am Fthrown Ftaped Fsize Fplace Fbegin Ftoken Fword Ftold Fwrong Fcode Fat Fway Fnext FisEnd FisFallen Fwritten Fmade Fstate FhandNext FhandSteps FhandWritten FmarkAt Atape) H → va_D A (wW_X8_feed ak ad h am Fthrown Ftaped Fsize Fplace Fbegin Ftoken Fword Ftold Fwrong Fcode Fat Fway Fnext FisEnd FisFallen Fwritten Fmade Fstate FhandNext FhandSteps FhandWritten FmarkAt Atape) → va_S A s.heap H locs → W p l e R s m args below meth c H locs cells slots Q (F0 m 124 ls [.int r]))
    : ∀ (n_ : Nat) (Fthrown : Int32) (Ftaped : Int32) (Atape : Nat → Int32) (l7 : Int32) (H : Heap) (locs : List Loc) (ls : Array Slot), lf_X8_feed_8 xa xb xc  Φ n_ Fthrown Ftaped Atape l7 → va_P D vwCl (wW_X8_feed ak ad h am Fthrown Ftaped Fsize Fplace Fbegin Ftoken Fword Ftold Fwrong Fcode Fat Fway Fnext FisEnd FisFallen Fwritten Fmade Fstate FhandNext FhandSteps FhandWritten FmarkAt Atape) H → va_D A (wW_X8_feed ak ad h am Fthrown Ftaped Fsize Fplace Fbegin Ftoken Fword Ftold Fwrong Fcode Fat Fway Fnext FisEnd FisFallen Fwritten Fmade Fstate FhandNext FhandSteps FhandWritten FmarkAt Atape) → va_S A s.heap H locs → lv_has ls 11 [(0, .ref h), (1, .long (xa)), (3, .long (xb)), (5, .long (xc)), (7, .int (l7))] → W p l e R s m args below meth c H locs cells slots Q (F0 m 8 ls ([])) := by
  intro n_
  induction n_ with
  | zero =>
    intro Fthrown Ftaped Atape l7 H locs ls hw
    exact hw.elim
  | succ n_ ih =>
    intro Fthrown Ftaped Atape l7 H locs ls hw hP hD hS hl
    have hw : lb_X8_feed_8 xa xb xc  Φ (lf_X8_feed_8 xa xb xc  Φ n_) Fthrown Ftaped Atape l7 := hw
    delta lb_X8_feed_8 at hw
    refine lv_iload hx hb dX8_feed_8 (lv_at hl 4 rfl) ?_
    refine lv_bipush (v := 24) hx hb dX8_feed_10 (by decide) ?_
    refine lv_icmp_ge (tgt := 120) hx hb dX8_feed_12 (by decide) (fun c_1 => ?_) (fun c_1 => ?_)
    · replace hw := hw.1 c_1
      refine lv_aload_n hx hb dX8_feed_120 rfl (lv_at hl 0 rfl) ?_
      refine va_get (D := D) (ci := 7) (v := .int (Ftaped)) (C := RX8) (T := TX8) (N := 69) hx hb hts (fun w h => wm_c (wc_X8 w h)) hown hE.1 hP 0 rfl rfl 1 (by decide) (hts (.fieldLink RX8 159 "WornLinesModel" "taped" "I") (wm_c hw_1)) (fun _ h9 => h9) rfl dX8_feed_121 ?_
      exact kR124 Ftaped Fthrown Ftaped Atape _ _ _ hw hP hD hS
    · replace hw := hw.2 c_1
      refine lv_iload hx hb dX8_feed_15 (lv_at hl 4 rfl) ?_
      refine lv_bipush (v := 8) hx hb dX8_feed_17 (by decide) ?_
      refine lv_icmp_ge (tgt := 26) hx hb dX8_feed_19 (by decide) (fun c_2 => ?_) (fun c_2 => ?_)
      · replace hw := hw.1 c_2
        refine lv_iload hx hb dX8_feed_26 (lv_at hl 4 rfl) ?_
        refine lv_bipush (v := 16) hx hb dX8_feed_28 (by decide) ?_
        refine lv_icmp_ge (tgt := 37) hx hb dX8_feed_30 (by decide) (fun c_3 => ?_) (fun c_3 => ?_)
        · replace hw := hw.1 c_3
          refine lv_lload hx hb dX8_feed_37 (lv_at hl 3 rfl) ?_
          exact kj_X8_feed_39 hx hb hown hts hml hE hT hA h am Fsize Fplace Fbegin Ftoken Fword Ftold Fwrong Fcode Fat Fway Fnext FisEnd FisFallen Fwritten Fmade Fstate FhandNext FhandSteps FhandWritten FmarkAt xa xb xc _ Φ ih kR124 Fthrown Ftaped Atape l7 xc _ _ _ hw hP hD hS (lv_sub hl [0, 1, 2, 3, 4] rfl)
        · replace hw := hw.2 c_3
          refine lv_lload_n hx hb dX8_feed_33 rfl (lv_at hl 2 rfl) ?_
          refine lv_goto (tgt := 39) hx hb dX8_feed_34 (by decide) ?_
          exact kj_X8_feed_39 hx hb hown hts hml hE hT hA h am Fsize Fplace Fbegin Ftoken Fword Ftold Fwrong Fcode Fat Fway Fnext FisEnd FisFallen Fwritten Fmade Fstate FhandNext FhandSteps FhandWritten FmarkAt xa xb xc _ Φ ih kR124 Fthrown Ftaped Atape l7 xb _ _ _ hw hP hD hS (lv_sub hl [0, 1, 2, 3, 4] rfl)
      · replace hw := hw.2 c_2
        refine lv_lload_n hx hb dX8_feed_22 rfl (lv_at hl 1 rfl) ?_
        refine lv_goto (tgt := 39) hx hb dX8_feed_23 (by decide) ?_
        exact kj_X8_feed_39 hx hb hown hts hml hE hT hA h am Fsize Fplace Fbegin Ftoken Fword Ftold Fwrong Fcode Fat Fway Fnext FisEnd FisFallen Fwritten Fmade Fstate FhandNext FhandSteps FhandWritten FmarkAt xa xb xc _ Φ ih kR124 Fthrown Ftaped Atape l7 xa _ _ _ hw hP hD hS (lv_sub hl [0, 1, 2, 3, 4] rfl)

def wp_X8_feed (xa : Int64) (xb : Int64) (xc : Int64) (Fthrown : Int32) (Ftaped : Int32) (Atape : Nat → Int32) (Φ : Int32 → Int32 → Int32 → (Nat → Int32) → Prop) : Prop := (∃ n_, lf_X8_feed_8 xa xb xc  Φ n_ 0 Ftaped Atape 0)
set_option maxHeartbeats 4000000 in
set_option maxRecDepth 100000 in
theorem kj_X8_feed_e {p : Program} {l : Launch} {e : Env} {R : Room} {s : State} {m : MethodId} {args : Array Value} {below : List Frame} {meth : Method} {c : Code} {cells slots : Nat} {Q : State → Prop} {A : Nat → Prop} {D : va_G} {ak : Nat → ClassId} {ad : Nat → Nat} (hx : p.tables.exec = Jvm.exec) (hb : c.code = cX8_feed) (hown : s.vm.findClass RX8 = some m.cls) (hts : ∀ w ∈ wsX8_feed, w.before args s = true) (hml : c.maxLocals = 11) (hE : EV D ak s) (hT : ST D ak ad A s s.heap) (hA : ∀ q, s.heap.size ≤ q → A q) (h : Nat) (am : Nat → Nat) (Fsize : Int32) (Fplace : Int32) (Fbegin : Int32) (Ftoken : Int32) (Fword : Int64) (Ftold : Int32) (Fwrong : Int32) (Fcode : Int32) (Fat : Int32) (Fway : Int32) (Fnext : Int32) (FisEnd : Int32) (FisFallen : Int32) (Fwritten : Int32) (Fmade : Int32) (Fstate : Int32) (FhandNext : Int32) (FhandSteps : Int32) (FhandWritten : Int32) (FmarkAt : Int32) (xa : Int64) (xb : Int64) (xc : Int64)  (Φ : Int32 → Int32 → Int32 → (Nat → Int32) → Prop)
    (kR124 : ∀ (r : Int32) (Fthrown : Int32) (Ftaped : Int32) (Atape : Nat → Int32) (H : Heap) (locs : List Loc) (ls : Array Slot), Φ r Fthrown Ftaped Atape → va_P D vwCl (wW_X8_feed ak ad h am Fthrown Ftaped Fsize Fplace Fbegin Ftoken Fword Ftold Fwrong Fcode Fat Fway Fnext FisEnd FisFallen Fwritten Fmade Fstate FhandNext FhandSteps FhandWritten FmarkAt Atape) H → va_D A (wW_X8_feed ak ad h am Fthrown Ftaped Fsize Fplace Fbegin Ftoken Fword Ftold Fwrong Fcode Fat Fway Fnext FisEnd FisFallen Fwritten Fmade Fstate FhandNext FhandSteps FhandWritten FmarkAt Atape) → va_S A s.heap H locs → W p l e R s m args below meth c H locs cells slots Q (F0 m 124 ls [.int r]))
    : ∀ (Fthrown : Int32) (Ftaped : Int32) (Atape : Nat → Int32) (H : Heap) (locs : List Loc) (ls : Array Slot), wp_X8_feed xa xb xc Fthrown Ftaped Atape Φ → va_P D vwCl (wW_X8_feed ak ad h am Fthrown Ftaped Fsize Fplace Fbegin Ftoken Fword Ftold Fwrong Fcode Fat Fway Fnext FisEnd FisFallen Fwritten Fmade Fstate FhandNext FhandSteps FhandWritten FmarkAt Atape) H → va_D A (wW_X8_feed ak ad h am Fthrown Ftaped Fsize Fplace Fbegin Ftoken Fword Ftold Fwrong Fcode Fat Fway Fnext FisEnd FisFallen Fwritten Fmade Fstate FhandNext FhandSteps FhandWritten FmarkAt Atape) → va_S A s.heap H locs → lv_has ls 11 [(0, .ref h), (1, .long (xa)), (3, .long (xb)), (5, .long (xc))] → W p l e R s m args below meth c H locs cells slots Q (F0 m 0 ls ([])) := by
  intro Fthrown Ftaped Atape H locs ls hw hP hD hS hl
  delta wp_X8_feed at hw
  refine lv_aload_n hx hb dX8_feed_0 rfl (lv_at hl 0 rfl) ?_
  refine lv_iconst (v := 0) hx hb dX8_feed_1 (by decide) ?_
  refine va_put (D := D) (ci := 7) (v := .int (0)) (ty := .int) (C := RX8) (T := TX8) (N := 69) hx hb hts (fun w h => wm_c (wc_X8 w h)) tyX8 tyX8_ok nmX8 hown hE.1 hP hD hS 0 rfl rfl 0 (by decide) (hts (.fieldLink RX8 153 "WornLinesModel" "thrown" "I") (wm_c hw_3)) (fun _ h9 => h9) rfl (by decide +kernel) (rfl) rfl (Nat.le_of_ble_eq_true rfl) dX8_feed_2 (fun H locs hP hD hS => ?_)
  have hP : va_P D vwCl (wW_X8_feed ak ad h am 0 Ftaped Fsize Fplace Fbegin Ftoken Fword Ftold Fwrong Fcode Fat Fway Fnext FisEnd FisFallen Fwritten Fmade Fstate FhandNext FhandSteps FhandWritten FmarkAt Atape) H := hP
  have hD : va_D A (wW_X8_feed ak ad h am 0 Ftaped Fsize Fplace Fbegin Ftoken Fword Ftold Fwrong Fcode Fat Fway Fnext FisEnd FisFallen Fwritten Fmade Fstate FhandNext FhandSteps FhandWritten FmarkAt Atape) := hD
  refine lv_iconst (v := 0) hx hb dX8_feed_5 (by decide) ?_
  refine lv_istore (lv' := [(7, .int (0)), (0, .ref h), (1, .long (xa)), (3, .long (xb)), (5, .long (xc))]) hx hb dX8_feed_6 hl (by decide) rfl (fun ls hl => ?_)
  obtain ⟨n1_, hw⟩ := hw
  exact lp_X8_feed_8 hx hb hown hts hml hE hT hA h am Fsize Fplace Fbegin Ftoken Fword Ftold Fwrong Fcode Fat Fway Fnext FisEnd FisFallen Fwritten Fmade Fstate FhandNext FhandSteps FhandWritten FmarkAt xa xb xc  Φ  kR124 n1_ 0 Ftaped Atape 0 _ _ _ hw hP hD hS (lv_sub hl [1, 2, 3, 4, 0] rfl)
set_option maxHeartbeats 4000000 in
set_option maxRecDepth 100000 in
theorem c_X8_feed (l : Launch) (D : va_G) (ak : Nat → ClassId) (ad : Nat → Nat) (sz : Nat) (h : Nat) (am : Nat → Nat) (Fthrown : Int32) (Ftaped : Int32) (Fsize : Int32) (Fplace : Int32) (Fbegin : Int32) (Ftoken : Int32) (Fword : Int64) (Ftold : Int32) (Fwrong : Int32) (Fcode : Int32) (Fat : Int32) (Fway : Int32) (Fnext : Int32) (FisEnd : Int32) (FisFallen : Int32) (Fwritten : Int32) (Fmade : Int32) (Fstate : Int32) (FhandNext : Int32) (FhandSteps : Int32) (FhandWritten : Int32) (FmarkAt : Int32) (Atape : Nat → Int32) (xa : Int64) (xb : Int64) (xc : Int64) (Φ : Int32 → Int32 → Int32 → (Nat → Int32) → Prop) (hf : wp_X8_feed xa xb xc Fthrown Ftaped Atape Φ) : Met l yX8_feed wsX8_feed ({ frames := 0, cells := 0, slots := 0, locals := 0 }) (cPre D ak ad [.ref h, .long (xa), .long (xb), .long (xc)] ((wW_X8_feed ak ad h am Fthrown Ftaped Fsize Fplace Fbegin Ftoken Fword Ftold Fwrong Fcode Fat Fway Fnext FisEnd FisFallen Fwritten Fmade Fstate FhandNext FhandSteps FhandWritten FmarkAt Atape)) sz) (cI D (S := (Int32) × (Int32) × (Nat → Int32)) (fun (r : Int32) (u : (Int32) × (Int32) × (Nat → Int32)) => Φ r u.1 u.2.1 u.2.2) (fun u => (wW_X8_feed ak ad h am u.1 u.2.1 Fsize Fplace Fbegin Ftoken Fword Ftold Fwrong Fcode Fat Fway Fnext FisEnd FisFallen Fwritten Fmade Fstate FhandNext FhandSteps FhandWritten FmarkAt u.2.2)) ((wW_X8_feed ak ad h am Fthrown Ftaped Fsize Fplace Fbegin Ftoken Fword Ftold Fwrong Fcode Fat Fway Fnext FisEnd FisFallen Fwritten Fmade Fstate FhandNext FhandSteps FhandWritten FmarkAt Atape)) sz) 0 0 (va_A ((wW_X8_feed ak ad h am Fthrown Ftaped Fsize Fplace Fbegin Ftoken Fword Ftold Fwrong Fcode Fat Fway Fnext FisEnd FisFallen Fwritten Fmade Fstate FhandNext FhandSteps FhandWritten FmarkAt Atape)) sz) := by
  refine Met.ofW (cc := cX8_feed) (maxL := 11) (ret := (some .int)) (by decide) rfl ?_
  intro p e s m args below meth c s₁ B hml hv
  obtain ⟨rfl, hsz, hP, hE, hD0, hT⟩ := hv
  have hx := B.exec
  have hb := B.bytes
  have hr := B.returns
  have hts := atoms_spec (ws := wsX8_feed) B.pre
  have hown : s.vm.findClass RX8 = some m.cls := findClass_of_methodNamed B.named
  have hlocks := B.notSynchronized
  subst hsz
  have hD := hD0.self (sz := s.heap.size)
  generalize hAe : va_A ((wW_X8_feed ak ad h am Fthrown Ftaped Fsize Fplace Fbegin Ftoken Fword Ftold Fwrong Fcode Fat Fway Fnext FisEnd FisFallen Fwritten Fmade Fstate FhandNext FhandSteps FhandWritten FmarkAt Atape)) s.heap.size = A at hD hT ⊢
  have hA : ∀ q : Nat, s.heap.size ≤ q → A q := fun q h => by rw [← hAe]; exact Or.inr h
  have hS : va_S A s.heap s.heap [] := va_S.rf
  have hl := lv_entry ([.ref h, .long (xa), .long (xb), .long (xc)]) (n := 11) (Nat.le_of_ble_eq_true rfl)
  rw [lg_entry_eq]
  generalize (lg_sl ([.ref h, .long (xa), .long (xb), .long (xc)]) ++ List.replicate (11 - (lg_sl ([.ref h, .long (xa), .long (xb), .long (xc)])).length) Slot.unset).toArray = ls at hl ⊢
  have hl : lv_has ls 11 [(0, .ref h), (1, .long (xa)), (3, .long (xb)), (5, .long (xc))] := hl
  exact kj_X8_feed_e hx hb hown hts hml hE hT hA h am Fsize Fplace Fbegin Ftoken Fword Ftold Fwrong Fcode Fat Fway Fnext FisEnd FisFallen Fwritten Fmade Fstate FhandNext FhandSteps FhandWritten FmarkAt xa xb xc Φ (fun r Fthrown Ftaped Atape H locs ls hw hP hD hS => W.iret (v := r) hx hb hr (fun t ht hW => ⟨⟨r, (Fthrown, Ftaped, Atape), rfl, hw, by rw [ht]; exact hP, by rw [hAe]; exact hD⟩, by rw [hAe]; exact hS.F ht⟩) hS.2.2 dX8_feed_124) Fthrown Ftaped Atape _ _ _ hf hP hD hS hl

def wW_X8_signAt (ak : Nat → ClassId) (ad : Nat → Nat) (h : Nat) (am : Nat → Nat) (Fthrown : Int32) (Ftaped : Int32) (Fsize : Int32) (Fplace : Int32) (Fbegin : Int32) (Ftoken : Int32) (Fword : Int64) (Ftold : Int32) (Fwrong : Int32) (Fcode : Int32) (Fat : Int32) (Fway : Int32) (Fnext : Int32) (FisEnd : Int32) (FisFallen : Int32) (Fwritten : Int32) (Fmade : Int32) (Fstate : Int32) (FhandNext : Int32) (FhandSteps : Int32) (FhandWritten : Int32) (FmarkAt : Int32) (Atape : Nat → Int32) : va_W := [(h, .inr (7, mob am (Fthrown) (Ftaped) (Fsize) (Fplace) (Fbegin) (Ftoken) (Fword) (Ftold) (Fwrong) (Fcode) (Fat) (Fway) (Fnext) (FisEnd) (FisFallen) (Fwritten) (Fmade) (Fstate) (FhandNext) (FhandSteps) (FhandWritten) (FmarkAt))), ((am 0), .inl (ak 0, 1000, .inl (Atape)))]
def wp_X8_signAt (Fsize : Int32) (Atape : Nat → Int32) (x0 : Int32)  (Φ : Int32 → Prop) : Prop := (Fsize ≤ x0 → Φ 0 ) ∧ (¬ Fsize ≤ x0 → vp_in x0 1000 ∧ Φ (Atape (x0).toNatClampNeg) )
set_option maxHeartbeats 4000000 in
set_option maxRecDepth 100000 in
theorem kj_X8_signAt_e {p : Program} {l : Launch} {e : Env} {R : Room} {s : State} {m : MethodId} {args : Array Value} {below : List Frame} {meth : Method} {c : Code} {cells slots : Nat} {Q : State → Prop} {A : Nat → Prop} {D : va_G} {ak : Nat → ClassId} {ad : Nat → Nat} (hx : p.tables.exec = Jvm.exec) (hb : c.code = cX8_signAt) (hown : s.vm.findClass RX8 = some m.cls) (hts : ∀ w ∈ wsX8_signAt, w.before args s = true) (hml : c.maxLocals = 2) (hE : EV D ak s) (hT : ST D ak ad A s s.heap) (hA : ∀ q, s.heap.size ≤ q → A q) (h : Nat) (am : Nat → Nat) (Fthrown : Int32) (Ftaped : Int32) (Fsize : Int32) (Fplace : Int32) (Fbegin : Int32) (Ftoken : Int32) (Fword : Int64) (Ftold : Int32) (Fwrong : Int32) (Fcode : Int32) (Fat : Int32) (Fway : Int32) (Fnext : Int32) (FisEnd : Int32) (FisFallen : Int32) (Fwritten : Int32) (Fmade : Int32) (Fstate : Int32) (FhandNext : Int32) (FhandSteps : Int32) (FhandWritten : Int32) (FmarkAt : Int32) (Atape : Nat → Int32) (x0 : Int32)  (Φ : Int32 → Prop)
    (kR18 : ∀ (r : Int32)  (H : Heap) (locs : List Loc) (ls : Array Slot), Φ r  → va_P D vwCl (wW_X8_signAt ak ad h am Fthrown Ftaped Fsize Fplace Fbegin Ftoken Fword Ftold Fwrong Fcode Fat Fway Fnext FisEnd FisFallen Fwritten Fmade Fstate FhandNext FhandSteps FhandWritten FmarkAt Atape) H → va_D A (wW_X8_signAt ak ad h am Fthrown Ftaped Fsize Fplace Fbegin Ftoken Fword Ftold Fwrong Fcode Fat Fway Fnext FisEnd FisFallen Fwritten Fmade Fstate FhandNext FhandSteps FhandWritten FmarkAt Atape) → va_S A s.heap H locs → W p l e R s m args below meth c H locs cells slots Q (F0 m 18 ls [.int r]))
    : ∀  (H : Heap) (locs : List Loc) (ls : Array Slot), wp_X8_signAt Fsize Atape x0  Φ → va_P D vwCl (wW_X8_signAt ak ad h am Fthrown Ftaped Fsize Fplace Fbegin Ftoken Fword Ftold Fwrong Fcode Fat Fway Fnext FisEnd FisFallen Fwritten Fmade Fstate FhandNext FhandSteps FhandWritten FmarkAt Atape) H → va_D A (wW_X8_signAt ak ad h am Fthrown Ftaped Fsize Fplace Fbegin Ftoken Fword Ftold Fwrong Fcode Fat Fway Fnext FisEnd FisFallen Fwritten Fmade Fstate FhandNext FhandSteps FhandWritten FmarkAt Atape) → va_S A s.heap H locs → lv_has ls 2 [(0, .ref h), (1, .int (x0))] → W p l e R s m args below meth c H locs cells slots Q (F0 m 0 ls ([])) := by
  intro  H locs ls hw hP hD hS hl
  delta wp_X8_signAt at hw
  refine lv_iload_n hx hb dX8_signAt_0 rfl (lv_at hl 1 rfl) ?_
  refine lv_aload_n hx hb dX8_signAt_1 rfl (lv_at hl 0 rfl) ?_
  refine va_get (D := D) (ci := 7) (v := .int (Fsize)) (C := RX8) (T := TX8) (N := 69) hx hb hts (fun w h => wm_c (wc_X8 w h)) hown hE.1 hP 0 rfl rfl 3 (by decide) (hts (.fieldLink RX8 162 "WornLinesModel" "size" "I") (wm_c hw_4)) (fun _ h9 => h9) rfl dX8_signAt_2 ?_
  refine lv_icmp_ge (tgt := 17) hx hb dX8_signAt_5 (by decide) (fun c_1 => ?_) (fun c_1 => ?_)
  · replace hw := hw.1 c_1
    refine lv_iconst (v := 0) hx hb dX8_signAt_17 (by decide) ?_
    exact kR18 0  _ _ _ hw hP hD hS
  · replace hw := hw.2 c_1
    refine lv_aload_n hx hb dX8_signAt_8 rfl (lv_at hl 0 rfl) ?_
    refine va_get (D := D) (ci := 7) (v := .ref (am 0)) (C := RX8) (T := TX8) (N := 69) hx hb hts (fun w h => wm_c (wc_X8 w h)) hown hE.1 hP 0 rfl rfl 2 (by decide) (hts (.fieldLink RX8 7 "WornLinesModel" "tape" "[I") (wm_c hw_0)) (fun _ h9 => h9) rfl dX8_signAt_9 ?_
    refine lv_iload_n hx hb dX8_signAt_12 rfl (lv_at hl 1 rfl) ?_
    obtain ⟨h_2, hw⟩ := hw
    refine va_iald hx hb hE.1 hP 1 0 rfl rfl (h_2) dX8_signAt_13 ?_
    refine lv_goto (tgt := 18) hx hb dX8_signAt_14 (by decide) ?_
    exact kR18 (Atape (x0).toNatClampNeg)  _ _ _ hw hP hD hS
set_option maxHeartbeats 4000000 in
set_option maxRecDepth 100000 in
theorem c_X8_signAt (l : Launch) (D : va_G) (ak : Nat → ClassId) (ad : Nat → Nat) (sz : Nat) (h : Nat) (am : Nat → Nat) (Fthrown : Int32) (Ftaped : Int32) (Fsize : Int32) (Fplace : Int32) (Fbegin : Int32) (Ftoken : Int32) (Fword : Int64) (Ftold : Int32) (Fwrong : Int32) (Fcode : Int32) (Fat : Int32) (Fway : Int32) (Fnext : Int32) (FisEnd : Int32) (FisFallen : Int32) (Fwritten : Int32) (Fmade : Int32) (Fstate : Int32) (FhandNext : Int32) (FhandSteps : Int32) (FhandWritten : Int32) (FmarkAt : Int32) (Atape : Nat → Int32) (x0 : Int32) (Φ : Int32 → Prop) (hf : wp_X8_signAt Fsize Atape x0 Φ) : Met l yX8_signAt wsX8_signAt ({ frames := 0, cells := 0, slots := 0, locals := 0 }) (cPre D ak ad [.ref h, .int (x0)] ((wW_X8_signAt ak ad h am Fthrown Ftaped Fsize Fplace Fbegin Ftoken Fword Ftold Fwrong Fcode Fat Fway Fnext FisEnd FisFallen Fwritten Fmade Fstate FhandNext FhandSteps FhandWritten FmarkAt Atape)) sz) (cI D (S := Unit) (fun (r : Int32) (u : Unit) => Φ r ) (fun u => (wW_X8_signAt ak ad h am Fthrown Ftaped Fsize Fplace Fbegin Ftoken Fword Ftold Fwrong Fcode Fat Fway Fnext FisEnd FisFallen Fwritten Fmade Fstate FhandNext FhandSteps FhandWritten FmarkAt Atape)) ((wW_X8_signAt ak ad h am Fthrown Ftaped Fsize Fplace Fbegin Ftoken Fword Ftold Fwrong Fcode Fat Fway Fnext FisEnd FisFallen Fwritten Fmade Fstate FhandNext FhandSteps FhandWritten FmarkAt Atape)) sz) 0 0 (va_A ((wW_X8_signAt ak ad h am Fthrown Ftaped Fsize Fplace Fbegin Ftoken Fword Ftold Fwrong Fcode Fat Fway Fnext FisEnd FisFallen Fwritten Fmade Fstate FhandNext FhandSteps FhandWritten FmarkAt Atape)) sz) := by
  refine Met.ofW (cc := cX8_signAt) (maxL := 2) (ret := (some .int)) (by decide) rfl ?_
  intro p e s m args below meth c s₁ B hml hv
  obtain ⟨rfl, hsz, hP, hE, hD0, hT⟩ := hv
  have hx := B.exec
  have hb := B.bytes
  have hr := B.returns
  have hts := atoms_spec (ws := wsX8_signAt) B.pre
  have hown : s.vm.findClass RX8 = some m.cls := findClass_of_methodNamed B.named
  have hlocks := B.notSynchronized
  subst hsz
  have hD := hD0.self (sz := s.heap.size)
  generalize hAe : va_A ((wW_X8_signAt ak ad h am Fthrown Ftaped Fsize Fplace Fbegin Ftoken Fword Ftold Fwrong Fcode Fat Fway Fnext FisEnd FisFallen Fwritten Fmade Fstate FhandNext FhandSteps FhandWritten FmarkAt Atape)) s.heap.size = A at hD hT ⊢
  have hA : ∀ q : Nat, s.heap.size ≤ q → A q := fun q h => by rw [← hAe]; exact Or.inr h
  have hS : va_S A s.heap s.heap [] := va_S.rf
  have hl := lv_entry ([.ref h, .int (x0)]) (n := 2) (Nat.le_of_ble_eq_true rfl)
  rw [lg_entry_eq]
  generalize (lg_sl ([.ref h, .int (x0)]) ++ List.replicate (2 - (lg_sl ([.ref h, .int (x0)])).length) Slot.unset).toArray = ls at hl ⊢
  have hl : lv_has ls 2 [(0, .ref h), (1, .int (x0))] := hl
  exact kj_X8_signAt_e hx hb hown hts hml hE hT hA h am Fthrown Ftaped Fsize Fplace Fbegin Ftoken Fword Ftold Fwrong Fcode Fat Fway Fnext FisEnd FisFallen Fwritten Fmade Fstate FhandNext FhandSteps FhandWritten FmarkAt Atape x0 Φ (fun r  H locs ls hw hP hD hS => W.iret (v := r) hx hb hr (fun t ht hW => ⟨⟨r, (), rfl, hw, by rw [ht]; exact hP, by rw [hAe]; exact hD⟩, by rw [hAe]; exact hS.F ht⟩) hS.2.2 dX8_signAt_18)  _ _ _ hf hP hD hS hl
