theorem dJ7_fill_53178_5 : decode cJ7_fill_53178 5 = .ok (.iload_n 2, 1) := by decide +kernel
theorem dJ7_fill_53178_6 : decode cJ7_fill_53178 6 = .ok (.iload_n 3, 1) := by decide +kernel
theorem dJ7_fill_53178_7 : decode cJ7_fill_53178 7 = .ok (.if_icmp .ge 13, 3) := by decide +kernel
theorem dJ7_fill_53178_10 : decode cJ7_fill_53178 10 = .ok (.aload_n 0, 1) := by decide +kernel
theorem dJ7_fill_53178_11 : decode cJ7_fill_53178 11 = .ok (.iload_n 2, 1) := by decide +kernel
theorem dJ7_fill_53178_12 : decode cJ7_fill_53178 12 = .ok (.iload_n 1, 1) := by decide +kernel
theorem dJ7_fill_53178_13 : decode cJ7_fill_53178 13 = .ok (.iastore, 1) := by decide +kernel
theorem dJ7_fill_53178_14 : decode cJ7_fill_53178 14 = .ok (.iinc 2 1, 3) := by decide +kernel
theorem dJ7_fill_53178_17 : decode cJ7_fill_53178 17 = .ok (.goto (-12), 3) := by decide +kernel
theorem dJ7_fill_53178_0 : decode cJ7_fill_53178 0 = .ok (.iconst 0, 1) := by decide +kernel
theorem dJ7_fill_53178_1 : decode cJ7_fill_53178 1 = .ok (.istore_n 2, 1) := by decide +kernel
theorem dJ7_fill_53178_2 : decode cJ7_fill_53178 2 = .ok (.aload_n 0, 1) := by decide +kernel
theorem dJ7_fill_53178_3 : decode cJ7_fill_53178 3 = .ok (.arraylength, 1) := by decide +kernel
theorem dJ7_fill_53178_4 : decode cJ7_fill_53178 4 = .ok (.istore_n 3, 1) := by decide +kernel
theorem dJ7_fill_53178_20 : decode cJ7_fill_53178 20 = .ok (.return_, 1) := by decide +kernel
theorem dX2_width_0 : decode cX2_width 0 = .ok (.iconst 1, 1) := by decide +kernel
theorem dX2_width_1 : decode cX2_width 1 = .ok (.aload_n 0, 1) := by decide +kernel
theorem dX2_width_2 : decode cX2_width 2 = .ok (.getfield 27, 3) := by decide +kernel
theorem dX2_width_5 : decode cX2_width 5 = .ok (.iload_n 1, 1) := by decide +kernel
theorem dX2_width_6 : decode cX2_width 6 = .ok (.iaload, 1) := by decide +kernel
theorem dX2_width_7 : decode cX2_width 7 = .ok (.aload_n 0, 1) := by decide +kernel
theorem dX2_width_8 : decode cX2_width 8 = .ok (.getfield 24, 3) := by decide +kernel
theorem dX2_width_11 : decode cX2_width 11 = .ok (.iload_n 1, 1) := by decide +kernel
theorem dX2_width_12 : decode cX2_width 12 = .ok (.iaload, 1) := by decide +kernel
theorem dX2_width_13 : decode cX2_width 13 = .ok (.isub, 1) := by decide +kernel
theorem dX2_width_14 : decode cX2_width 14 = .ok (.iconst 1, 1) := by decide +kernel
theorem dX2_width_15 : decode cX2_width 15 = .ok (.iadd, 1) := by decide +kernel
theorem dX2_width_16 : decode cX2_width 16 = .ok (.invokestatic 59, 3) := by decide +kernel
theorem dX2_width_19 : decode cX2_width 19 = .ok (.ireturn, 1) := by decide +kernel
theorem dX2_inputCount_4 : decode cX2_inputCount 4 = .ok (.iload_n 2, 1) := by decide +kernel
theorem dX2_inputCount_5 : decode cX2_inputCount 5 = .ok (.aload_n 0, 1) := by decide +kernel
theorem dX2_inputCount_6 : decode cX2_inputCount 6 = .ok (.getfield 51, 3) := by decide +kernel
theorem dX2_inputCount_9 : decode cX2_inputCount 9 = .ok (.if_icmp .ge 17, 3) := by decide +kernel
theorem dX2_inputCount_26 : decode cX2_inputCount 26 = .ok (.iload_n 1, 1) := by decide +kernel
theorem dX2_inputCount_12 : decode cX2_inputCount 12 = .ok (.iload_n 1, 1) := by decide +kernel
theorem dX2_inputCount_13 : decode cX2_inputCount 13 = .ok (.aload_n 0, 1) := by decide +kernel
theorem dX2_inputCount_14 : decode cX2_inputCount 14 = .ok (.iload_n 2, 1) := by decide +kernel
set_option maxRecDepth 20000 in
theorem ggX2_inputCount_X2_width : GoodIn wsX2_inputCount wsX2_width := gup gc_X2_width
set_option maxRecDepth 20000 in
theorem gX2_inputCount_X2_width : GoodIn wsX2_inputCount (wsV RX2 55 RX2 yX2_width wsX2_width) := gup (glV hw_315 hw_316 hw_317 hw_318 gc_X2_width)
theorem dX2_inputCount_15 : decode cX2_inputCount 15 = .ok (.invokevirtual 55, 3) := by decide +kernel
theorem dX2_inputCount_18 : decode cX2_inputCount 18 = .ok (.imul, 1) := by decide +kernel
theorem dX2_inputCount_19 : decode cX2_inputCount 19 = .ok (.istore_n 1, 1) := by decide +kernel
theorem dX2_inputCount_20 : decode cX2_inputCount 20 = .ok (.iinc 2 1, 3) := by decide +kernel
theorem dX2_inputCount_23 : decode cX2_inputCount 23 = .ok (.goto (-19), 3) := by decide +kernel
theorem dX2_inputCount_0 : decode cX2_inputCount 0 = .ok (.iconst 1, 1) := by decide +kernel
theorem dX2_inputCount_1 : decode cX2_inputCount 1 = .ok (.istore_n 1, 1) := by decide +kernel
theorem dX2_inputCount_2 : decode cX2_inputCount 2 = .ok (.iconst 0, 1) := by decide +kernel
theorem dX2_inputCount_3 : decode cX2_inputCount 3 = .ok (.istore_n 2, 1) := by decide +kernel
theorem dX2_inputCount_27 : decode cX2_inputCount 27 = .ok (.ireturn, 1) := by decide +kernel
theorem dX2_atFirst_18 : decode cX2_atFirst 18 = .ok (.iload 5, 2) := by decide +kernel
theorem dX2_atFirst_20 : decode cX2_atFirst 20 = .ok (.ifCond .lt 49, 3) := by decide +kernel
theorem dX2_atFirst_69 : decode cX2_atFirst 69 = .ok (.iload_n 3, 1) := by decide +kernel
theorem dX2_atFirst_23 : decode cX2_atFirst 23 = .ok (.aload_n 0, 1) := by decide +kernel
theorem dX2_atFirst_24 : decode cX2_atFirst 24 = .ok (.iload 5, 2) := by decide +kernel
set_option maxRecDepth 20000 in
theorem ggX2_atFirst_X2_width : GoodIn wsX2_atFirst wsX2_width := gup gc_X2_width
set_option maxRecDepth 20000 in
theorem gX2_atFirst_X2_width : GoodIn wsX2_atFirst (wsV RX2 55 RX2 yX2_width wsX2_width) := gup (glV hw_315 hw_316 hw_317 hw_318 gc_X2_width)
theorem dX2_atFirst_26 : decode cX2_atFirst 26 = .ok (.invokevirtual 55, 3) := by decide +kernel
theorem dX2_atFirst_29 : decode cX2_atFirst 29 = .ok (.istore 6, 2) := by decide +kernel
theorem dX2_atFirst_31 : decode cX2_atFirst 31 = .ok (.aload_n 0, 1) := by decide +kernel
theorem dX2_atFirst_32 : decode cX2_atFirst 32 = .ok (.getfield 21, 3) := by decide +kernel
theorem dX2_atFirst_35 : decode cX2_atFirst 35 = .ok (.iload 5, 2) := by decide +kernel
theorem dX2_atFirst_37 : decode cX2_atFirst 37 = .ok (.iaload, 1) := by decide +kernel
theorem dX2_atFirst_38 : decode cX2_atFirst 38 = .ok (.iload_n 2, 1) := by decide +kernel
theorem dX2_atFirst_39 : decode cX2_atFirst 39 = .ok (.if_icmp .ne 17, 3) := by decide +kernel
theorem dX2_atFirst_56 : decode cX2_atFirst 56 = .ok (.iload 4, 2) := by decide +kernel
theorem dX2_atFirst_58 : decode cX2_atFirst 58 = .ok (.iload 6, 2) := by decide +kernel
theorem dX2_atFirst_60 : decode cX2_atFirst 60 = .ok (.idiv, 1) := by decide +kernel
theorem dX2_atFirst_61 : decode cX2_atFirst 61 = .ok (.istore 4, 2) := by decide +kernel
theorem dX2_atFirst_63 : decode cX2_atFirst 63 = .ok (.iinc 5 (-1), 3) := by decide +kernel
theorem dX2_atFirst_66 : decode cX2_atFirst 66 = .ok (.goto (-48), 3) := by decide +kernel
theorem dX2_atFirst_42 : decode cX2_atFirst 42 = .ok (.aload_n 0, 1) := by decide +kernel
theorem dX2_atFirst_43 : decode cX2_atFirst 43 = .ok (.getfield 24, 3) := by decide +kernel
theorem dX2_atFirst_46 : decode cX2_atFirst 46 = .ok (.iload 5, 2) := by decide +kernel
theorem dX2_atFirst_48 : decode cX2_atFirst 48 = .ok (.iaload, 1) := by decide +kernel
theorem dX2_atFirst_49 : decode cX2_atFirst 49 = .ok (.iload 4, 2) := by decide +kernel
theorem dX2_atFirst_51 : decode cX2_atFirst 51 = .ok (.iload 6, 2) := by decide +kernel
theorem dX2_atFirst_53 : decode cX2_atFirst 53 = .ok (.irem, 1) := by decide +kernel
theorem dX2_atFirst_54 : decode cX2_atFirst 54 = .ok (.iadd, 1) := by decide +kernel
theorem dX2_atFirst_55 : decode cX2_atFirst 55 = .ok (.istore_n 3, 1) := by decide +kernel
theorem dX2_atFirst_0 : decode cX2_atFirst 0 = .ok (.aload_n 0, 1) := by decide +kernel
theorem dX2_atFirst_1 : decode cX2_atFirst 1 = .ok (.getfield 18, 3) := by decide +kernel
theorem dX2_atFirst_4 : decode cX2_atFirst 4 = .ok (.iload_n 2, 1) := by decide +kernel
theorem dX2_atFirst_5 : decode cX2_atFirst 5 = .ok (.iaload, 1) := by decide +kernel
theorem dX2_atFirst_6 : decode cX2_atFirst 6 = .ok (.istore_n 3, 1) := by decide +kernel
theorem dX2_atFirst_7 : decode cX2_atFirst 7 = .ok (.iload_n 1, 1) := by decide +kernel
theorem dX2_atFirst_8 : decode cX2_atFirst 8 = .ok (.istore 4, 2) := by decide +kernel
theorem dX2_atFirst_10 : decode cX2_atFirst 10 = .ok (.aload_n 0, 1) := by decide +kernel
theorem dX2_atFirst_11 : decode cX2_atFirst 11 = .ok (.getfield 51, 3) := by decide +kernel
theorem dX2_atFirst_14 : decode cX2_atFirst 14 = .ok (.iconst 1, 1) := by decide +kernel
theorem dX2_atFirst_15 : decode cX2_atFirst 15 = .ok (.isub, 1) := by decide +kernel
theorem dX2_atFirst_16 : decode cX2_atFirst 16 = .ok (.istore 5, 2) := by decide +kernel
theorem dX2_atFirst_70 : decode cX2_atFirst 70 = .ok (.ireturn, 1) := by decide +kernel
theorem dX7_within_0 : decode cX7_within 0 = .ok (.iload_n 0, 1) := by decide +kernel
theorem dX7_within_1 : decode cX7_within 1 = .ok (.ifCond .lt 12, 3) := by decide +kernel
theorem dX7_within_13 : decode cX7_within 13 = .ok (.iconst 0, 1) := by decide +kernel
theorem dX7_within_4 : decode cX7_within 4 = .ok (.iload_n 0, 1) := by decide +kernel
theorem dX7_within_5 : decode cX7_within 5 = .ok (.iload_n 1, 1) := by decide +kernel
theorem dX7_within_6 : decode cX7_within 6 = .ok (.if_icmp .ge 7, 3) := by decide +kernel
theorem dX7_within_9 : decode cX7_within 9 = .ok (.iconst 1, 1) := by decide +kernel
theorem dX7_within_10 : decode cX7_within 10 = .ok (.goto 4, 3) := by decide +kernel
theorem dX7_within_14 : decode cX7_within 14 = .ok (.ireturn, 1) := by decide +kernel
def xob (mm : Nat → Nat) (pg : Nat) (x7 x8 x9 x10 x11 : Int32) : List Value := [.ref pg, .ref (mm 0), .ref (mm 1), .ref (mm 2), .ref (mm 3), .ref (mm 4), .ref (mm 5), .int x7, .int x8, .int x9, .int x10, .int x11]

def pob (pa : Nat → Nat) (x0 x3 x5 x9 : Int32) : List Value := [.int x0, .ref (pa 0), .ref (pa 1), .int x3, .ref (pa 2), .int x5, .ref (pa 3), .ref (pa 4), .ref (pa 5), .int x9, .ref (pa 6), .ref (pa 7), .ref (pa 8), .ref (pa 9), .ref (pa 10), .ref (pa 11), .ref (pa 12)]

def sob (sa : Nat → Nat) (x0 : Option Nat) (x1 : Int32) : List Value := [va_rf x0, .int x1, .ref (sa 0), .ref (sa 1), .ref (sa 2), .ref (sa 3)]

def tob (ta : Nat → Nat) (x1 x5 : Int32) : List Value := [.ref (ta 0), .int x1, .ref (ta 1), .ref (ta 2), .ref (ta 3), .int x5]

def wW_J7_fill_53178 (ak : Nat → ClassId) (ad : Nat → Nat) (ra : Nat) (rl : Nat) (Ar : Nat → Int32) : va_W := [(ra, .inl (ak 0, rl, .inl (Ar)))]
def lb_J7_fill_53178_5 (rl : Nat) (xv : Int32)  (Φ : (Nat → Int32) → Prop) (back : (Nat → Int32) → Int32 → Int32 → Prop) (Ar : Nat → Int32) (l2 : Int32) (l3 : Int32) : Prop := (l3 ≤ l2 → Φ Ar) ∧ (¬ l3 ≤ l2 → vp_in l2 rl ∧ back (upd Ar (l2).toNatClampNeg xv) (l2 + 1) l3)
def lf_J7_fill_53178_5 (rl : Nat) (xv : Int32)  (Φ : (Nat → Int32) → Prop) : Nat → (Nat → Int32) → Int32 → Int32 → Prop
  | 0, _, _, _ => False
  | n_ + 1, Ar, l2, l3 => lb_J7_fill_53178_5 rl xv  Φ (lf_J7_fill_53178_5 rl xv  Φ n_) Ar l2 l3
theorem li_J7_fill_53178_5 (rl : Nat) (xv : Int32)  (Φ : (Nat → Int32) → Prop) (Inv : (Nat → Int32) → Int32 → Int32 → Prop) (mu : (Nat → Int32) → Int32 → Int32 → Nat) (hs : ∀ (back : (Nat → Int32) → Int32 → Int32 → Prop) (Ar : Nat → Int32) (l2 : Int32) (l3 : Int32), Inv Ar l2 l3 → (∀ (Ar' : Nat → Int32) (l2' : Int32) (l3' : Int32), Inv Ar' l2' l3' → mu Ar' l2' l3' < mu Ar l2 l3 → back Ar' l2' l3') → lb_J7_fill_53178_5 rl xv  Φ back Ar l2 l3) : ∀ (n_ : Nat) (Ar : Nat → Int32) (l2 : Int32) (l3 : Int32), Inv Ar l2 l3 → mu Ar l2 l3 < n_ → lf_J7_fill_53178_5 rl xv  Φ n_ Ar l2 l3 := by
  intro n_
  induction n_ with
  | zero => intro Ar l2 l3 _ h; exact absurd h (Nat.not_lt_zero _)
  | succ n_ ih => intro Ar l2 l3 hI hm; exact hs _ Ar l2 l3 hI (fun Ar' l2' l3' h1 h2 => ih Ar' l2' l3' h1 (by omega))
set_option maxHeartbeats 4000000 in
set_option maxRecDepth 100000 in
theorem lp_J7_fill_53178_5 {p : Program} {l : Launch} {e : Env} {R : Room} {s : State} {m : MethodId} {args : Array Value} {below : List Frame} {meth : Method} {c : Code} {cells slots : Nat} {Q : State → Prop} {A : Nat → Prop} {D : va_G} {ak : Nat → ClassId} {ad : Nat → Nat} (hx : p.tables.exec = Jvm.exec) (hb : c.code = cJ7_fill_53178) (hown : s.vm.findClass RJ7 = some m.cls) (hts : ∀ w ∈ wsJ7_fill_53178, w.before args s = true) (hml : c.maxLocals = 4) (hE : EV D ak s) (hT : ST D ak ad A s s.heap) (hA : ∀ q, s.heap.size ≤ q → A q) (ra : Nat) (rl : Nat) (xv : Int32)  (Φ : (Nat → Int32) → Prop)
    (kR20 : ∀ (Ar : Nat → Int32) (H : Heap) (locs : List Loc) (ls : Array Slot), Φ Ar → va_P D vwCl (wW_J7_fill_53178 ak ad ra rl Ar) H → va_D A (wW_J7_fill_53178 ak ad ra rl Ar) → va_S A s.heap H locs → W p l e R s m args below meth c H locs cells slots Q (F0 m 20 ls []))
    : ∀ (n_ : Nat) (Ar : Nat → Int32) (l2 : Int32) (l3 : Int32) (H : Heap) (locs : List Loc) (ls : Array Slot), lf_J7_fill_53178_5 rl xv  Φ n_ Ar l2 l3 → va_P D vwCl (wW_J7_fill_53178 ak ad ra rl Ar) H → va_D A (wW_J7_fill_53178 ak ad ra rl Ar) → va_S A s.heap H locs → lv_has ls 4 [(0, .ref ra), (1, .int (xv)), (2, .int (l2)), (3, .int (l3))] → W p l e R s m args below meth c H locs cells slots Q (F0 m 5 ls ([])) := by
  intro n_
  induction n_ with
  | zero =>
    intro Ar l2 l3 H locs ls hw
    exact hw.elim
  | succ n_ ih =>
    intro Ar l2 l3 H locs ls hw hP hD hS hl
    have hw : lb_J7_fill_53178_5 rl xv  Φ (lf_J7_fill_53178_5 rl xv  Φ n_) Ar l2 l3 := hw
    delta lb_J7_fill_53178_5 at hw
    refine lv_iload_n hx hb dJ7_fill_53178_5 rfl (lv_at hl 2 rfl) ?_
    refine lv_iload_n hx hb dJ7_fill_53178_6 rfl (lv_at hl 3 rfl) ?_
    refine lv_icmp_ge (tgt := 20) hx hb dJ7_fill_53178_7 (by decide) (fun c_1 => ?_) (fun c_1 => ?_)
    · replace hw := hw.1 c_1
      exact kR20 Ar _ _ _ hw hP hD hS
    · replace hw := hw.2 c_1
      refine lv_aload_n hx hb dJ7_fill_53178_10 rfl (lv_at hl 0 rfl) ?_
      refine lv_iload_n hx hb dJ7_fill_53178_11 rfl (lv_at hl 2 rfl) ?_
      refine lv_iload_n hx hb dJ7_fill_53178_12 rfl (lv_at hl 1 rfl) ?_
      obtain ⟨h_2, hw⟩ := hw
      refine va_iast hx hb hE.1 hP hD hS 0 0 rfl rfl (h_2) dJ7_fill_53178_13 (fun H locs hP hD hS => ?_)
      have hP : va_P D vwCl (wW_J7_fill_53178 ak ad ra rl (upd Ar (l2).toNatClampNeg xv)) H := hP
      have hD : va_D A (wW_J7_fill_53178 ak ad ra rl (upd Ar (l2).toNatClampNeg xv)) := hD
      refine lv_iinc (v := (l2 + 1)) (lv' := [(2, .int (l2 + 1)), (0, .ref ra), (1, .int (xv)), (3, .int (l3))]) hx hb dJ7_fill_53178_14 hl (k := 2) rfl (rfl) (by decide) rfl (fun ls hl => ?_)
      refine lv_goto (tgt := 5) hx hb dJ7_fill_53178_17 (by decide) ?_
      exact ih (upd Ar (l2).toNatClampNeg xv) (l2 + 1) l3 _ _ _ hw hP hD hS (lv_sub hl [1, 2, 0, 3] rfl)

def wp_J7_fill_53178 (rl : Nat) (xv : Int32) (Ar : Nat → Int32) (Φ : (Nat → Int32) → Prop) : Prop := (∃ n_, lf_J7_fill_53178_5 rl xv  Φ n_ Ar 0 (nI rl))
set_option maxHeartbeats 4000000 in
set_option maxRecDepth 100000 in
theorem kj_J7_fill_53178_e {p : Program} {l : Launch} {e : Env} {R : Room} {s : State} {m : MethodId} {args : Array Value} {below : List Frame} {meth : Method} {c : Code} {cells slots : Nat} {Q : State → Prop} {A : Nat → Prop} {D : va_G} {ak : Nat → ClassId} {ad : Nat → Nat} (hx : p.tables.exec = Jvm.exec) (hb : c.code = cJ7_fill_53178) (hown : s.vm.findClass RJ7 = some m.cls) (hts : ∀ w ∈ wsJ7_fill_53178, w.before args s = true) (hml : c.maxLocals = 4) (hE : EV D ak s) (hT : ST D ak ad A s s.heap) (hA : ∀ q, s.heap.size ≤ q → A q) (ra : Nat) (rl : Nat) (xv : Int32)  (Φ : (Nat → Int32) → Prop)
    (kR20 : ∀ (Ar : Nat → Int32) (H : Heap) (locs : List Loc) (ls : Array Slot), Φ Ar → va_P D vwCl (wW_J7_fill_53178 ak ad ra rl Ar) H → va_D A (wW_J7_fill_53178 ak ad ra rl Ar) → va_S A s.heap H locs → W p l e R s m args below meth c H locs cells slots Q (F0 m 20 ls []))
    : ∀ (Ar : Nat → Int32) (H : Heap) (locs : List Loc) (ls : Array Slot), wp_J7_fill_53178 rl xv Ar Φ → va_P D vwCl (wW_J7_fill_53178 ak ad ra rl Ar) H → va_D A (wW_J7_fill_53178 ak ad ra rl Ar) → va_S A s.heap H locs → lv_has ls 4 [(0, .ref ra), (1, .int (xv))] → W p l e R s m args below meth c H locs cells slots Q (F0 m 0 ls ([])) := by
  intro Ar H locs ls hw hP hD hS hl
  delta wp_J7_fill_53178 at hw
  refine lv_iconst (v := 0) hx hb dJ7_fill_53178_0 (by decide) ?_
  refine lv_istore_n (lv' := [(2, .int (0)), (0, .ref ra), (1, .int (xv))]) hx hb dJ7_fill_53178_1 rfl hl (by decide) rfl (fun ls hl => ?_)
  refine lv_aload_n hx hb dJ7_fill_53178_2 rfl (lv_at hl 1 rfl) ?_
  refine va_alen hx hb hE.1 hP 0 0 rfl rfl (v := nI rl) rfl dJ7_fill_53178_3 ?_
  refine lv_istore_n (lv' := [(3, .int (nI rl)), (2, .int (0)), (0, .ref ra), (1, .int (xv))]) hx hb dJ7_fill_53178_4 rfl hl (by decide) rfl (fun ls hl => ?_)
  obtain ⟨n1_, hw⟩ := hw
  exact lp_J7_fill_53178_5 hx hb hown hts hml hE hT hA ra rl xv  Φ  kR20 n1_ Ar 0 (nI rl) _ _ _ hw hP hD hS (lv_sub hl [2, 3, 1, 0] rfl)
set_option maxHeartbeats 4000000 in
set_option maxRecDepth 100000 in
theorem c_J7_fill_53178 (l : Launch) (D : va_G) (ak : Nat → ClassId) (ad : Nat → Nat) (sz : Nat) (ra : Nat) (rl : Nat) (Ar : Nat → Int32) (xv : Int32) (Φ : (Nat → Int32) → Prop) (hf : wp_J7_fill_53178 rl xv Ar Φ) : Met l yJ7_fill_53178 wsJ7_fill_53178 ({ frames := 0, cells := 0, slots := 0, locals := 0 }) (cPre D ak ad [.ref ra, .int (xv)] ((wW_J7_fill_53178 ak ad ra rl Ar)) sz) (cV D (S := (Nat → Int32)) (fun (u : (Nat → Int32)) => Φ u) (fun u => (wW_J7_fill_53178 ak ad ra rl u)) ((wW_J7_fill_53178 ak ad ra rl Ar)) sz) 0 0 (va_A ((wW_J7_fill_53178 ak ad ra rl Ar)) sz) := by
  refine Met.ofW (cc := cJ7_fill_53178) (maxL := 4) (ret := none) (by decide) rfl ?_
  intro p e s m args below meth c s₁ B hml hv
  obtain ⟨rfl, hsz, hP, hE, hD0, hT⟩ := hv
  have hx := B.exec
  have hb := B.bytes
  have hr := B.returns
  have hts := atoms_spec (ws := wsJ7_fill_53178) B.pre
  have hown : s.vm.findClass RJ7 = some m.cls := findClass_of_methodNamed B.named
  have hlocks := B.notSynchronized
  subst hsz
  have hD := hD0.self (sz := s.heap.size)
  generalize hAe : va_A ((wW_J7_fill_53178 ak ad ra rl Ar)) s.heap.size = A at hD hT ⊢
  have hA : ∀ q : Nat, s.heap.size ≤ q → A q := fun q h => by rw [← hAe]; exact Or.inr h
  have hS : va_S A s.heap s.heap [] := va_S.rf
  have hl := lv_entry ([.ref ra, .int (xv)]) (n := 4) (Nat.le_of_ble_eq_true rfl)
  rw [lg_entry_eq]
  generalize (lg_sl ([.ref ra, .int (xv)]) ++ List.replicate (4 - (lg_sl ([.ref ra, .int (xv)])).length) Slot.unset).toArray = ls at hl ⊢
  have hl : lv_has ls 4 [(0, .ref ra), (1, .int (xv))] := hl
  exact kj_J7_fill_53178_e hx hb hown hts hml hE hT hA ra rl xv Φ (fun Ar H locs ls hw hP hD hS => W.vret hx hb hr (fun t ht hW => ⟨⟨Ar, rfl, hw, by rw [ht]; exact hP, by rw [hAe]; exact hD⟩, by rw [hAe]; exact hS.F ht⟩) hS.2.2 dJ7_fill_53178_20) Ar _ _ _ hf hP hD hS hl

def wK_X2_width (ak : Nat → ClassId) (ad : Nat → Nat) (pg : Nat) (pa : Nat → Nat) (Pst : Int32) (Pce : Int32) (Pgi : Int32) (Pln : Int32) (Pleast : Nat → Int32) (Pgreat : Nat → Int32) : va_W := [(pg, .inr (2, pob pa (Pst) (Pce) (Pgi) (Pln))), ((pa 4), .inl (ak 0, 2, .inl (Pleast))), ((pa 5), .inl (ak 0, 2, .inl (Pgreat)))]
def wp_X2_width (Pleast : Nat → Int32) (Pgreat : Nat → Int32) (xi : Int32)  (Φ : Int32 → Prop) : Prop := vp_in xi 2 ∧ vp_in xi 2 ∧ Φ (if (1 : Int32) < (((Pgreat (xi).toNatClampNeg) - (Pleast (xi).toNatClampNeg)) + 1) then (((Pgreat (xi).toNatClampNeg) - (Pleast (xi).toNatClampNeg)) + 1) else (1 : Int32)) 
set_option maxHeartbeats 4000000 in
set_option maxRecDepth 100000 in
theorem kj_X2_width_e {p : Program} {l : Launch} {e : Env} {R : Room} {s : State} {m : MethodId} {args : Array Value} {below : List Frame} {meth : Method} {c : Code} {cells slots : Nat} {Q : State → Prop} {A : Nat → Prop} {D : va_G} {ak : Nat → ClassId} {ad : Nat → Nat} (hx : p.tables.exec = Jvm.exec) (hb : c.code = cX2_width) (hown : s.vm.findClass RX2 = some m.cls) (hts : ∀ w ∈ wsX2_width, w.before args s = true) (hml : c.maxLocals = 2) (hE : EV D ak s) (hT : ST D ak ad A s s.heap) (hA : ∀ q, s.heap.size ≤ q → A q) (hRf : 1 ≤ R.frames) (hRl : 13 ≤ R.locals) (hRc : cells ≤ R.cells ∧ slots ≤ R.slots) (pg : Nat) (pa : Nat → Nat) (Pst : Int32) (Pce : Int32) (Pgi : Int32) (Pln : Int32) (Pleast : Nat → Int32) (Pgreat : Nat → Int32) (xi : Int32) (hKT : KT D A (wK_X2_width ak ad pg pa Pst Pce Pgi Pln Pleast Pgreat) s.heap)  (Φ : Int32 → Prop)
    (kR19 : ∀ (r : Int32)  (H : Heap) (locs : List Loc) (ls : Array Slot), Φ r  → va_P D vwCl [] H → va_D A [] → va_S A s.heap H locs → W p l e R s m args below meth c H locs cells slots Q (F0 m 19 ls [.int r]))
    : ∀  (H : Heap) (locs : List Loc) (ls : Array Slot), wp_X2_width Pleast Pgreat xi  Φ → va_P D vwCl [] H → va_D A [] → va_S A s.heap H locs → lv_has ls 2 [(0, .ref pg), (1, .int (xi))] → W p l e R s m args below meth c H locs cells slots Q (F0 m 0 ls ([])) := by
  have hCW : ∀ {H : Heap} {locs : List Loc}, va_S A s.heap H locs → va_P D vwCl (wK_X2_width ak ad pg pa Pst Pce Pgi Pln Pleast Pgreat) H := fun hS => (hKT.kept hS.2.1).1
  intro  H locs ls hw hP hD hS hl
  delta wp_X2_width at hw
  refine lv_iconst (v := 1) hx hb dX2_width_0 (by decide) ?_
  refine lv_aload_n hx hb dX2_width_1 rfl (lv_at hl 0 rfl) ?_
  refine va_get (D := D) (ci := 2) (v := .ref (pa 5)) (C := RX2) (T := TX2) (N := 17) hx hb hts (fun w h => wm_c (wc_X2 w h)) hown hE.1 (hCW hS) 0 rfl rfl 8 (by decide) (hts (.fieldLink RX2 27 "WornLines$Programme" "greatest" "[I") (wm_c hw_277)) (fun _ h9 => h9) rfl dX2_width_2 ?_
  refine lv_iload_n hx hb dX2_width_5 rfl (lv_at hl 1 rfl) ?_
  obtain ⟨h_1, hw⟩ := hw
  refine va_iald hx hb hE.1 (hCW hS) 2 0 rfl rfl (h_1) dX2_width_6 ?_
  refine lv_aload_n hx hb dX2_width_7 rfl (lv_at hl 0 rfl) ?_
  refine va_get (D := D) (ci := 2) (v := .ref (pa 4)) (C := RX2) (T := TX2) (N := 17) hx hb hts (fun w h => wm_c (wc_X2 w h)) hown hE.1 (hCW hS) 0 rfl rfl 7 (by decide) (hts (.fieldLink RX2 24 "WornLines$Programme" "least" "[I") (wm_c hw_276)) (fun _ h9 => h9) rfl dX2_width_8 ?_
  refine lv_iload_n hx hb dX2_width_11 rfl (lv_at hl 1 rfl) ?_
  obtain ⟨h_2, hw⟩ := hw
  refine va_iald hx hb hE.1 (hCW hS) 1 0 rfl rfl (h_2) dX2_width_12 ?_
  refine lv_isub hx hb dX2_width_13 ?_
  refine lv_iconst (v := 1) hx hb dX2_width_14 (by decide) ?_
  refine lv_iadd hx hb dX2_width_15 ?_
  refine va_mmax hx hb (by rw [hml]; exact hl.1.symm) hown (hts (.methodLink RX2 59 Lib.Math.max.name) (wm_c hw_313)) (hts (.static Lib.Math.max.name) (wm_c hw_183)) (hts (.initialized "java/lang/Math") (wm_c hw_184)) (hts (.code Lib.Math.max.name Lib.Math.max.code 2 (some .int)) (wm_c hw_185)) (Nat.le_trans (Nat.le_of_ble_eq_true rfl) hRf) (Nat.le_trans (Nat.le_of_ble_eq_true rfl) hRl) hRc.1 hRc.2 dX2_width_16 ?_
  exact kR19 (if (1 : Int32) < (((Pgreat (xi).toNatClampNeg) - (Pleast (xi).toNatClampNeg)) + 1) then (((Pgreat (xi).toNatClampNeg) - (Pleast (xi).toNatClampNeg)) + 1) else (1 : Int32))  _ _ _ hw hP hD hS
set_option maxHeartbeats 4000000 in
set_option maxRecDepth 100000 in
theorem c_X2_width (l : Launch) (D : va_G) (ak : Nat → ClassId) (ad : Nat → Nat) (sz : Nat) (pg : Nat) (pa : Nat → Nat) (Pst : Int32) (Pce : Int32) (Pgi : Int32) (Pln : Int32) (Pleast : Nat → Int32) (Pgreat : Nat → Int32) (xi : Int32) (Φ : Int32 → Prop) (hf : wp_X2_width Pleast Pgreat xi Φ) : Met l yX2_width wsX2_width ({ frames := 1, cells := 0, slots := 0, locals := 13 }) (cPreK D ak ad [.ref pg, .int (xi)] ([]) sz ((wK_X2_width ak ad pg pa Pst Pce Pgi Pln Pleast Pgreat))) (cI D (S := Unit) (fun (r : Int32) (u : Unit) => Φ r ) (fun u => []) ([]) sz) 0 0 (va_A ([]) sz) := by
  refine Met.ofW (cc := cX2_width) (maxL := 2) (ret := (some .int)) (by decide) rfl ?_
  intro p e s m args below meth c s₁ B hml hv
  obtain ⟨⟨rfl, hsz, hP, hE, hD0, hT⟩, hKT⟩ := hv
  have hx := B.exec
  have hb := B.bytes
  have hr := B.returns
  have hts := atoms_spec (ws := wsX2_width) B.pre
  have hown : s.vm.findClass RX2 = some m.cls := findClass_of_methodNamed B.named
  have hlocks := B.notSynchronized
  subst hsz
  have hD := hD0.self (sz := s.heap.size)
  generalize hAe : va_A ([]) s.heap.size = A at hD hT hKT ⊢
  have hA : ∀ q : Nat, s.heap.size ≤ q → A q := fun q h => by rw [← hAe]; exact Or.inr h
  have hS : va_S A s.heap s.heap [] := va_S.rf
  have hl := lv_entry ([.ref pg, .int (xi)]) (n := 2) (Nat.le_of_ble_eq_true rfl)
  rw [lg_entry_eq]
  generalize (lg_sl ([.ref pg, .int (xi)]) ++ List.replicate (2 - (lg_sl ([.ref pg, .int (xi)])).length) Slot.unset).toArray = ls at hl ⊢
  have hl : lv_has ls 2 [(0, .ref pg), (1, .int (xi))] := hl
  exact kj_X2_width_e hx hb hown hts hml hE hT hA (Nat.le_of_ble_eq_true rfl) (Nat.le_of_ble_eq_true rfl) ⟨Nat.le_of_ble_eq_true rfl, Nat.le_of_ble_eq_true rfl⟩ pg pa Pst Pce Pgi Pln Pleast Pgreat xi hKT Φ (fun r  H locs ls hw hP hD hS => W.iret (v := r) hx hb hr (fun t ht hW => ⟨⟨r, (), rfl, hw, by rw [ht]; exact hP, by rw [hAe]; exact hD⟩, by rw [hAe]; exact hS.F ht⟩) hS.2.2 dX2_width_19)  _ _ _ hf hP hD hS hl

def wK_X2_inputCount (ak : Nat → ClassId) (ad : Nat → Nat) (pg : Nat) (pa : Nat → Nat) (Pst : Int32) (Pce : Int32) (Pgi : Int32) (Pln : Int32) (Pleast : Nat → Int32) (Pgreat : Nat → Int32) : va_W := [(pg, .inr (2, pob pa (Pst) (Pce) (Pgi) (Pln))), ((pa 4), .inl (ak 0, 2, .inl (Pleast))), ((pa 5), .inl (ak 0, 2, .inl (Pgreat)))]
def lb_X2_inputCount_4 (Pgi : Int32) (Pleast : Nat → Int32) (Pgreat : Nat → Int32)  (Φ : Int32 → Prop) (back : Int32 → Int32 → Prop) (l1 : Int32) (l2 : Int32) : Prop := (Pgi ≤ l2 → Φ l1 ) ∧ (¬ Pgi ≤ l2 → wp_X2_width Pleast Pgreat l2 (fun r_3 => back (l1 * r_3) (l2 + 1)))
def lf_X2_inputCount_4 (Pgi : Int32) (Pleast : Nat → Int32) (Pgreat : Nat → Int32)  (Φ : Int32 → Prop) : Nat → Int32 → Int32 → Prop
  | 0, _, _ => False
  | n_ + 1, l1, l2 => lb_X2_inputCount_4 Pgi Pleast Pgreat  Φ (lf_X2_inputCount_4 Pgi Pleast Pgreat  Φ n_) l1 l2
theorem li_X2_inputCount_4 (Pgi : Int32) (Pleast : Nat → Int32) (Pgreat : Nat → Int32)  (Φ : Int32 → Prop) (Inv : Int32 → Int32 → Prop) (mu : Int32 → Int32 → Nat) (hs : ∀ (back : Int32 → Int32 → Prop) (l1 : Int32) (l2 : Int32), Inv l1 l2 → (∀ (l1' : Int32) (l2' : Int32), Inv l1' l2' → mu l1' l2' < mu l1 l2 → back l1' l2') → lb_X2_inputCount_4 Pgi Pleast Pgreat  Φ back l1 l2) : ∀ (n_ : Nat) (l1 : Int32) (l2 : Int32), Inv l1 l2 → mu l1 l2 < n_ → lf_X2_inputCount_4 Pgi Pleast Pgreat  Φ n_ l1 l2 := by
  intro n_
  induction n_ with
  | zero => intro l1 l2 _ h; exact absurd h (Nat.not_lt_zero _)
  | succ n_ ih => intro l1 l2 hI hm; exact hs _ l1 l2 hI (fun l1' l2' h1 h2 => ih l1' l2' h1 (by omega))
set_option maxHeartbeats 4000000 in
set_option maxRecDepth 100000 in
theorem lp_X2_inputCount_4 {p : Program} {l : Launch} {e : Env} {R : Room} {s : State} {m : MethodId} {args : Array Value} {below : List Frame} {meth : Method} {c : Code} {cells slots : Nat} {Q : State → Prop} {A : Nat → Prop} {D : va_G} {ak : Nat → ClassId} {ad : Nat → Nat} (hx : p.tables.exec = Jvm.exec) (hb : c.code = cX2_inputCount) (hown : s.vm.findClass RX2 = some m.cls) (hts : ∀ w ∈ wsX2_inputCount, w.before args s = true) (hml : c.maxLocals = 3) (hE : EV D ak s) (hT : ST D ak ad A s s.heap) (hA : ∀ q, s.heap.size ≤ q → A q) (hRf : 2 ≤ R.frames) (hRl : 34 ≤ R.locals) (hRc : cells ≤ R.cells ∧ slots ≤ R.slots) (pg : Nat) (pa : Nat → Nat) (Pst : Int32) (Pce : Int32) (Pgi : Int32) (Pln : Int32) (Pleast : Nat → Int32) (Pgreat : Nat → Int32) (hKT : KT D A (wK_X2_inputCount ak ad pg pa Pst Pce Pgi Pln Pleast Pgreat) s.heap)  (Φ : Int32 → Prop)
    (kR27 : ∀ (r : Int32)  (H : Heap) (locs : List Loc) (ls : Array Slot), Φ r  → va_P D vwCl [] H → va_D A [] → va_S A s.heap H locs → W p l e R s m args below meth c H locs cells slots Q (F0 m 27 ls [.int r]))
    : ∀ (n_ : Nat) (l1 : Int32) (l2 : Int32) (H : Heap) (locs : List Loc) (ls : Array Slot), lf_X2_inputCount_4 Pgi Pleast Pgreat  Φ n_ l1 l2 → va_P D vwCl [] H → va_D A [] → va_S A s.heap H locs → lv_has ls 3 [(0, .ref pg), (1, .int (l1)), (2, .int (l2))] → W p l e R s m args below meth c H locs cells slots Q (F0 m 4 ls ([])) := by
  have hCW : ∀ {H : Heap} {locs : List Loc}, va_S A s.heap H locs → va_P D vwCl (wK_X2_inputCount ak ad pg pa Pst Pce Pgi Pln Pleast Pgreat) H := fun hS => (hKT.kept hS.2.1).1
  intro n_
  induction n_ with
  | zero =>
    intro l1 l2 H locs ls hw
    exact hw.elim
  | succ n_ ih =>
    intro l1 l2 H locs ls hw hP hD hS hl
    have hw : lb_X2_inputCount_4 Pgi Pleast Pgreat  Φ (lf_X2_inputCount_4 Pgi Pleast Pgreat  Φ n_) l1 l2 := hw
    delta lb_X2_inputCount_4 at hw
    refine lv_iload_n hx hb dX2_inputCount_4 rfl (lv_at hl 2 rfl) ?_
    refine lv_aload_n hx hb dX2_inputCount_5 rfl (lv_at hl 0 rfl) ?_
    refine va_get (D := D) (ci := 2) (v := .int (Pgi)) (C := RX2) (T := TX2) (N := 17) hx hb hts (fun w h => wm_c (wc_X2 w h)) hown hE.1 (hCW hS) 0 rfl rfl 5 (by decide) (hts (.fieldLink RX2 51 "WornLines$Programme" "given" "I") (wm_c hw_314)) (fun _ h9 => h9) rfl dX2_inputCount_6 ?_
    refine lv_icmp_ge (tgt := 26) hx hb dX2_inputCount_9 (by decide) (fun c_1 => ?_) (fun c_1 => ?_)
    · replace hw := hw.1 c_1
      refine lv_iload_n hx hb dX2_inputCount_26 rfl (lv_at hl 1 rfl) ?_
      exact kR27 l1  _ _ _ hw hP hD hS
    · replace hw := hw.2 c_1
      refine lv_iload_n hx hb dX2_inputCount_12 rfl (lv_at hl 1 rfl) ?_
      refine lv_aload_n hx hb dX2_inputCount_13 rfl (lv_at hl 0 rfl) ?_
      refine lv_iload_n hx hb dX2_inputCount_14 rfl (lv_at hl 2 rfl) ?_
      refine kc_i (wc := []) (wr := []) hP hD hS hA [] [] rfl rfl (by decide) (by decide) (va_runV (As := [.int (l2)]) (rest := [.int (l1)]) ⟨hx, hb, hml, hown, hts⟩ (c_X2_width l D ak ad _ pg pa Pst Pce Pgi Pln Pleast Pgreat l2 _ hw) (cwV 1 hts gX2_inputCount_X2_width rfl rfl rfl (by decide +kernel) ⟨(Nat.le_trans (Nat.le_of_ble_eq_true rfl) hRf), (Nat.le_trans (Nat.le_of_ble_eq_true rfl) hRl)⟩) (kc_preVK (As := [.int (l2)]) (wc := []) (ck := (wK_X2_width ak ad pg pa Pst Pce Pgi Pln Pleast Pgreat)) hKT hE hT hP hD hS hA [] [0, 1, 2] (by decide) rfl rfl rfl (hCW hS) 0 2 rfl rfl rfl) rfl rfl hl.1 rfl (lv_room (Nat.le_of_ble_eq_true rfl)) dX2_inputCount_15 ⟨hRc.1, hRc.2⟩) (fun r_3 u_2 H locs hw hP hD hS => ?_)
      try dsimp -zeta only at hw
      refine lv_imul hx hb dX2_inputCount_18 ?_
      refine lv_istore_n (lv' := [(1, .int (l1 * r_3)), (0, .ref pg), (2, .int (l2))]) hx hb dX2_inputCount_19 rfl hl (by decide) rfl (fun ls hl => ?_)
      refine lv_iinc (v := (l2 + 1)) (lv' := [(2, .int (l2 + 1)), (1, .int (l1 * r_3)), (0, .ref pg)]) hx hb dX2_inputCount_20 hl (k := 2) rfl (rfl) (by decide) rfl (fun ls hl => ?_)
      refine lv_goto (tgt := 4) hx hb dX2_inputCount_23 (by decide) ?_
      exact ih (l1 * r_3) (l2 + 1) _ _ _ hw hP hD hS (lv_sub hl [2, 1, 0] rfl)

def wp_X2_inputCount (Pgi : Int32) (Pleast : Nat → Int32) (Pgreat : Nat → Int32)  (Φ : Int32 → Prop) : Prop := (∃ n_, lf_X2_inputCount_4 Pgi Pleast Pgreat  Φ n_ 1 0)
set_option maxHeartbeats 4000000 in
set_option maxRecDepth 100000 in
theorem kj_X2_inputCount_e {p : Program} {l : Launch} {e : Env} {R : Room} {s : State} {m : MethodId} {args : Array Value} {below : List Frame} {meth : Method} {c : Code} {cells slots : Nat} {Q : State → Prop} {A : Nat → Prop} {D : va_G} {ak : Nat → ClassId} {ad : Nat → Nat} (hx : p.tables.exec = Jvm.exec) (hb : c.code = cX2_inputCount) (hown : s.vm.findClass RX2 = some m.cls) (hts : ∀ w ∈ wsX2_inputCount, w.before args s = true) (hml : c.maxLocals = 3) (hE : EV D ak s) (hT : ST D ak ad A s s.heap) (hA : ∀ q, s.heap.size ≤ q → A q) (hRf : 2 ≤ R.frames) (hRl : 34 ≤ R.locals) (hRc : cells ≤ R.cells ∧ slots ≤ R.slots) (pg : Nat) (pa : Nat → Nat) (Pst : Int32) (Pce : Int32) (Pgi : Int32) (Pln : Int32) (Pleast : Nat → Int32) (Pgreat : Nat → Int32) (hKT : KT D A (wK_X2_inputCount ak ad pg pa Pst Pce Pgi Pln Pleast Pgreat) s.heap)  (Φ : Int32 → Prop)
    (kR27 : ∀ (r : Int32)  (H : Heap) (locs : List Loc) (ls : Array Slot), Φ r  → va_P D vwCl [] H → va_D A [] → va_S A s.heap H locs → W p l e R s m args below meth c H locs cells slots Q (F0 m 27 ls [.int r]))
    : ∀  (H : Heap) (locs : List Loc) (ls : Array Slot), wp_X2_inputCount Pgi Pleast Pgreat  Φ → va_P D vwCl [] H → va_D A [] → va_S A s.heap H locs → lv_has ls 3 [(0, .ref pg)] → W p l e R s m args below meth c H locs cells slots Q (F0 m 0 ls ([])) := by
  have hCW : ∀ {H : Heap} {locs : List Loc}, va_S A s.heap H locs → va_P D vwCl (wK_X2_inputCount ak ad pg pa Pst Pce Pgi Pln Pleast Pgreat) H := fun hS => (hKT.kept hS.2.1).1
  intro  H locs ls hw hP hD hS hl
  delta wp_X2_inputCount at hw
  refine lv_iconst (v := 1) hx hb dX2_inputCount_0 (by decide) ?_
  refine lv_istore_n (lv' := [(1, .int (1)), (0, .ref pg)]) hx hb dX2_inputCount_1 rfl hl (by decide) rfl (fun ls hl => ?_)
  refine lv_iconst (v := 0) hx hb dX2_inputCount_2 (by decide) ?_
  refine lv_istore_n (lv' := [(2, .int (0)), (1, .int (1)), (0, .ref pg)]) hx hb dX2_inputCount_3 rfl hl (by decide) rfl (fun ls hl => ?_)
  obtain ⟨n1_, hw⟩ := hw
  exact lp_X2_inputCount_4 hx hb hown hts hml hE hT hA hRf hRl hRc pg pa Pst Pce Pgi Pln Pleast Pgreat hKT  Φ  kR27 n1_ 1 0 _ _ _ hw hP hD hS (lv_sub hl [2, 1, 0] rfl)
set_option maxHeartbeats 4000000 in
set_option maxRecDepth 100000 in
theorem c_X2_inputCount (l : Launch) (D : va_G) (ak : Nat → ClassId) (ad : Nat → Nat) (sz : Nat) (pg : Nat) (pa : Nat → Nat) (Pst : Int32) (Pce : Int32) (Pgi : Int32) (Pln : Int32) (Pleast : Nat → Int32) (Pgreat : Nat → Int32) (Φ : Int32 → Prop) (hf : wp_X2_inputCount Pgi Pleast Pgreat Φ) : Met l yX2_inputCount wsX2_inputCount ({ frames := 2, cells := 0, slots := 0, locals := 34 }) (cPreK D ak ad [.ref pg] ([]) sz ((wK_X2_inputCount ak ad pg pa Pst Pce Pgi Pln Pleast Pgreat))) (cI D (S := Unit) (fun (r : Int32) (u : Unit) => Φ r ) (fun u => []) ([]) sz) 0 0 (va_A ([]) sz) := by
  refine Met.ofW (cc := cX2_inputCount) (maxL := 3) (ret := (some .int)) (by decide) rfl ?_
  intro p e s m args below meth c s₁ B hml hv
  obtain ⟨⟨rfl, hsz, hP, hE, hD0, hT⟩, hKT⟩ := hv
  have hx := B.exec
  have hb := B.bytes
  have hr := B.returns
  have hts := atoms_spec (ws := wsX2_inputCount) B.pre
  have hown : s.vm.findClass RX2 = some m.cls := findClass_of_methodNamed B.named
  have hlocks := B.notSynchronized
  subst hsz
  have hD := hD0.self (sz := s.heap.size)
  generalize hAe : va_A ([]) s.heap.size = A at hD hT hKT ⊢
  have hA : ∀ q : Nat, s.heap.size ≤ q → A q := fun q h => by rw [← hAe]; exact Or.inr h
  have hS : va_S A s.heap s.heap [] := va_S.rf
  have hl := lv_entry ([.ref pg]) (n := 3) (Nat.le_of_ble_eq_true rfl)
  rw [lg_entry_eq]
  generalize (lg_sl ([.ref pg]) ++ List.replicate (3 - (lg_sl ([.ref pg])).length) Slot.unset).toArray = ls at hl ⊢
  have hl : lv_has ls 3 [(0, .ref pg)] := hl
  exact kj_X2_inputCount_e hx hb hown hts hml hE hT hA (Nat.le_of_ble_eq_true rfl) (Nat.le_of_ble_eq_true rfl) ⟨Nat.le_of_ble_eq_true rfl, Nat.le_of_ble_eq_true rfl⟩ pg pa Pst Pce Pgi Pln Pleast Pgreat hKT Φ (fun r  H locs ls hw hP hD hS => W.iret (v := r) hx hb hr (fun t ht hW => ⟨⟨r, (), rfl, hw, by rw [ht]; exact hP, by rw [hAe]; exact hD⟩, by rw [hAe]; exact hS.F ht⟩) hS.2.2 dX2_inputCount_27)  _ _ _ hf hP hD hS hl

def wK_X2_atFirst (ak : Nat → ClassId) (ad : Nat → Nat) (pg : Nat) (pa : Nat → Nat) (Pst : Int32) (Pce : Int32) (Pgi : Int32) (Pln : Int32) (Ptold : Nat → Int32) (PgivenC : Nat → Int32) (Pleast : Nat → Int32) (Pgreat : Nat → Int32) : va_W := [(pg, .inr (2, pob pa (Pst) (Pce) (Pgi) (Pln))), ((pa 2), .inl (ak 0, 6, .inl (Ptold))), ((pa 3), .inl (ak 0, 2, .inl (PgivenC))), ((pa 4), .inl (ak 0, 2, .inl (Pleast))), ((pa 5), .inl (ak 0, 2, .inl (Pgreat)))]
def lb_X2_atFirst_18 (Pgi : Int32) (Ptold : Nat → Int32) (PgivenC : Nat → Int32) (Pleast : Nat → Int32) (Pgreat : Nat → Int32) (xi : Int32) (xc : Int32)  (Φ : Int32 → Prop) (back : Int32 → Int32 → Int32 → Prop) (l3 : Int32) (l4 : Int32) (l5 : Int32) : Prop := (l5 < 0 → Φ l3 ) ∧ (¬ l5 < 0 → wp_X2_width Pleast Pgreat l5 (fun r_4 => vp_in l5 2 ∧ (¬ (PgivenC (l5).toNatClampNeg) = xc → ¬ r_4 = 0 ∧ back l3 (l4 / r_4) (l5 + (-1))) ∧ ((PgivenC (l5).toNatClampNeg) = xc → vp_in l5 2 ∧ ¬ r_4 = 0 ∧ ¬ r_4 = 0 ∧ back ((Pleast (l5).toNatClampNeg) + (l4 - l4 / r_4 * r_4)) (l4 / r_4) (l5 + (-1)))))
def lf_X2_atFirst_18 (Pgi : Int32) (Ptold : Nat → Int32) (PgivenC : Nat → Int32) (Pleast : Nat → Int32) (Pgreat : Nat → Int32) (xi : Int32) (xc : Int32)  (Φ : Int32 → Prop) : Nat → Int32 → Int32 → Int32 → Prop
  | 0, _, _, _ => False
  | n_ + 1, l3, l4, l5 => lb_X2_atFirst_18 Pgi Ptold PgivenC Pleast Pgreat xi xc  Φ (lf_X2_atFirst_18 Pgi Ptold PgivenC Pleast Pgreat xi xc  Φ n_) l3 l4 l5
theorem li_X2_atFirst_18 (Pgi : Int32) (Ptold : Nat → Int32) (PgivenC : Nat → Int32) (Pleast : Nat → Int32) (Pgreat : Nat → Int32) (xi : Int32) (xc : Int32)  (Φ : Int32 → Prop) (Inv : Int32 → Int32 → Int32 → Prop) (mu : Int32 → Int32 → Int32 → Nat) (hs : ∀ (back : Int32 → Int32 → Int32 → Prop) (l3 : Int32) (l4 : Int32) (l5 : Int32), Inv l3 l4 l5 → (∀ (l3' : Int32) (l4' : Int32) (l5' : Int32), Inv l3' l4' l5' → mu l3' l4' l5' < mu l3 l4 l5 → back l3' l4' l5') → lb_X2_atFirst_18 Pgi Ptold PgivenC Pleast Pgreat xi xc  Φ back l3 l4 l5) : ∀ (n_ : Nat) (l3 : Int32) (l4 : Int32) (l5 : Int32), Inv l3 l4 l5 → mu l3 l4 l5 < n_ → lf_X2_atFirst_18 Pgi Ptold PgivenC Pleast Pgreat xi xc  Φ n_ l3 l4 l5 := by
  intro n_
  induction n_ with
  | zero => intro l3 l4 l5 _ h; exact absurd h (Nat.not_lt_zero _)
  | succ n_ ih => intro l3 l4 l5 hI hm; exact hs _ l3 l4 l5 hI (fun l3' l4' l5' h1 h2 => ih l3' l4' l5' h1 (by omega))
set_option maxHeartbeats 4000000 in
set_option maxRecDepth 100000 in
theorem lp_X2_atFirst_18 {p : Program} {l : Launch} {e : Env} {R : Room} {s : State} {m : MethodId} {args : Array Value} {below : List Frame} {meth : Method} {c : Code} {cells slots : Nat} {Q : State → Prop} {A : Nat → Prop} {D : va_G} {ak : Nat → ClassId} {ad : Nat → Nat} (hx : p.tables.exec = Jvm.exec) (hb : c.code = cX2_atFirst) (hown : s.vm.findClass RX2 = some m.cls) (hts : ∀ w ∈ wsX2_atFirst, w.before args s = true) (hml : c.maxLocals = 7) (hE : EV D ak s) (hT : ST D ak ad A s s.heap) (hA : ∀ q, s.heap.size ≤ q → A q) (hRf : 2 ≤ R.frames) (hRl : 34 ≤ R.locals) (hRc : cells ≤ R.cells ∧ slots ≤ R.slots) (pg : Nat) (pa : Nat → Nat) (Pst : Int32) (Pce : Int32) (Pgi : Int32) (Pln : Int32) (Ptold : Nat → Int32) (PgivenC : Nat → Int32) (Pleast : Nat → Int32) (Pgreat : Nat → Int32) (xi : Int32) (xc : Int32) (hKT : KT D A (wK_X2_atFirst ak ad pg pa Pst Pce Pgi Pln Ptold PgivenC Pleast Pgreat) s.heap)  (Φ : Int32 → Prop)
    (kR70 : ∀ (r : Int32)  (H : Heap) (locs : List Loc) (ls : Array Slot), Φ r  → va_P D vwCl [] H → va_D A [] → va_S A s.heap H locs → W p l e R s m args below meth c H locs cells slots Q (F0 m 70 ls [.int r]))
    : ∀ (n_ : Nat) (l3 : Int32) (l4 : Int32) (l5 : Int32) (H : Heap) (locs : List Loc) (ls : Array Slot), lf_X2_atFirst_18 Pgi Ptold PgivenC Pleast Pgreat xi xc  Φ n_ l3 l4 l5 → va_P D vwCl [] H → va_D A [] → va_S A s.heap H locs → lv_has ls 7 [(0, .ref pg), (2, .int (xc)), (3, .int (l3)), (4, .int (l4)), (5, .int (l5))] → W p l e R s m args below meth c H locs cells slots Q (F0 m 18 ls ([])) := by
  have hCW : ∀ {H : Heap} {locs : List Loc}, va_S A s.heap H locs → va_P D vwCl (wK_X2_atFirst ak ad pg pa Pst Pce Pgi Pln Ptold PgivenC Pleast Pgreat) H := fun hS => (hKT.kept hS.2.1).1
  intro n_
  induction n_ with
  | zero =>
    intro l3 l4 l5 H locs ls hw
    exact hw.elim
  | succ n_ ih =>
    intro l3 l4 l5 H locs ls hw hP hD hS hl
    have hw : lb_X2_atFirst_18 Pgi Ptold PgivenC Pleast Pgreat xi xc  Φ (lf_X2_atFirst_18 Pgi Ptold PgivenC Pleast Pgreat xi xc  Φ n_) l3 l4 l5 := hw
    delta lb_X2_atFirst_18 at hw
    refine lv_iload hx hb dX2_atFirst_18 (lv_at hl 4 rfl) ?_
    refine lv_if_lt (tgt := 69) hx hb dX2_atFirst_20 (by decide) (fun c_2 => ?_) (fun c_2 => ?_)
    · replace hw := hw.1 c_2
      refine lv_iload_n hx hb dX2_atFirst_69 rfl (lv_at hl 2 rfl) ?_
      exact kR70 l3  _ _ _ hw hP hD hS
    · replace hw := hw.2 c_2
      refine lv_aload_n hx hb dX2_atFirst_23 rfl (lv_at hl 0 rfl) ?_
      refine lv_iload hx hb dX2_atFirst_24 (lv_at hl 4 rfl) ?_
      refine kc_i (wc := []) (wr := []) hP hD hS hA [] [] rfl rfl (by decide) (by decide) (va_runV (As := [.int (l5)]) (rest := []) ⟨hx, hb, hml, hown, hts⟩ (c_X2_width l D ak ad _ pg pa Pst Pce Pgi Pln Pleast Pgreat l5 _ hw) (cwV 1 hts gX2_atFirst_X2_width rfl rfl rfl (by decide +kernel) ⟨(Nat.le_trans (Nat.le_of_ble_eq_true rfl) hRf), (Nat.le_trans (Nat.le_of_ble_eq_true rfl) hRl)⟩) (kc_preVK (As := [.int (l5)]) (wc := []) (ck := (wK_X2_width ak ad pg pa Pst Pce Pgi Pln Pleast Pgreat)) hKT hE hT hP hD hS hA [] [0, 3, 4] (by decide) rfl rfl rfl (hCW hS) 0 2 rfl rfl rfl) rfl rfl hl.1 rfl (lv_room (Nat.le_of_ble_eq_true rfl)) dX2_atFirst_26 ⟨hRc.1, hRc.2⟩) (fun r_4 u_3 H locs hw hP hD hS => ?_)
      try dsimp -zeta only at hw
      refine lv_istore (lv' := [(6, .int (r_4)), (0, .ref pg), (2, .int (xc)), (3, .int (l3)), (4, .int (l4)), (5, .int (l5))]) hx hb dX2_atFirst_29 hl (by decide) rfl (fun ls hl => ?_)
      refine lv_aload_n hx hb dX2_atFirst_31 rfl (lv_at hl 1 rfl) ?_
      refine va_get (D := D) (ci := 2) (v := .ref (pa 3)) (C := RX2) (T := TX2) (N := 17) hx hb hts (fun w h => wm_c (wc_X2 w h)) hown hE.1 (hCW hS) 0 rfl rfl 6 (by decide) (hts (.fieldLink RX2 21 "WornLines$Programme" "givenCell" "[I") (wm_c hw_275)) (fun _ h9 => h9) rfl dX2_atFirst_32 ?_
      refine lv_iload hx hb dX2_atFirst_35 (lv_at hl 5 rfl) ?_
      obtain ⟨h_5, hw⟩ := hw
      refine va_iald hx hb hE.1 (hCW hS) 2 0 rfl rfl (h_5) dX2_atFirst_37 ?_
      refine lv_iload_n hx hb dX2_atFirst_38 rfl (lv_at hl 2 rfl) ?_
      refine lv_icmp_ne (tgt := 56) hx hb dX2_atFirst_39 (by decide) (fun c_6 => ?_) (fun c_6 => ?_)
      · replace hw := hw.1 c_6
        refine lv_iload hx hb dX2_atFirst_56 (lv_at hl 4 rfl) ?_
        refine lv_iload hx hb dX2_atFirst_58 (lv_at hl 0 rfl) ?_
        obtain ⟨h_7, hw⟩ := hw
        refine lv_idiv hx hb dX2_atFirst_60 (h_7) ?_
        refine lv_istore (lv' := [(4, .int (l4 / r_4)), (6, .int (r_4)), (0, .ref pg), (2, .int (xc)), (3, .int (l3)), (5, .int (l5))]) hx hb dX2_atFirst_61 hl (by decide) rfl (fun ls hl => ?_)
        refine lv_iinc (v := (l5 + (-1))) (lv' := [(5, .int (l5 + (-1))), (4, .int (l4 / r_4)), (6, .int (r_4)), (0, .ref pg), (2, .int (xc)), (3, .int (l3))]) hx hb dX2_atFirst_63 hl (k := 5) rfl (rfl) (by decide) rfl (fun ls hl => ?_)
        refine lv_goto (tgt := 18) hx hb dX2_atFirst_66 (by decide) ?_
        exact ih l3 (l4 / r_4) (l5 + (-1)) _ _ _ hw hP hD hS (lv_sub hl [3, 4, 5, 1, 0] rfl)
      · replace hw := hw.2 c_6
        refine lv_aload_n hx hb dX2_atFirst_42 rfl (lv_at hl 1 rfl) ?_
        refine va_get (D := D) (ci := 2) (v := .ref (pa 4)) (C := RX2) (T := TX2) (N := 17) hx hb hts (fun w h => wm_c (wc_X2 w h)) hown hE.1 (hCW hS) 0 rfl rfl 7 (by decide) (hts (.fieldLink RX2 24 "WornLines$Programme" "least" "[I") (wm_c hw_276)) (fun _ h9 => h9) rfl dX2_atFirst_43 ?_
        refine lv_iload hx hb dX2_atFirst_46 (lv_at hl 5 rfl) ?_
        obtain ⟨h_8, hw⟩ := hw
        refine va_iald hx hb hE.1 (hCW hS) 3 0 rfl rfl (h_8) dX2_atFirst_48 ?_
        refine lv_iload hx hb dX2_atFirst_49 (lv_at hl 4 rfl) ?_
        refine lv_iload hx hb dX2_atFirst_51 (lv_at hl 0 rfl) ?_
        obtain ⟨h_9, hw⟩ := hw
        refine lv_irem hx hb dX2_atFirst_53 (h_9) ?_
        refine lv_iadd hx hb dX2_atFirst_54 ?_
        refine lv_istore_n (lv' := [(3, .int ((Pleast (l5).toNatClampNeg) + (l4 - l4 / r_4 * r_4))), (6, .int (r_4)), (0, .ref pg), (2, .int (xc)), (4, .int (l4)), (5, .int (l5))]) hx hb dX2_atFirst_55 rfl hl (by decide) rfl (fun ls hl => ?_)
        refine lv_iload hx hb dX2_atFirst_56 (lv_at hl 4 rfl) ?_
        refine lv_iload hx hb dX2_atFirst_58 (lv_at hl 1 rfl) ?_
        obtain ⟨h_10, hw⟩ := hw
        refine lv_idiv hx hb dX2_atFirst_60 (h_10) ?_
        refine lv_istore (lv' := [(4, .int (l4 / r_4)), (3, .int ((Pleast (l5).toNatClampNeg) + (l4 - l4 / r_4 * r_4))), (6, .int (r_4)), (0, .ref pg), (2, .int (xc)), (5, .int (l5))]) hx hb dX2_atFirst_61 hl (by decide) rfl (fun ls hl => ?_)
        refine lv_iinc (v := (l5 + (-1))) (lv' := [(5, .int (l5 + (-1))), (4, .int (l4 / r_4)), (3, .int ((Pleast (l5).toNatClampNeg) + (l4 - l4 / r_4 * r_4))), (6, .int (r_4)), (0, .ref pg), (2, .int (xc))]) hx hb dX2_atFirst_63 hl (k := 5) rfl (rfl) (by decide) rfl (fun ls hl => ?_)
        refine lv_goto (tgt := 18) hx hb dX2_atFirst_66 (by decide) ?_
        exact ih ((Pleast (l5).toNatClampNeg) + (l4 - l4 / r_4 * r_4)) (l4 / r_4) (l5 + (-1)) _ _ _ hw hP hD hS (lv_sub hl [4, 5, 2, 1, 0] rfl)

def wp_X2_atFirst (Pgi : Int32) (Ptold : Nat → Int32) (PgivenC : Nat → Int32) (Pleast : Nat → Int32) (Pgreat : Nat → Int32) (xi : Int32) (xc : Int32)  (Φ : Int32 → Prop) : Prop := vp_in xc 6 ∧ (∃ n_, lf_X2_atFirst_18 Pgi Ptold PgivenC Pleast Pgreat xi xc  Φ n_ (Ptold (xc).toNatClampNeg) xi (Pgi - 1))
set_option maxHeartbeats 4000000 in
set_option maxRecDepth 100000 in
theorem kj_X2_atFirst_e {p : Program} {l : Launch} {e : Env} {R : Room} {s : State} {m : MethodId} {args : Array Value} {below : List Frame} {meth : Method} {c : Code} {cells slots : Nat} {Q : State → Prop} {A : Nat → Prop} {D : va_G} {ak : Nat → ClassId} {ad : Nat → Nat} (hx : p.tables.exec = Jvm.exec) (hb : c.code = cX2_atFirst) (hown : s.vm.findClass RX2 = some m.cls) (hts : ∀ w ∈ wsX2_atFirst, w.before args s = true) (hml : c.maxLocals = 7) (hE : EV D ak s) (hT : ST D ak ad A s s.heap) (hA : ∀ q, s.heap.size ≤ q → A q) (hRf : 2 ≤ R.frames) (hRl : 34 ≤ R.locals) (hRc : cells ≤ R.cells ∧ slots ≤ R.slots) (pg : Nat) (pa : Nat → Nat) (Pst : Int32) (Pce : Int32) (Pgi : Int32) (Pln : Int32) (Ptold : Nat → Int32) (PgivenC : Nat → Int32) (Pleast : Nat → Int32) (Pgreat : Nat → Int32) (xi : Int32) (xc : Int32) (hKT : KT D A (wK_X2_atFirst ak ad pg pa Pst Pce Pgi Pln Ptold PgivenC Pleast Pgreat) s.heap)  (Φ : Int32 → Prop)
    (kR70 : ∀ (r : Int32)  (H : Heap) (locs : List Loc) (ls : Array Slot), Φ r  → va_P D vwCl [] H → va_D A [] → va_S A s.heap H locs → W p l e R s m args below meth c H locs cells slots Q (F0 m 70 ls [.int r]))
    : ∀  (H : Heap) (locs : List Loc) (ls : Array Slot), wp_X2_atFirst Pgi Ptold PgivenC Pleast Pgreat xi xc  Φ → va_P D vwCl [] H → va_D A [] → va_S A s.heap H locs → lv_has ls 7 [(0, .ref pg), (1, .int (xi)), (2, .int (xc))] → W p l e R s m args below meth c H locs cells slots Q (F0 m 0 ls ([])) := by
  have hCW : ∀ {H : Heap} {locs : List Loc}, va_S A s.heap H locs → va_P D vwCl (wK_X2_atFirst ak ad pg pa Pst Pce Pgi Pln Ptold PgivenC Pleast Pgreat) H := fun hS => (hKT.kept hS.2.1).1
  intro  H locs ls hw hP hD hS hl
  delta wp_X2_atFirst at hw
  refine lv_aload_n hx hb dX2_atFirst_0 rfl (lv_at hl 0 rfl) ?_
  refine va_get (D := D) (ci := 2) (v := .ref (pa 2)) (C := RX2) (T := TX2) (N := 17) hx hb hts (fun w h => wm_c (wc_X2 w h)) hown hE.1 (hCW hS) 0 rfl rfl 4 (by decide) (hts (.fieldLink RX2 18 "WornLines$Programme" "told" "[I") (wm_c hw_274)) (fun _ h9 => h9) rfl dX2_atFirst_1 ?_
  refine lv_iload_n hx hb dX2_atFirst_4 rfl (lv_at hl 2 rfl) ?_
  obtain ⟨h_1, hw⟩ := hw
  refine va_iald hx hb hE.1 (hCW hS) 1 0 rfl rfl (h_1) dX2_atFirst_5 ?_
  refine lv_istore_n (lv' := [(3, .int (Ptold (xc).toNatClampNeg)), (0, .ref pg), (1, .int (xi)), (2, .int (xc))]) hx hb dX2_atFirst_6 rfl hl (by decide) rfl (fun ls hl => ?_)
  refine lv_iload_n hx hb dX2_atFirst_7 rfl (lv_at hl 2 rfl) ?_
  refine lv_istore (lv' := [(4, .int (xi)), (3, .int (Ptold (xc).toNatClampNeg)), (0, .ref pg), (1, .int (xi)), (2, .int (xc))]) hx hb dX2_atFirst_8 hl (by decide) rfl (fun ls hl => ?_)
  refine lv_aload_n hx hb dX2_atFirst_10 rfl (lv_at hl 2 rfl) ?_
  refine va_get (D := D) (ci := 2) (v := .int (Pgi)) (C := RX2) (T := TX2) (N := 17) hx hb hts (fun w h => wm_c (wc_X2 w h)) hown hE.1 (hCW hS) 0 rfl rfl 5 (by decide) (hts (.fieldLink RX2 51 "WornLines$Programme" "given" "I") (wm_c hw_314)) (fun _ h9 => h9) rfl dX2_atFirst_11 ?_
  refine lv_iconst (v := 1) hx hb dX2_atFirst_14 (by decide) ?_
  refine lv_isub hx hb dX2_atFirst_15 ?_
  refine lv_istore (lv' := [(5, .int (Pgi - 1)), (4, .int (xi)), (3, .int (Ptold (xc).toNatClampNeg)), (0, .ref pg), (1, .int (xi)), (2, .int (xc))]) hx hb dX2_atFirst_16 hl (by decide) rfl (fun ls hl => ?_)
  obtain ⟨n1_, hw⟩ := hw
  exact lp_X2_atFirst_18 hx hb hown hts hml hE hT hA hRf hRl hRc pg pa Pst Pce Pgi Pln Ptold PgivenC Pleast Pgreat xi xc hKT  Φ  kR70 n1_ (Ptold (xc).toNatClampNeg) xi (Pgi - 1) _ _ _ hw hP hD hS (lv_sub hl [3, 5, 2, 1, 0] rfl)
set_option maxHeartbeats 4000000 in
set_option maxRecDepth 100000 in
theorem c_X2_atFirst (l : Launch) (D : va_G) (ak : Nat → ClassId) (ad : Nat → Nat) (sz : Nat) (pg : Nat) (pa : Nat → Nat) (Pst : Int32) (Pce : Int32) (Pgi : Int32) (Pln : Int32) (Ptold : Nat → Int32) (PgivenC : Nat → Int32) (Pleast : Nat → Int32) (Pgreat : Nat → Int32) (xi : Int32) (xc : Int32) (Φ : Int32 → Prop) (hf : wp_X2_atFirst Pgi Ptold PgivenC Pleast Pgreat xi xc Φ) : Met l yX2_atFirst wsX2_atFirst ({ frames := 2, cells := 0, slots := 0, locals := 34 }) (cPreK D ak ad [.ref pg, .int (xi), .int (xc)] ([]) sz ((wK_X2_atFirst ak ad pg pa Pst Pce Pgi Pln Ptold PgivenC Pleast Pgreat))) (cI D (S := Unit) (fun (r : Int32) (u : Unit) => Φ r ) (fun u => []) ([]) sz) 0 0 (va_A ([]) sz) := by
  refine Met.ofW (cc := cX2_atFirst) (maxL := 7) (ret := (some .int)) (by decide) rfl ?_
  intro p e s m args below meth c s₁ B hml hv
  obtain ⟨⟨rfl, hsz, hP, hE, hD0, hT⟩, hKT⟩ := hv
  have hx := B.exec
  have hb := B.bytes
  have hr := B.returns
  have hts := atoms_spec (ws := wsX2_atFirst) B.pre
  have hown : s.vm.findClass RX2 = some m.cls := findClass_of_methodNamed B.named
  have hlocks := B.notSynchronized
  subst hsz
  have hD := hD0.self (sz := s.heap.size)
  generalize hAe : va_A ([]) s.heap.size = A at hD hT hKT ⊢
  have hA : ∀ q : Nat, s.heap.size ≤ q → A q := fun q h => by rw [← hAe]; exact Or.inr h
  have hS : va_S A s.heap s.heap [] := va_S.rf
  have hl := lv_entry ([.ref pg, .int (xi), .int (xc)]) (n := 7) (Nat.le_of_ble_eq_true rfl)
  rw [lg_entry_eq]
  generalize (lg_sl ([.ref pg, .int (xi), .int (xc)]) ++ List.replicate (7 - (lg_sl ([.ref pg, .int (xi), .int (xc)])).length) Slot.unset).toArray = ls at hl ⊢
  have hl : lv_has ls 7 [(0, .ref pg), (1, .int (xi)), (2, .int (xc))] := hl
  exact kj_X2_atFirst_e hx hb hown hts hml hE hT hA (Nat.le_of_ble_eq_true rfl) (Nat.le_of_ble_eq_true rfl) ⟨Nat.le_of_ble_eq_true rfl, Nat.le_of_ble_eq_true rfl⟩ pg pa Pst Pce Pgi Pln Ptold PgivenC Pleast Pgreat xi xc hKT Φ (fun r  H locs ls hw hP hD hS => W.iret (v := r) hx hb hr (fun t ht hW => ⟨⟨r, (), rfl, hw, by rw [ht]; exact hP, by rw [hAe]; exact hD⟩, by rw [hAe]; exact hS.F ht⟩) hS.2.2 dX2_atFirst_70)  _ _ _ hf hP hD hS hl

def wp_X7_within (xi : Int32) (xc : Int32)  (Φ : Int32 → Prop) : Prop := (xi < 0 → Φ 0 ) ∧ (¬ xi < 0 → (xc ≤ xi → Φ 0 ) ∧ (¬ xc ≤ xi → Φ 1 ))
set_option maxHeartbeats 4000000 in
set_option maxRecDepth 100000 in
theorem kj_X7_within_e {p : Program} {l : Launch} {e : Env} {R : Room} {s : State} {m : MethodId} {args : Array Value} {below : List Frame} {meth : Method} {c : Code} {cells slots : Nat} {Q : State → Prop} {A : Nat → Prop} {D : va_G} {ak : Nat → ClassId} {ad : Nat → Nat} (hx : p.tables.exec = Jvm.exec) (hb : c.code = cX7_within) (hown : s.vm.findClass RX7 = some m.cls) (hts : ∀ w ∈ wsX7_within, w.before args s = true) (hml : c.maxLocals = 2) (hE : EV D ak s) (hT : ST D ak ad A s s.heap) (hA : ∀ q, s.heap.size ≤ q → A q) (xi : Int32) (xc : Int32)  (Φ : Int32 → Prop)
    (kR14 : ∀ (r : Int32)  (H : Heap) (locs : List Loc) (ls : Array Slot), (r = 0 ∨ r = 1) → Φ r  → va_P D vwCl [] H → va_D A [] → va_S A s.heap H locs → W p l e R s m args below meth c H locs cells slots Q (F0 m 14 ls [.int r]))
    : ∀  (H : Heap) (locs : List Loc) (ls : Array Slot), wp_X7_within xi xc  Φ → va_P D vwCl [] H → va_D A [] → va_S A s.heap H locs → lv_has ls 2 [(0, .int (xi)), (1, .int (xc))] → W p l e R s m args below meth c H locs cells slots Q (F0 m 0 ls ([])) := by
  intro  H locs ls hw hP hD hS hl
  delta wp_X7_within at hw
  refine lv_iload_n hx hb dX7_within_0 rfl (lv_at hl 0 rfl) ?_
  refine lv_if_lt (tgt := 13) hx hb dX7_within_1 (by decide) (fun c_1 => ?_) (fun c_1 => ?_)
  · replace hw := hw.1 c_1
    refine lv_iconst (v := 0) hx hb dX7_within_13 (by decide) ?_
    exact kR14 0  _ _ _ (Or.inl rfl) hw hP hD hS
  · replace hw := hw.2 c_1
    refine lv_iload_n hx hb dX7_within_4 rfl (lv_at hl 0 rfl) ?_
    refine lv_iload_n hx hb dX7_within_5 rfl (lv_at hl 1 rfl) ?_
    refine lv_icmp_ge (tgt := 13) hx hb dX7_within_6 (by decide) (fun c_2 => ?_) (fun c_2 => ?_)
    · replace hw := hw.1 c_2
      refine lv_iconst (v := 0) hx hb dX7_within_13 (by decide) ?_
      exact kR14 0  _ _ _ (Or.inl rfl) hw hP hD hS
    · replace hw := hw.2 c_2
      refine lv_iconst (v := 1) hx hb dX7_within_9 (by decide) ?_
      refine lv_goto (tgt := 14) hx hb dX7_within_10 (by decide) ?_
      exact kR14 1  _ _ _ (Or.inr rfl) hw hP hD hS
set_option maxHeartbeats 4000000 in
set_option maxRecDepth 100000 in
theorem c_X7_within (l : Launch) (D : va_G) (ak : Nat → ClassId) (ad : Nat → Nat) (sz : Nat) (xi : Int32) (xc : Int32) (Φ : Int32 → Prop) (hf : wp_X7_within xi xc Φ) : Met l yX7_within wsX7_within ({ frames := 0, cells := 0, slots := 0, locals := 0 }) (cPre D ak ad [.int (xi), .int (xc)] ([]) sz) (cI D (S := Unit) (fun (r : Int32) (u : Unit) => Φ r ) (fun u => []) ([]) sz) 0 0 (va_A ([]) sz) := by
  refine Met.ofW (cc := cX7_within) (maxL := 2) (ret := (some .boolean)) (by decide) rfl ?_
  intro p e s m args below meth c s₁ B hml hv
  obtain ⟨rfl, hsz, hP, hE, hD0, hT⟩ := hv
  have hx := B.exec
  have hb := B.bytes
  have hr := B.returns
  have hts := atoms_spec (ws := wsX7_within) B.pre
  have hown : s.vm.findClass RX7 = some m.cls := findClass_of_methodNamed B.named
  have hlocks := B.notSynchronized
  subst hsz
  have hD := hD0.self (sz := s.heap.size)
  generalize hAe : va_A ([]) s.heap.size = A at hD hT ⊢
  have hA : ∀ q : Nat, s.heap.size ≤ q → A q := fun q h => by rw [← hAe]; exact Or.inr h
  have hS : va_S A s.heap s.heap [] := va_S.rf
  have hl := lv_entry ([.int (xi), .int (xc)]) (n := 2) (Nat.le_of_ble_eq_true rfl)
  rw [lg_entry_eq]
  generalize (lg_sl ([.int (xi), .int (xc)]) ++ List.replicate (2 - (lg_sl ([.int (xi), .int (xc)])).length) Slot.unset).toArray = ls at hl ⊢
  have hl : lv_has ls 2 [(0, .int (xi)), (1, .int (xc))] := hl
  exact kj_X7_within_e hx hb hown hts hml hE hT hA xi xc Φ (fun r  H locs ls hz hw hP hD hS => W.zret (v := r) hx hb hr (bl_zn hz) (fun t ht hW => ⟨⟨r, (), rfl, hw, by rw [ht]; exact hP, by rw [hAe]; exact hD⟩, by rw [hAe]; exact hS.F ht⟩) hS.2.2 dX7_within_14)  _ _ _ hf hP hD hS hl
