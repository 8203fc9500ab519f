section
theorem dX5_spelled_11 : decode cX5_spelled 11 = .ok (.iload 5, 2) := by decide +kernel
theorem dX5_spelled_13 : decode cX5_spelled 13 = .ok (.iload 4, 2) := by decide +kernel
theorem dX5_spelled_15 : decode cX5_spelled 15 = .ok (.if_icmp .ge 28, 3) := by decide +kernel
theorem dX5_spelled_43 : decode cX5_spelled 43 = .ok (.aload_n 2, 1) := by decide +kernel
theorem dX5_spelled_18 : decode cX5_spelled 18 = .ok (.aload_n 3, 1) := by decide +kernel
theorem dX5_spelled_19 : decode cX5_spelled 19 = .ok (.iload 5, 2) := by decide +kernel
theorem dX5_spelled_21 : decode cX5_spelled 21 = .ok (.aaload, 1) := by decide +kernel
theorem dX5_spelled_22 : decode cX5_spelled 22 = .ok (.astore 6, 2) := by decide +kernel
theorem dX5_spelled_24 : decode cX5_spelled 24 = .ok (.aload 6, 2) := by decide +kernel
theorem dX5_spelled_26 : decode cX5_spelled 26 = .ok (.getfield 81, 3) := by decide +kernel
theorem dX5_spelled_29 : decode cX5_spelled 29 = .ok (.lload_n 0, 1) := by decide +kernel
theorem dX5_spelled_30 : decode cX5_spelled 30 = .ok (.lcmp, 1) := by decide +kernel
theorem dX5_spelled_31 : decode cX5_spelled 31 = .ok (.ifCond .ne 6, 3) := by decide +kernel
theorem dX5_spelled_37 : decode cX5_spelled 37 = .ok (.iinc 5 1, 3) := by decide +kernel
theorem dX5_spelled_40 : decode cX5_spelled 40 = .ok (.goto (-29), 3) := by decide +kernel
theorem dX5_spelled_34 : decode cX5_spelled 34 = .ok (.aload 6, 2) := by decide +kernel
theorem dX5_spelled_0 : decode cX5_spelled 0 = .ok (.getstatic 78, 3) := by decide +kernel
theorem dX5_spelled_3 : decode cX5_spelled 3 = .ok (.astore_n 3, 1) := by decide +kernel
theorem dX5_spelled_4 : decode cX5_spelled 4 = .ok (.aload_n 3, 1) := by decide +kernel
theorem dX5_spelled_5 : decode cX5_spelled 5 = .ok (.arraylength, 1) := by decide +kernel
theorem dX5_spelled_6 : decode cX5_spelled 6 = .ok (.istore 4, 2) := by decide +kernel
theorem dX5_spelled_8 : decode cX5_spelled 8 = .ok (.iconst 0, 1) := by decide +kernel
theorem dX5_spelled_9 : decode cX5_spelled 9 = .ok (.istore 5, 2) := by decide +kernel
theorem dX5_spelled_36 : decode cX5_spelled 36 = .ok (.areturn, 1) := by decide +kernel
theorem dX5_spelled_44 : decode cX5_spelled 44 = .ok (.areturn, 1) := by decide +kernel
theorem dX5_addWord_5 : decode cX5_addWord 5 = .ok (.iload 5, 2) := by decide +kernel
theorem dX5_addWord_7 : decode cX5_addWord 7 = .ok (.iload_n 2, 1) := by decide +kernel
theorem dX5_addWord_8 : decode cX5_addWord 8 = .ok (.if_icmp .ge 23, 3) := by decide +kernel
theorem dX5_addWord_31 : decode cX5_addWord 31 = .ok (.aload_n 0, 1) := by decide +kernel
theorem dX5_addWord_32 : decode cX5_addWord 32 = .ok (.iload_n 2, 1) := by decide +kernel
theorem dX5_addWord_33 : decode cX5_addWord 33 = .ok (.iload_n 1, 1) := by decide +kernel
theorem dX5_addWord_34 : decode cX5_addWord 34 = .ok (.isub, 1) := by decide +kernel
theorem dX5_addWord_35 : decode cX5_addWord 35 = .ok (.bipush 8, 2) := by decide +kernel
theorem dX5_addWord_37 : decode cX5_addWord 37 = .ok (.if_icmp .le 9, 3) := by decide +kernel
theorem dX5_addWord_46 : decode cX5_addWord 46 = .ok (.lload_n 3, 1) := by decide +kernel
theorem dX5_addWord_47 : decode cX5_addWord 47 = .ok (.getstatic 70, 3) := by decide +kernel
set_option maxRecDepth 20000 in
theorem ggX5_addWord_X5_spelled : GoodIn wsX5_addWord wsX5_spelled := gup gc_X5_spelled
set_option maxRecDepth 20000 in
theorem gX5_addWord_X5_spelled : GoodIn wsX5_addWord (va_wsS RX5 66 yX5_spelled wsX5_spelled) := gup (glS hw_399 hw_400 hw_401 gc_X5_spelled)
theorem dX5_addWord_50 : decode cX5_addWord 50 = .ok (.invokestatic 66, 3) := by decide +kernel
theorem dX5_addWord_53 : decode cX5_addWord 53 = .ok (.iload_n 1, 1) := by decide +kernel
theorem dX5_addWord_54 : decode cX5_addWord 54 = .ok (.lload_n 3, 1) := by decide +kernel
set_option maxRecDepth 20000 in
theorem ggX5_addWord_X5_add : GoodIn wsX5_addWord wsX5_add := gup gc_X5_add
set_option maxRecDepth 20000 in
theorem gX5_addWord_X5_add : GoodIn wsX5_addWord (wsV RX5 48 RX5 yX5_add wsX5_add) := gup (glV hw_402 hw_403 hw_404 hw_401 gc_X5_add)
theorem dX5_addWord_55 : decode cX5_addWord 55 = .ok (.invokevirtual 48, 3) := by decide +kernel
theorem dX5_addWord_40 : decode cX5_addWord 40 = .ok (.getstatic 63, 3) := by decide +kernel
theorem dX5_addWord_43 : decode cX5_addWord 43 = .ok (.goto 10, 3) := by decide +kernel
theorem dX5_addWord_11 : decode cX5_addWord 11 = .ok (.lload_n 3, 1) := by decide +kernel
theorem dX5_addWord_12 : decode cX5_addWord 12 = .ok (.bipush 8, 2) := by decide +kernel
theorem dX5_addWord_14 : decode cX5_addWord 14 = .ok (.lshl, 1) := by decide +kernel
theorem dX5_addWord_15 : decode cX5_addWord 15 = .ok (.aload_n 0, 1) := by decide +kernel
theorem dX5_addWord_16 : decode cX5_addWord 16 = .ok (.getfield 9, 3) := by decide +kernel
theorem dX5_addWord_19 : decode cX5_addWord 19 = .ok (.iload 5, 2) := by decide +kernel
theorem dX5_addWord_21 : decode cX5_addWord 21 = .ok (.caload, 1) := by decide +kernel
theorem dX5_addWord_22 : decode cX5_addWord 22 = .ok (.i2l, 1) := by decide +kernel
theorem dX5_addWord_23 : decode cX5_addWord 23 = .ok (.lor, 1) := by decide +kernel
theorem dX5_addWord_24 : decode cX5_addWord 24 = .ok (.lstore_n 3, 1) := by decide +kernel
theorem dX5_addWord_25 : decode cX5_addWord 25 = .ok (.iinc 5 1, 3) := by decide +kernel
theorem dX5_addWord_28 : decode cX5_addWord 28 = .ok (.goto (-23), 3) := by decide +kernel
theorem dX5_addWord_0 : decode cX5_addWord 0 = .ok (.lconst 0, 1) := by decide +kernel
theorem dX5_addWord_1 : decode cX5_addWord 1 = .ok (.lstore_n 3, 1) := by decide +kernel
theorem dX5_addWord_2 : decode cX5_addWord 2 = .ok (.iload_n 1, 1) := by decide +kernel
theorem dX5_addWord_3 : decode cX5_addWord 3 = .ok (.istore 5, 2) := by decide +kernel
theorem dX5_addWord_58 : decode cX5_addWord 58 = .ok (.return_, 1) := by decide +kernel
theorem dX5_addNumber_5 : decode cX5_addNumber 5 = .ok (.iload 5, 2) := by decide +kernel
theorem dX5_addNumber_7 : decode cX5_addNumber 7 = .ok (.iload_n 2, 1) := by decide +kernel
theorem dX5_addNumber_8 : decode cX5_addNumber 8 = .ok (.if_icmp .ge 27, 3) := by decide +kernel
theorem dX5_addNumber_35 : decode cX5_addNumber 35 = .ok (.aload_n 0, 1) := by decide +kernel
theorem dX5_addNumber_36 : decode cX5_addNumber 36 = .ok (.iload_n 2, 1) := by decide +kernel
theorem dX5_addNumber_37 : decode cX5_addNumber 37 = .ok (.iload_n 1, 1) := by decide +kernel
theorem dX5_addNumber_38 : decode cX5_addNumber 38 = .ok (.isub, 1) := by decide +kernel
theorem dX5_addNumber_39 : decode cX5_addNumber 39 = .ok (.iconst 4, 1) := by decide +kernel
theorem dX5_addNumber_40 : decode cX5_addNumber 40 = .ok (.if_icmp .le 9, 3) := by decide +kernel
theorem dX5_addNumber_49 : decode cX5_addNumber 49 = .ok (.getstatic 75, 3) := by decide +kernel
theorem dX5_addNumber_52 : decode cX5_addNumber 52 = .ok (.iload_n 1, 1) := by decide +kernel
theorem dX5_addNumber_53 : decode cX5_addNumber 53 = .ok (.lload_n 3, 1) := by decide +kernel
set_option maxRecDepth 20000 in
theorem ggX5_addNumber_X5_add : GoodIn wsX5_addNumber wsX5_add := gup gc_X5_add
set_option maxRecDepth 20000 in
theorem gX5_addNumber_X5_add : GoodIn wsX5_addNumber (wsV RX5 48 RX5 yX5_add wsX5_add) := gup (glV hw_402 hw_403 hw_404 hw_401 gc_X5_add)
theorem dX5_addNumber_54 : decode cX5_addNumber 54 = .ok (.invokevirtual 48, 3) := by decide +kernel
theorem dX5_addNumber_43 : decode cX5_addNumber 43 = .ok (.getstatic 63, 3) := by decide +kernel
theorem dX5_addNumber_46 : decode cX5_addNumber 46 = .ok (.goto 6, 3) := by decide +kernel
theorem dX5_addNumber_11 : decode cX5_addNumber 11 = .ok (.lload_n 3, 1) := by decide +kernel
theorem dX5_addNumber_12 : decode cX5_addNumber 12 = .ok (.ldc2_w 73, 3) := by decide +kernel
theorem dX5_addNumber_15 : decode cX5_addNumber 15 = .ok (.lmul, 1) := by decide +kernel
theorem dX5_addNumber_16 : decode cX5_addNumber 16 = .ok (.aload_n 0, 1) := by decide +kernel
theorem dX5_addNumber_17 : decode cX5_addNumber 17 = .ok (.getfield 9, 3) := by decide +kernel
theorem dX5_addNumber_20 : decode cX5_addNumber 20 = .ok (.iload 5, 2) := by decide +kernel
theorem dX5_addNumber_22 : decode cX5_addNumber 22 = .ok (.caload, 1) := by decide +kernel
theorem dX5_addNumber_23 : decode cX5_addNumber 23 = .ok (.bipush 48, 2) := by decide +kernel
theorem dX5_addNumber_25 : decode cX5_addNumber 25 = .ok (.isub, 1) := by decide +kernel
theorem dX5_addNumber_26 : decode cX5_addNumber 26 = .ok (.i2l, 1) := by decide +kernel
theorem dX5_addNumber_27 : decode cX5_addNumber 27 = .ok (.ladd, 1) := by decide +kernel
theorem dX5_addNumber_28 : decode cX5_addNumber 28 = .ok (.lstore_n 3, 1) := by decide +kernel
theorem dX5_addNumber_29 : decode cX5_addNumber 29 = .ok (.iinc 5 1, 3) := by decide +kernel
theorem dX5_addNumber_32 : decode cX5_addNumber 32 = .ok (.goto (-27), 3) := by decide +kernel
theorem dX5_addNumber_0 : decode cX5_addNumber 0 = .ok (.lconst 0, 1) := by decide +kernel
theorem dX5_addNumber_1 : decode cX5_addNumber 1 = .ok (.lstore_n 3, 1) := by decide +kernel
theorem dX5_addNumber_2 : decode cX5_addNumber 2 = .ok (.iload_n 1, 1) := by decide +kernel
theorem dX5_addNumber_3 : decode cX5_addNumber 3 = .ok (.istore 5, 2) := by decide +kernel
theorem dX5_addNumber_57 : decode cX5_addNumber 57 = .ok (.return_, 1) := by decide +kernel
def lb_X5_spelled_11 (xb : Int64) (xt : Nat)  (Φ : Nat → Prop) (back : Int32 → Int32 → Prop) (l4 : Int32) (l5 : Int32) : Prop := (l4 ≤ l5 → Φ xt ) ∧ (¬ l4 ≤ l5 → vp_in l5 31 ∧ ((l5).toNatClampNeg) < 31 ∧ (¬ (lg_cmp (tkS ((l5).toNatClampNeg)) xb) = 0 → back l4 (l5 + 1)) ∧ ((lg_cmp (tkS ((l5).toNatClampNeg)) xb) = 0 → Φ ((l5).toNatClampNeg) ))
def lf_X5_spelled_11 (xb : Int64) (xt : Nat)  (Φ : Nat → Prop) : Nat → Int32 → Int32 → Prop
  | 0, _, _ => False
  | n_ + 1, l4, l5 => lb_X5_spelled_11 xb xt  Φ (lf_X5_spelled_11 xb xt  Φ n_) l4 l5
theorem li_X5_spelled_11 (xb : Int64) (xt : Nat)  (Φ : Nat → Prop) (Inv : Int32 → Int32 → Prop) (mu : Int32 → Int32 → Nat) (hs : ∀ (back : Int32 → Int32 → Prop) (l4 : Int32) (l5 : Int32), Inv l4 l5 → (∀ (l4' : Int32) (l5' : Int32), Inv l4' l5' → mu l4' l5' < mu l4 l5 → back l4' l5') → lb_X5_spelled_11 xb xt  Φ back l4 l5) : ∀ (n_ : Nat) (l4 : Int32) (l5 : Int32), Inv l4 l5 → mu l4 l5 < n_ → lf_X5_spelled_11 xb xt  Φ n_ l4 l5 := by
  intro n_
  induction n_ with
  | zero => intro l4 l5 _ h; exact absurd h (Nat.not_lt_zero _)
  | succ n_ ih => intro l4 l5 hI hm; exact hs _ l4 l5 hI (fun l4' l5' h1 h2 => ih l4' l5' h1 (by omega))
set_option maxHeartbeats 4000000 in
set_option maxRecDepth 100000 in
theorem lp_X5_spelled_11 {p : Program} {l : Launch} {e : Env} {R : Room} {s : State} {m : MethodId} {args : Array Value} {below : List Frame} {meth : Method} {c : Code} {cells slots : Nat} {Q : State → Prop} {A : Nat → Prop} {D : va_G} {ak : Nat → ClassId} {ad : Nat → Nat} (hx : p.tables.exec = Jvm.exec) (hb : c.code = cX5_spelled) (hown : s.vm.findClass RX5 = some m.cls) (hts : ∀ w ∈ wsX5_spelled, w.before args s = true) (hml : c.maxLocals = 7) (hE : EV D ak s) (hT : ST D ak ad A s s.heap) (hA : ∀ q, s.heap.size ≤ q → A q) (xb : Int64) (xt : Nat)  (Φ : Nat → Prop)
    (kR36 : ∀ (r : Nat)  (H : Heap) (locs : List Loc) (ls : Array Slot), Φ r  → va_P D vwCl [] H → va_D A [] → va_S A s.heap H locs → W p l e R s m args below meth c H locs cells slots Q (F0 m 36 ls [.ref (ad r)]))
    (kR44 : ∀ (r : Nat)  (H : Heap) (locs : List Loc) (ls : Array Slot), Φ r  → va_P D vwCl [] H → va_D A [] → va_S A s.heap H locs → W p l e R s m args below meth c H locs cells slots Q (F0 m 44 ls [.ref (ad r)]))
    : ∀ (n_ : Nat) (l4 : Int32) (l5 : Int32) (H : Heap) (locs : List Loc) (ls : Array Slot), lf_X5_spelled_11 xb xt  Φ n_ l4 l5 → va_P D vwCl [] H → va_D A [] → va_S A s.heap H locs → lv_has ls 7 [(0, .long (xb)), (2, .ref (ad xt)), (3, .ref (ad 31)), (4, .int (l4)), (5, .int (l5))] → W p l e R s m args below meth c H locs cells slots Q (F0 m 11 ls ([])) := by
  intro n_
  induction n_ with
  | zero =>
    intro l4 l5 H locs ls hw
    exact hw.elim
  | succ n_ ih =>
    intro l4 l5 H locs ls hw hP hD hS hl
    have hw : lb_X5_spelled_11 xb xt  Φ (lf_X5_spelled_11 xb xt  Φ n_) l4 l5 := hw
    delta lb_X5_spelled_11 at hw
    refine lv_iload hx hb dX5_spelled_11 (lv_at hl 4 rfl) ?_
    refine lv_iload hx hb dX5_spelled_13 (lv_at hl 3 rfl) ?_
    refine lv_icmp_ge (tgt := 43) hx hb dX5_spelled_15 (by decide) (fun c_1 => ?_) (fun c_1 => ?_)
    · replace hw := hw.1 c_1
      refine lv_aload_n hx hb dX5_spelled_43 rfl (lv_at hl 1 rfl) ?_
      exact kR44 xt  _ _ _ hw hP hD hS
    · replace hw := hw.2 c_1
      refine lv_aload_n hx hb dX5_spelled_18 rfl (lv_at hl 2 rfl) ?_
      refine lv_iload hx hb dX5_spelled_19 (lv_at hl 4 rfl) ?_
      obtain ⟨h_2, hw⟩ := hw
      refine vb_tq hx hb hT.2.2.2 hS (h_2) rfl dX5_spelled_21 ?_
      refine W.eq (g2 := F0 m 22 ls (.ref (ad ((l5).toNatClampNeg)) :: [])) rfl ?_
      refine lv_astore (lv' := [(6, .ref (ad ((l5).toNatClampNeg))), (0, .long (xb)), (2, .ref (ad xt)), (3, .ref (ad 31)), (4, .int (l4)), (5, .int (l5))]) hx hb dX5_spelled_22 hl (by decide) rfl (fun ls hl => ?_)
      refine lv_aload hx hb dX5_spelled_24 (lv_at hl 0 rfl) ?_
      obtain ⟨h_3, hw⟩ := hw
      refine vk_getf hx hb (hT.1 ((l5).toNatClampNeg) h_3).2.2.1 hS hown (hts (.fieldLink RX5 81 "WornLines$Token" "spelling" "J") (wm_c hw_394)) (fun _ h9 => h9) dX5_spelled_26 ?_
      refine lv_lload_n hx hb dX5_spelled_29 rfl (lv_at hl 1 rfl) ?_
      refine W.lcmp hx hb dX5_spelled_30 ?_
      refine lv_if_ne (tgt := 37) hx hb dX5_spelled_31 (by decide) (fun c_4 => ?_) (fun c_4 => ?_)
      · replace hw := hw.1 c_4
        refine lv_iinc (v := (l5 + 1)) (lv' := [(5, .int (l5 + 1)), (6, .ref (ad ((l5).toNatClampNeg))), (0, .long (xb)), (2, .ref (ad xt)), (3, .ref (ad 31)), (4, .int (l4))]) hx hb dX5_spelled_37 hl (k := 5) rfl (rfl) (by decide) rfl (fun ls hl => ?_)
        refine lv_goto (tgt := 11) hx hb dX5_spelled_40 (by decide) ?_
        exact ih l4 (l5 + 1) _ _ _ hw hP hD hS (lv_sub hl [2, 3, 4, 5, 0] rfl)
      · replace hw := hw.2 c_4
        refine lv_aload hx hb dX5_spelled_34 (lv_at hl 0 rfl) ?_
        exact kR36 ((l5).toNatClampNeg)  _ _ _ hw hP hD hS

def wp_X5_spelled (xb : Int64) (xt : Nat)  (Φ : Nat → Prop) : Prop := (∃ n_, lf_X5_spelled_11 xb xt  Φ n_ 31 0)
set_option maxHeartbeats 4000000 in
set_option maxRecDepth 100000 in
theorem kj_X5_spelled_e {p : Program} {l : Launch} {e : Env} {R : Room} {s : State} {m : MethodId} {args : Array Value} {below : List Frame} {meth : Method} {c : Code} {cells slots : Nat} {Q : State → Prop} {A : Nat → Prop} {D : va_G} {ak : Nat → ClassId} {ad : Nat → Nat} (hx : p.tables.exec = Jvm.exec) (hb : c.code = cX5_spelled) (hown : s.vm.findClass RX5 = some m.cls) (hts : ∀ w ∈ wsX5_spelled, w.before args s = true) (hml : c.maxLocals = 7) (hE : EV D ak s) (hT : ST D ak ad A s s.heap) (hA : ∀ q, s.heap.size ≤ q → A q) (xb : Int64) (xt : Nat)  (Φ : Nat → Prop)
    (kR36 : ∀ (r : Nat)  (H : Heap) (locs : List Loc) (ls : Array Slot), Φ r  → va_P D vwCl [] H → va_D A [] → va_S A s.heap H locs → W p l e R s m args below meth c H locs cells slots Q (F0 m 36 ls [.ref (ad r)]))
    (kR44 : ∀ (r : Nat)  (H : Heap) (locs : List Loc) (ls : Array Slot), Φ r  → va_P D vwCl [] H → va_D A [] → va_S A s.heap H locs → W p l e R s m args below meth c H locs cells slots Q (F0 m 44 ls [.ref (ad r)]))
    : ∀  (H : Heap) (locs : List Loc) (ls : Array Slot), wp_X5_spelled xb xt  Φ → va_P D vwCl [] H → va_D A [] → va_S A s.heap H locs → lv_has ls 7 [(0, .long (xb)), (2, .ref (ad xt))] → W p l e R s m args below meth c H locs cells slots Q (F0 m 0 ls ([])) := by
  intro  H locs ls hw hP hD hS hl
  delta wp_X5_spelled at hw
  refine va_getsN hx hb hT.2.2.1 hS hown (va_Nw.use rfl hE.2.2.2.2.1) (fun _ h9 => h9) dX5_spelled_0 ?_
  refine lv_astore_n (lv' := [(3, .ref (ad 31)), (0, .long (xb)), (2, .ref (ad xt))]) hx hb dX5_spelled_3 rfl hl (by decide) rfl (fun ls hl => ?_)
  refine lv_aload_n hx hb dX5_spelled_4 rfl (lv_at hl 0 rfl) ?_
  refine va_tlen hx hb hT.2.2.2 hS (v := 31) rfl dX5_spelled_5 ?_
  refine lv_istore (lv' := [(4, .int (31)), (3, .ref (ad 31)), (0, .long (xb)), (2, .ref (ad xt))]) hx hb dX5_spelled_6 hl (by decide) rfl (fun ls hl => ?_)
  refine lv_iconst (v := 0) hx hb dX5_spelled_8 (by decide) ?_
  refine lv_istore (lv' := [(5, .int (0)), (4, .int (31)), (3, .ref (ad 31)), (0, .long (xb)), (2, .ref (ad xt))]) hx hb dX5_spelled_9 hl (by decide) rfl (fun ls hl => ?_)
  obtain ⟨n1_, hw⟩ := hw
  exact lp_X5_spelled_11 hx hb hown hts hml hE hT hA xb xt  Φ  kR36 kR44 n1_ 31 0 _ _ _ hw hP hD hS (lv_sub hl [3, 4, 2, 1, 0] rfl)
set_option maxHeartbeats 4000000 in
set_option maxRecDepth 100000 in
theorem c_X5_spelled (l : Launch) (D : va_G) (ak : Nat → ClassId) (ad : Nat → Nat) (sz : Nat) (xb : Int64) (xt : Nat) (Φ : Nat → Prop) (hf : wp_X5_spelled xb xt Φ) : Met l yX5_spelled wsX5_spelled ({ frames := 0, cells := 0, slots := 0, locals := 0 }) (cPre D ak ad [.long (xb), .ref (ad xt)] ([]) sz) (cT D ad (S := Unit) (fun (r : Nat) (u : Unit) => Φ r ) (fun u => []) ([]) sz) 0 0 (va_A ([]) sz) := by
  refine Met.ofW (cc := cX5_spelled) (maxL := 7) (ret := (some (.object "WornLines$Token"))) (by decide) rfl ?_
  intro p e s m args below meth c s₁ B hml hv
  obtain ⟨rfl, hsz, hP, hE, hD0, hT⟩ := hv
  have hx := B.exec
  have hb := B.bytes
  have hr := B.returns
  have hts := atoms_spec (ws := wsX5_spelled) B.pre
  have hown : s.vm.findClass RX5 = some m.cls := findClass_of_methodNamed B.named
  have hlocks := B.notSynchronized
  subst hsz
  have hD := hD0.self (sz := s.heap.size)
  generalize hAe : va_A ([]) s.heap.size = A at hD hT ⊢
  have hA : ∀ q : Nat, s.heap.size ≤ q → A q := fun q h => by rw [← hAe]; exact Or.inr h
  have hS : va_S A s.heap s.heap [] := va_S.rf
  have hl := lv_entry ([.long (xb), .ref (ad xt)]) (n := 7) (Nat.le_of_ble_eq_true rfl)
  rw [lg_entry_eq]
  generalize (lg_sl ([.long (xb), .ref (ad xt)]) ++ List.replicate (7 - (lg_sl ([.long (xb), .ref (ad xt)])).length) Slot.unset).toArray = ls at hl ⊢
  have hl : lv_has ls 7 [(0, .long (xb)), (2, .ref (ad xt))] := hl
  exact kj_X5_spelled_e hx hb hown hts hml hE hT hA xb xt Φ (fun r  H locs ls hw hP hD hS => W.aret (v := .ref (ad r)) hx hb hr (Or.inl ⟨_, rfl⟩) (Or.inr ⟨_, rfl⟩) (fun t ht hW => ⟨⟨some r, (), rfl, ⟨r, rfl, hw⟩, by rw [ht]; exact hP, by rw [hAe]; exact hD⟩, by rw [hAe]; exact hS.F ht⟩) hS.2.2 dX5_spelled_36) (fun r  H locs ls hw hP hD hS => W.aret (v := .ref (ad r)) hx hb hr (Or.inl ⟨_, rfl⟩) (Or.inr ⟨_, rfl⟩) (fun t ht hW => ⟨⟨some r, (), rfl, ⟨r, rfl, hw⟩, by rw [ht]; exact hP, by rw [hAe]; exact hD⟩, by rw [hAe]; exact hS.F ht⟩) hS.2.2 dX5_spelled_44)  _ _ _ hf hP hD hS hl

def wW_X5_addWord (ak : Nat → ClassId) (ad : Nat → Nat) (ht : Nat) (ta : Nat → Nat) (Tlen : Int32) (Tcnt : Int32) (Tsigns : Nat → Int32) (Ttoks : Nat → Nat) (Tplc : Nat → Int32) (Tvals : Nat → Int64) : va_W := [(ht, .inr (5, tob ta (Tlen) (Tcnt))), ((ta 0), .inl (ak 2, 1000, .inl (Tsigns))), ((ta 1), .inl (ak 4, 1001, .inr (.inr (.inr (.inr (tokA ad (Ttoks))))))), ((ta 2), .inl (ak 0, 1001, .inl (Tplc))), ((ta 3), .inl (ak 1, 1001, .inr (.inl (Tvals))))]
def lb_X5_addWord_5 (Tsigns : Nat → Int32) (xa : Int32) (xe : Int32)  (Φ : Int32 → (Nat → Nat) → (Nat → Int32) → (Nat → Int64) → Prop) (back : Int32 → (Nat → Nat) → (Nat → Int32) → (Nat → Int64) → Int64 → Int32 → Prop) (Tcnt : Int32) (Ttoks : Nat → Nat) (Tplc : Nat → Int32) (Tvals : Nat → Int64) (l3 : Int64) (l5 : Int32) : Prop := (xe ≤ l5 → ((xe - xa) ≤ 8 → wp_X5_spelled l3 3 (fun r_4 => wp_X5_add r_4 xa l3 Tcnt Ttoks Tplc Tvals (fun Tcnt_6 Ttoks_7 Tplc_8 Tvals_9 => Φ Tcnt_6 Ttoks_7 Tplc_8 Tvals_9))) ∧ (¬ (xe - xa) ≤ 8 → wp_X5_add 1 xa l3 Tcnt Ttoks Tplc Tvals (fun Tcnt_12 Ttoks_13 Tplc_14 Tvals_15 => Φ Tcnt_12 Ttoks_13 Tplc_14 Tvals_15))) ∧ (¬ xe ≤ l5 → vp_in l5 1000 ∧ back Tcnt Ttoks Tplc Tvals ((l3 <<< ((8 : Int32).toInt64 &&& 63)) ||| ((Tsigns (l5).toNatClampNeg).toInt64)) (l5 + 1))
def lf_X5_addWord_5 (Tsigns : Nat → Int32) (xa : Int32) (xe : Int32)  (Φ : Int32 → (Nat → Nat) → (Nat → Int32) → (Nat → Int64) → Prop) : Nat → Int32 → (Nat → Nat) → (Nat → Int32) → (Nat → Int64) → Int64 → Int32 → Prop
  | 0, _, _, _, _, _, _ => False
  | n_ + 1, Tcnt, Ttoks, Tplc, Tvals, l3, l5 => lb_X5_addWord_5 Tsigns xa xe  Φ (lf_X5_addWord_5 Tsigns xa xe  Φ n_) Tcnt Ttoks Tplc Tvals l3 l5
theorem li_X5_addWord_5 (Tsigns : Nat → Int32) (xa : Int32) (xe : Int32)  (Φ : Int32 → (Nat → Nat) → (Nat → Int32) → (Nat → Int64) → Prop) (Inv : Int32 → (Nat → Nat) → (Nat → Int32) → (Nat → Int64) → Int64 → Int32 → Prop) (mu : Int32 → (Nat → Nat) → (Nat → Int32) → (Nat → Int64) → Int64 → Int32 → Nat) (hs : ∀ (back : Int32 → (Nat → Nat) → (Nat → Int32) → (Nat → Int64) → Int64 → Int32 → Prop) (Tcnt : Int32) (Ttoks : Nat → Nat) (Tplc : Nat → Int32) (Tvals : Nat → Int64) (l3 : Int64) (l5 : Int32), Inv Tcnt Ttoks Tplc Tvals l3 l5 → (∀ (Tcnt' : Int32) (Ttoks' : Nat → Nat) (Tplc' : Nat → Int32) (Tvals' : Nat → Int64) (l3' : Int64) (l5' : Int32), Inv Tcnt' Ttoks' Tplc' Tvals' l3' l5' → mu Tcnt' Ttoks' Tplc' Tvals' l3' l5' < mu Tcnt Ttoks Tplc Tvals l3 l5 → back Tcnt' Ttoks' Tplc' Tvals' l3' l5') → lb_X5_addWord_5 Tsigns xa xe  Φ back Tcnt Ttoks Tplc Tvals l3 l5) : ∀ (n_ : Nat) (Tcnt : Int32) (Ttoks : Nat → Nat) (Tplc : Nat → Int32) (Tvals : Nat → Int64) (l3 : Int64) (l5 : Int32), Inv Tcnt Ttoks Tplc Tvals l3 l5 → mu Tcnt Ttoks Tplc Tvals l3 l5 < n_ → lf_X5_addWord_5 Tsigns xa xe  Φ n_ Tcnt Ttoks Tplc Tvals l3 l5 := by
  intro n_
  induction n_ with
  | zero => intro Tcnt Ttoks Tplc Tvals l3 l5 _ h; exact absurd h (Nat.not_lt_zero _)
  | succ n_ ih => intro Tcnt Ttoks Tplc Tvals l3 l5 hI hm; exact hs _ Tcnt Ttoks Tplc Tvals l3 l5 hI (fun Tcnt' Ttoks' Tplc' Tvals' l3' l5' h1 h2 => ih Tcnt' Ttoks' Tplc' Tvals' l3' l5' h1 (by omega))
set_option maxHeartbeats 4000000 in
set_option maxRecDepth 100000 in
theorem lp_X5_addWord_5 {p : Program} {l : Launch} {e : Env} {R : Room} {s : State} {m : MethodId} {args : Array Value} {below : List Frame} {meth : Method} {c : Code} {cells slots : Nat} {Q : State → Prop} {A : Nat → Prop} {D : va_G} {ak : Nat → ClassId} {ad : Nat → Nat} (hx : p.tables.exec = Jvm.exec) (hb : c.code = cX5_addWord) (hown : s.vm.findClass RX5 = some m.cls) (hts : ∀ w ∈ wsX5_addWord, w.before args s = true) (hml : c.maxLocals = 6) (hE : EV D ak s) (hT : ST D ak ad A s s.heap) (hA : ∀ q, s.heap.size ≤ q → A q) (hRf : 1 ≤ R.frames) (hRl : 26 ≤ R.locals) (hRc : cells ≤ R.cells ∧ slots ≤ R.slots) (ht : Nat) (ta : Nat → Nat) (Tlen : Int32) (Tsigns : Nat → Int32) (xa : Int32) (xe : Int32)  (Φ : Int32 → (Nat → Nat) → (Nat → Int32) → (Nat → Int64) → Prop)
    (kR58 : ∀ (Tcnt : Int32) (Ttoks : Nat → Nat) (Tplc : Nat → Int32) (Tvals : Nat → Int64) (H : Heap) (locs : List Loc) (ls : Array Slot), Φ Tcnt Ttoks Tplc Tvals → va_P D vwCl (wW_X5_addWord ak ad ht ta Tlen Tcnt Tsigns Ttoks Tplc Tvals) H → va_D A (wW_X5_addWord ak ad ht ta Tlen Tcnt Tsigns Ttoks Tplc Tvals) → va_S A s.heap H locs → W p l e R s m args below meth c H locs cells slots Q (F0 m 58 ls []))
    : ∀ (n_ : Nat) (Tcnt : Int32) (Ttoks : Nat → Nat) (Tplc : Nat → Int32) (Tvals : Nat → Int64) (l3 : Int64) (l5 : Int32) (H : Heap) (locs : List Loc) (ls : Array Slot), lf_X5_addWord_5 Tsigns xa xe  Φ n_ Tcnt Ttoks Tplc Tvals l3 l5 → va_P D vwCl (wW_X5_addWord ak ad ht ta Tlen Tcnt Tsigns Ttoks Tplc Tvals) H → va_D A (wW_X5_addWord ak ad ht ta Tlen Tcnt Tsigns Ttoks Tplc Tvals) → va_S A s.heap H locs → lv_has ls 6 [(0, .ref ht), (1, .int (xa)), (2, .int (xe)), (3, .long (l3)), (5, .int (l5))] → W p l e R s m args below meth c H locs cells slots Q (F0 m 5 ls ([])) := by
  intro n_
  induction n_ with
  | zero =>
    intro Tcnt Ttoks Tplc Tvals l3 l5 H locs ls hw
    exact hw.elim
  | succ n_ ih =>
    intro Tcnt Ttoks Tplc Tvals l3 l5 H locs ls hw hP hD hS hl
    have hw : lb_X5_addWord_5 Tsigns xa xe  Φ (lf_X5_addWord_5 Tsigns xa xe  Φ n_) Tcnt Ttoks Tplc Tvals l3 l5 := hw
    delta lb_X5_addWord_5 at hw
    refine lv_iload hx hb dX5_addWord_5 (lv_at hl 4 rfl) ?_
    refine lv_iload_n hx hb dX5_addWord_7 rfl (lv_at hl 2 rfl) ?_
    refine lv_icmp_ge (tgt := 31) hx hb dX5_addWord_8 (by decide) (fun c_1 => ?_) (fun c_1 => ?_)
    · replace hw := hw.1 c_1
      refine lv_aload_n hx hb dX5_addWord_31 rfl (lv_at hl 0 rfl) ?_
      refine lv_iload_n hx hb dX5_addWord_32 rfl (lv_at hl 2 rfl) ?_
      refine lv_iload_n hx hb dX5_addWord_33 rfl (lv_at hl 1 rfl) ?_
      refine lv_isub hx hb dX5_addWord_34 ?_
      refine lv_bipush (v := 8) hx hb dX5_addWord_35 (by decide) ?_
      refine lv_icmp_le (tgt := 46) hx hb dX5_addWord_37 (by decide) (fun c_2 => ?_) (fun c_2 => ?_)
      · replace hw := hw.1 c_2
        refine lv_lload_n hx hb dX5_addWord_46 rfl (lv_at hl 3 rfl) ?_
        refine va_gets hx hb (hT.1 3 (by decide)).1 hS hown (hts (.fieldLink RX5 70 "WornLines$Token" "A_NAME" "LWornLines$Token;") (wm_c hw_395)) (fun _ h9 => h9) dX5_addWord_47 ?_
        refine kc_t (wc := []) (wr := [(ht, .inr (5, tob ta (Tlen) (Tcnt))), ((ta 0), .inl (ak 2, 1000, .inl (Tsigns))), ((ta 1), .inl (ak 4, 1001, .inr (.inr (.inr (.inr (tokA ad (Ttoks))))))), ((ta 2), .inl (ak 0, 1001, .inl (Tplc))), ((ta 3), .inl (ak 1, 1001, .inr (.inl (Tvals))))]) hP hD hS hA [] [0, 1, 2, 3, 4] rfl rfl (by decide) (by decide) (va_runS (As := [.long (l3), .ref (ad 3)]) (rest := [.ref ht]) ⟨hx, hb, hml, hown, hts⟩ (c_X5_spelled l D ak ad _ l3 3 _ hw) (va_cwS 2 hts gX5_addWord_X5_spelled rfl rfl rfl hz_X5_spelled ⟨(Nat.le_trans (Nat.le_of_ble_eq_true rfl) hRf), (Nat.le_trans (Nat.le_of_ble_eq_true rfl) hRl)⟩) (kc_pre (As := [.long (l3), .ref (ad 3)]) (wc := []) hE hT hP hD hS hA [] (by decide) rfl rfl) rfl rfl hl.1 rfl (lv_room (Nat.le_of_ble_eq_true rfl)) dX5_addWord_50 ⟨hRc.1, hRc.2⟩) (fun r_4 u_3 H locs hw hP hD hS => ?_)
        try dsimp -zeta only at hw
        have hP : va_P D vwCl (wW_X5_addWord ak ad ht ta Tlen Tcnt Tsigns Ttoks Tplc Tvals) H := hP.sub [0, 1, 2, 3, 4] rfl
        have hD : va_D A (wW_X5_addWord ak ad ht ta Tlen Tcnt Tsigns Ttoks Tplc Tvals) := hD.sub [0, 1, 2, 3, 4] (by decide) rfl
        refine lv_iload_n hx hb dX5_addWord_53 rfl (lv_at hl 1 rfl) ?_
        refine lv_lload_n hx hb dX5_addWord_54 rfl (lv_at hl 3 rfl) ?_
        refine kc_v (wc := (wW_X5_add ak ad ht ta Tlen Tcnt Ttoks Tplc Tvals)) (wr := [((ta 0), .inl (ak 2, 1000, .inl (Tsigns)))]) hP hD hS hA [0, 2, 3, 4] [1] rfl rfl (by decide) (by decide) (va_runV (As := [.ref (ad r_4), .int (xa), .long (l3)]) (rest := []) ⟨hx, hb, hml, hown, hts⟩ (c_X5_add l D ak ad _ ht ta Tlen Tcnt Ttoks Tplc Tvals r_4 xa l3 _ hw) (cwV 3 hts gX5_addWord_X5_add rfl rfl rfl hv_X5_add ⟨(Nat.le_trans (Nat.le_of_ble_eq_true rfl) hRf), (Nat.le_trans (Nat.le_of_ble_eq_true rfl) hRl)⟩) (kc_preV (As := [.ref (ad r_4), .int (xa), .long (l3)]) (wc := (wW_X5_add ak ad ht ta Tlen Tcnt Ttoks Tplc Tvals)) hE hT hP hD hS hA [0, 2, 3, 4] (by decide) rfl rfl 0 5 rfl rfl rfl) rfl rfl hl.1 rfl (lv_room (Nat.le_of_ble_eq_true rfl)) dX5_addWord_55 ⟨hRc.1, hRc.2⟩) (fun u_5 H locs hw hP hD hS => ?_)
        obtain ⟨Tcnt_6, Ttoks_7, Tplc_8, Tvals_9⟩ := u_5
        try dsimp -zeta only at hw
        have hP : va_P D vwCl (wW_X5_addWord ak ad ht ta Tlen Tcnt_6 Tsigns Ttoks_7 Tplc_8 Tvals_9) H := hP.sub [1, 0, 2, 3, 4] rfl
        have hD : va_D A (wW_X5_addWord ak ad ht ta Tlen Tcnt_6 Tsigns Ttoks_7 Tplc_8 Tvals_9) := hD.sub [1, 0, 2, 3, 4] (by decide) rfl
        exact kR58 Tcnt_6 Ttoks_7 Tplc_8 Tvals_9 _ _ _ hw hP hD hS
      · replace hw := hw.2 c_2
        refine va_gets hx hb (hT.1 1 (by decide)).1 hS hown (hts (.fieldLink RX5 63 "WornLines$Token" "NO_TOKEN" "LWornLines$Token;") (wm_c hw_396)) (fun _ h9 => h9) dX5_addWord_40 ?_
        refine lv_goto (tgt := 53) hx hb dX5_addWord_43 (by decide) ?_
        refine lv_iload_n hx hb dX5_addWord_53 rfl (lv_at hl 1 rfl) ?_
        refine lv_lload_n hx hb dX5_addWord_54 rfl (lv_at hl 3 rfl) ?_
        refine kc_v (wc := (wW_X5_add ak ad ht ta Tlen Tcnt Ttoks Tplc Tvals)) (wr := [((ta 0), .inl (ak 2, 1000, .inl (Tsigns)))]) hP hD hS hA [0, 2, 3, 4] [1] rfl rfl (by decide) (by decide) (va_runV (As := [.ref (ad 1), .int (xa), .long (l3)]) (rest := []) ⟨hx, hb, hml, hown, hts⟩ (c_X5_add l D ak ad _ ht ta Tlen Tcnt Ttoks Tplc Tvals 1 xa l3 _ hw) (cwV 3 hts gX5_addWord_X5_add rfl rfl rfl hv_X5_add ⟨(Nat.le_trans (Nat.le_of_ble_eq_true rfl) hRf), (Nat.le_trans (Nat.le_of_ble_eq_true rfl) hRl)⟩) (kc_preV (As := [.ref (ad 1), .int (xa), .long (l3)]) (wc := (wW_X5_add ak ad ht ta Tlen Tcnt Ttoks Tplc Tvals)) hE hT hP hD hS hA [0, 2, 3, 4] (by decide) rfl rfl 0 5 rfl rfl rfl) rfl rfl hl.1 rfl (lv_room (Nat.le_of_ble_eq_true rfl)) dX5_addWord_55 ⟨hRc.1, hRc.2⟩) (fun u_11 H locs hw hP hD hS => ?_)
        obtain ⟨Tcnt_12, Ttoks_13, Tplc_14, Tvals_15⟩ := u_11
        try dsimp -zeta only at hw
        have hP : va_P D vwCl (wW_X5_addWord ak ad ht ta Tlen Tcnt_12 Tsigns Ttoks_13 Tplc_14 Tvals_15) H := hP.sub [1, 0, 2, 3, 4] rfl
        have hD : va_D A (wW_X5_addWord ak ad ht ta Tlen Tcnt_12 Tsigns Ttoks_13 Tplc_14 Tvals_15) := hD.sub [1, 0, 2, 3, 4] (by decide) rfl
        exact kR58 Tcnt_12 Ttoks_13 Tplc_14 Tvals_15 _ _ _ hw hP hD hS
    · replace hw := hw.2 c_1
      refine lv_lload_n hx hb dX5_addWord_11 rfl (lv_at hl 3 rfl) ?_
      refine lv_bipush (v := 8) hx hb dX5_addWord_12 (by decide) ?_
      refine lv_lshl (v := l3 <<< ((8 : Int32).toInt64 &&& 63)) hx hb dX5_addWord_14 rfl ?_
      refine lv_aload_n hx hb dX5_addWord_15 rfl (lv_at hl 0 rfl) ?_
      refine vt_get (D := D) (ci := 5) (v := .ref (ta 0)) (C := RX5) (T := TX5) (N := 6) hx hb hts (fun w h => wm_c (wc_X5 w h)) hown hE.1 hP 0 rfl rfl 0 (by decide) tX5_0 (hts (.fieldLink RX5 9 "WornLines$Tape" "signs" "[C") (wm_c hw_264)) (fun _ h9 => h9) rfl dX5_addWord_16 ?_
      refine lv_iload hx hb dX5_addWord_19 (lv_at hl 4 rfl) ?_
      obtain ⟨h_17, hw⟩ := hw
      refine va_cald hx hb hE.1 hP 1 2 rfl rfl (h_17) dX5_addWord_21 ?_
      refine lv_i2l (v := (Tsigns (l5).toNatClampNeg).toInt64) hx hb dX5_addWord_22 rfl ?_
      refine lv_lor hx hb dX5_addWord_23 ?_
      refine lv_lstore_n (lv' := [(3, .long ((l3 <<< ((8 : Int32).toInt64 &&& 63)) ||| ((Tsigns (l5).toNatClampNeg).toInt64))), (0, .ref ht), (1, .int (xa)), (2, .int (xe)), (5, .int (l5))]) hx hb dX5_addWord_24 rfl hl (by decide) rfl (fun ls hl => ?_)
      refine lv_iinc (v := (l5 + 1)) (lv' := [(5, .int (l5 + 1)), (3, .long ((l3 <<< ((8 : Int32).toInt64 &&& 63)) ||| ((Tsigns (l5).toNatClampNeg).toInt64))), (0, .ref ht), (1, .int (xa)), (2, .int (xe))]) hx hb dX5_addWord_25 hl (k := 4) rfl (rfl) (by decide) rfl (fun ls hl => ?_)
      refine lv_goto (tgt := 5) hx hb dX5_addWord_28 (by decide) ?_
      exact ih Tcnt Ttoks Tplc Tvals ((l3 <<< ((8 : Int32).toInt64 &&& 63)) ||| ((Tsigns (l5).toNatClampNeg).toInt64)) (l5 + 1) _ _ _ hw hP hD hS (lv_sub hl [2, 3, 4, 1, 0] rfl)

def wp_X5_addWord (Tsigns : Nat → Int32) (xa : Int32) (xe : Int32) (Tcnt : Int32) (Ttoks : Nat → Nat) (Tplc : Nat → Int32) (Tvals : Nat → Int64) (Φ : Int32 → (Nat → Nat) → (Nat → Int32) → (Nat → Int64) → Prop) : Prop := (∃ n_, lf_X5_addWord_5 Tsigns xa xe  Φ n_ Tcnt Ttoks Tplc Tvals 0 xa)
set_option maxHeartbeats 4000000 in
set_option maxRecDepth 100000 in
theorem kj_X5_addWord_e {p : Program} {l : Launch} {e : Env} {R : Room} {s : State} {m : MethodId} {args : Array Value} {below : List Frame} {meth : Method} {c : Code} {cells slots : Nat} {Q : State → Prop} {A : Nat → Prop} {D : va_G} {ak : Nat → ClassId} {ad : Nat → Nat} (hx : p.tables.exec = Jvm.exec) (hb : c.code = cX5_addWord) (hown : s.vm.findClass RX5 = some m.cls) (hts : ∀ w ∈ wsX5_addWord, w.before args s = true) (hml : c.maxLocals = 6) (hE : EV D ak s) (hT : ST D ak ad A s s.heap) (hA : ∀ q, s.heap.size ≤ q → A q) (hRf : 1 ≤ R.frames) (hRl : 26 ≤ R.locals) (hRc : cells ≤ R.cells ∧ slots ≤ R.slots) (ht : Nat) (ta : Nat → Nat) (Tlen : Int32) (Tsigns : Nat → Int32) (xa : Int32) (xe : Int32)  (Φ : Int32 → (Nat → Nat) → (Nat → Int32) → (Nat → Int64) → Prop)
    (kR58 : ∀ (Tcnt : Int32) (Ttoks : Nat → Nat) (Tplc : Nat → Int32) (Tvals : Nat → Int64) (H : Heap) (locs : List Loc) (ls : Array Slot), Φ Tcnt Ttoks Tplc Tvals → va_P D vwCl (wW_X5_addWord ak ad ht ta Tlen Tcnt Tsigns Ttoks Tplc Tvals) H → va_D A (wW_X5_addWord ak ad ht ta Tlen Tcnt Tsigns Ttoks Tplc Tvals) → va_S A s.heap H locs → W p l e R s m args below meth c H locs cells slots Q (F0 m 58 ls []))
    : ∀ (Tcnt : Int32) (Ttoks : Nat → Nat) (Tplc : Nat → Int32) (Tvals : Nat → Int64) (H : Heap) (locs : List Loc) (ls : Array Slot), wp_X5_addWord Tsigns xa xe Tcnt Ttoks Tplc Tvals Φ → va_P D vwCl (wW_X5_addWord ak ad ht ta Tlen Tcnt Tsigns Ttoks Tplc Tvals) H → va_D A (wW_X5_addWord ak ad ht ta Tlen Tcnt Tsigns Ttoks Tplc Tvals) → va_S A s.heap H locs → lv_has ls 6 [(0, .ref ht), (1, .int (xa)), (2, .int (xe))] → W p l e R s m args below meth c H locs cells slots Q (F0 m 0 ls ([])) := by
  intro Tcnt Ttoks Tplc Tvals H locs ls hw hP hD hS hl
  delta wp_X5_addWord at hw
  refine lv_lconst (v := 0) hx hb dX5_addWord_0 rfl ?_
  refine lv_lstore_n (lv' := [(3, .long (0)), (0, .ref ht), (1, .int (xa)), (2, .int (xe))]) hx hb dX5_addWord_1 rfl hl (by decide) rfl (fun ls hl => ?_)
  refine lv_iload_n hx hb dX5_addWord_2 rfl (lv_at hl 2 rfl) ?_
  refine lv_istore (lv' := [(5, .int (xa)), (3, .long (0)), (0, .ref ht), (1, .int (xa)), (2, .int (xe))]) hx hb dX5_addWord_3 hl (by decide) rfl (fun ls hl => ?_)
  obtain ⟨n1_, hw⟩ := hw
  exact lp_X5_addWord_5 hx hb hown hts hml hE hT hA hRf hRl hRc ht ta Tlen Tsigns xa xe  Φ  kR58 n1_ Tcnt Ttoks Tplc Tvals 0 xa _ _ _ hw hP hD hS (lv_sub hl [2, 3, 4, 1, 0] rfl)
set_option maxHeartbeats 4000000 in
set_option maxRecDepth 100000 in
theorem c_X5_addWord (l : Launch) (D : va_G) (ak : Nat → ClassId) (ad : Nat → Nat) (sz : Nat) (ht : Nat) (ta : Nat → Nat) (Tlen : Int32) (Tcnt : Int32) (Tsigns : Nat → Int32) (Ttoks : Nat → Nat) (Tplc : Nat → Int32) (Tvals : Nat → Int64) (xa : Int32) (xe : Int32) (Φ : Int32 → (Nat → Nat) → (Nat → Int32) → (Nat → Int64) → Prop) (hf : wp_X5_addWord Tsigns xa xe Tcnt Ttoks Tplc Tvals Φ) : Met l yX5_addWord wsX5_addWord ({ frames := 1, cells := 0, slots := 0, locals := 26 }) (cPre D ak ad [.ref ht, .int (xa), .int (xe)] ((wW_X5_addWord ak ad ht ta Tlen Tcnt Tsigns Ttoks Tplc Tvals)) sz) (cV D (S := (Int32) × (Nat → Nat) × (Nat → Int32) × (Nat → Int64)) (fun (u : (Int32) × (Nat → Nat) × (Nat → Int32) × (Nat → Int64)) => Φ u.1 u.2.1 u.2.2.1 u.2.2.2) (fun u => (wW_X5_addWord ak ad ht ta Tlen u.1 Tsigns u.2.1 u.2.2.1 u.2.2.2)) ((wW_X5_addWord ak ad ht ta Tlen Tcnt Tsigns Ttoks Tplc Tvals)) sz) 0 0 (va_A ((wW_X5_addWord ak ad ht ta Tlen Tcnt Tsigns Ttoks Tplc Tvals)) sz) := by
  refine Met.ofW (cc := cX5_addWord) (maxL := 6) (ret := none) (by decide) rfl ?_
  intro p e s m args below meth c s₁ B hml hv
  obtain ⟨rfl, hsz, hP, hE, hD0, hT⟩ := hv
  have hx := B.exec
  have hb := B.bytes
  have hr := B.returns
  have hts := atoms_spec (ws := wsX5_addWord) B.pre
  have hown : s.vm.findClass RX5 = some m.cls := findClass_of_methodNamed B.named
  have hlocks := B.notSynchronized
  subst hsz
  have hD := hD0.self (sz := s.heap.size)
  generalize hAe : va_A ((wW_X5_addWord ak ad ht ta Tlen Tcnt Tsigns Ttoks Tplc Tvals)) s.heap.size = A at hD hT ⊢
  have hA : ∀ q : Nat, s.heap.size ≤ q → A q := fun q h => by rw [← hAe]; exact Or.inr h
  have hS : va_S A s.heap s.heap [] := va_S.rf
  have hl := lv_entry ([.ref ht, .int (xa), .int (xe)]) (n := 6) (Nat.le_of_ble_eq_true rfl)
  rw [lg_entry_eq]
  generalize (lg_sl ([.ref ht, .int (xa), .int (xe)]) ++ List.replicate (6 - (lg_sl ([.ref ht, .int (xa), .int (xe)])).length) Slot.unset).toArray = ls at hl ⊢
  have hl : lv_has ls 6 [(0, .ref ht), (1, .int (xa)), (2, .int (xe))] := hl
  exact kj_X5_addWord_e hx hb hown hts hml hE hT hA (Nat.le_of_ble_eq_true rfl) (Nat.le_of_ble_eq_true rfl) ⟨Nat.le_of_ble_eq_true rfl, Nat.le_of_ble_eq_true rfl⟩ ht ta Tlen Tsigns xa xe Φ (fun Tcnt Ttoks Tplc Tvals H locs ls hw hP hD hS => W.vret hx hb hr (fun t ht hW => ⟨⟨(Tcnt, Ttoks, Tplc, Tvals), rfl, hw, by rw [ht]; exact hP, by rw [hAe]; exact hD⟩, by rw [hAe]; exact hS.F ht⟩) hS.2.2 dX5_addWord_58) Tcnt Ttoks Tplc Tvals _ _ _ hf hP hD hS hl

def wW_X5_addNumber (ak : Nat → ClassId) (ad : Nat → Nat) (ht : Nat) (ta : Nat → Nat) (Tlen : Int32) (Tcnt : Int32) (Tsigns : Nat → Int32) (Ttoks : Nat → Nat) (Tplc : Nat → Int32) (Tvals : Nat → Int64) : va_W := [(ht, .inr (5, tob ta (Tlen) (Tcnt))), ((ta 0), .inl (ak 2, 1000, .inl (Tsigns))), ((ta 1), .inl (ak 4, 1001, .inr (.inr (.inr (.inr (tokA ad (Ttoks))))))), ((ta 2), .inl (ak 0, 1001, .inl (Tplc))), ((ta 3), .inl (ak 1, 1001, .inr (.inl (Tvals))))]
def lb_X5_addNumber_5 (Tsigns : Nat → Int32) (xa : Int32) (xe : Int32)  (Φ : Int32 → (Nat → Nat) → (Nat → Int32) → (Nat → Int64) → Prop) (back : Int32 → (Nat → Nat) → (Nat → Int32) → (Nat → Int64) → Int64 → Int32 → Prop) (Tcnt : Int32) (Ttoks : Nat → Nat) (Tplc : Nat → Int32) (Tvals : Nat → Int64) (l3 : Int64) (l5 : Int32) : Prop := (xe ≤ l5 → ((xe - xa) ≤ 4 → wp_X5_add 2 xa l3 Tcnt Ttoks Tplc Tvals (fun Tcnt_4 Ttoks_5 Tplc_6 Tvals_7 => Φ Tcnt_4 Ttoks_5 Tplc_6 Tvals_7)) ∧ (¬ (xe - xa) ≤ 4 → wp_X5_add 1 xa l3 Tcnt Ttoks Tplc Tvals (fun Tcnt_10 Ttoks_11 Tplc_12 Tvals_13 => Φ Tcnt_10 Ttoks_11 Tplc_12 Tvals_13))) ∧ (¬ xe ≤ l5 → vp_in l5 1000 ∧ back Tcnt Ttoks Tplc Tvals ((l3 * 10) + (((Tsigns (l5).toNatClampNeg) - 48).toInt64)) (l5 + 1))
def lf_X5_addNumber_5 (Tsigns : Nat → Int32) (xa : Int32) (xe : Int32)  (Φ : Int32 → (Nat → Nat) → (Nat → Int32) → (Nat → Int64) → Prop) : Nat → Int32 → (Nat → Nat) → (Nat → Int32) → (Nat → Int64) → Int64 → Int32 → Prop
  | 0, _, _, _, _, _, _ => False
  | n_ + 1, Tcnt, Ttoks, Tplc, Tvals, l3, l5 => lb_X5_addNumber_5 Tsigns xa xe  Φ (lf_X5_addNumber_5 Tsigns xa xe  Φ n_) Tcnt Ttoks Tplc Tvals l3 l5
theorem li_X5_addNumber_5 (Tsigns : Nat → Int32) (xa : Int32) (xe : Int32)  (Φ : Int32 → (Nat → Nat) → (Nat → Int32) → (Nat → Int64) → Prop) (Inv : Int32 → (Nat → Nat) → (Nat → Int32) → (Nat → Int64) → Int64 → Int32 → Prop) (mu : Int32 → (Nat → Nat) → (Nat → Int32) → (Nat → Int64) → Int64 → Int32 → Nat) (hs : ∀ (back : Int32 → (Nat → Nat) → (Nat → Int32) → (Nat → Int64) → Int64 → Int32 → Prop) (Tcnt : Int32) (Ttoks : Nat → Nat) (Tplc : Nat → Int32) (Tvals : Nat → Int64) (l3 : Int64) (l5 : Int32), Inv Tcnt Ttoks Tplc Tvals l3 l5 → (∀ (Tcnt' : Int32) (Ttoks' : Nat → Nat) (Tplc' : Nat → Int32) (Tvals' : Nat → Int64) (l3' : Int64) (l5' : Int32), Inv Tcnt' Ttoks' Tplc' Tvals' l3' l5' → mu Tcnt' Ttoks' Tplc' Tvals' l3' l5' < mu Tcnt Ttoks Tplc Tvals l3 l5 → back Tcnt' Ttoks' Tplc' Tvals' l3' l5') → lb_X5_addNumber_5 Tsigns xa xe  Φ back Tcnt Ttoks Tplc Tvals l3 l5) : ∀ (n_ : Nat) (Tcnt : Int32) (Ttoks : Nat → Nat) (Tplc : Nat → Int32) (Tvals : Nat → Int64) (l3 : Int64) (l5 : Int32), Inv Tcnt Ttoks Tplc Tvals l3 l5 → mu Tcnt Ttoks Tplc Tvals l3 l5 < n_ → lf_X5_addNumber_5 Tsigns xa xe  Φ n_ Tcnt Ttoks Tplc Tvals l3 l5 := by
  intro n_
  induction n_ with
  | zero => intro Tcnt Ttoks Tplc Tvals l3 l5 _ h; exact absurd h (Nat.not_lt_zero _)
  | succ n_ ih => intro Tcnt Ttoks Tplc Tvals l3 l5 hI hm; exact hs _ Tcnt Ttoks Tplc Tvals l3 l5 hI (fun Tcnt' Ttoks' Tplc' Tvals' l3' l5' h1 h2 => ih Tcnt' Ttoks' Tplc' Tvals' l3' l5' h1 (by omega))
set_option maxHeartbeats 4000000 in
set_option maxRecDepth 100000 in
theorem lp_X5_addNumber_5 {p : Program} {l : Launch} {e : Env} {R : Room} {s : State} {m : MethodId} {args : Array Value} {below : List Frame} {meth : Method} {c : Code} {cells slots : Nat} {Q : State → Prop} {A : Nat → Prop} {D : va_G} {ak : Nat → ClassId} {ad : Nat → Nat} (hx : p.tables.exec = Jvm.exec) (hb : c.code = cX5_addNumber) (hown : s.vm.findClass RX5 = some m.cls) (hts : ∀ w ∈ wsX5_addNumber, w.before args s = true) (hml : c.maxLocals = 6) (hE : EV D ak s) (hT : ST D ak ad A s s.heap) (hA : ∀ q, s.heap.size ≤ q → A q) (hRf : 1 ≤ R.frames) (hRl : 24 ≤ R.locals) (hRc : cells ≤ R.cells ∧ slots ≤ R.slots) (ht : Nat) (ta : Nat → Nat) (Tlen : Int32) (Tsigns : Nat → Int32) (xa : Int32) (xe : Int32)  (Φ : Int32 → (Nat → Nat) → (Nat → Int32) → (Nat → Int64) → Prop)
    (kR57 : ∀ (Tcnt : Int32) (Ttoks : Nat → Nat) (Tplc : Nat → Int32) (Tvals : Nat → Int64) (H : Heap) (locs : List Loc) (ls : Array Slot), Φ Tcnt Ttoks Tplc Tvals → va_P D vwCl (wW_X5_addNumber ak ad ht ta Tlen Tcnt Tsigns Ttoks Tplc Tvals) H → va_D A (wW_X5_addNumber ak ad ht ta Tlen Tcnt Tsigns Ttoks Tplc Tvals) → va_S A s.heap H locs → W p l e R s m args below meth c H locs cells slots Q (F0 m 57 ls []))
    : ∀ (n_ : Nat) (Tcnt : Int32) (Ttoks : Nat → Nat) (Tplc : Nat → Int32) (Tvals : Nat → Int64) (l3 : Int64) (l5 : Int32) (H : Heap) (locs : List Loc) (ls : Array Slot), lf_X5_addNumber_5 Tsigns xa xe  Φ n_ Tcnt Ttoks Tplc Tvals l3 l5 → va_P D vwCl (wW_X5_addNumber ak ad ht ta Tlen Tcnt Tsigns Ttoks Tplc Tvals) H → va_D A (wW_X5_addNumber ak ad ht ta Tlen Tcnt Tsigns Ttoks Tplc Tvals) → va_S A s.heap H locs → lv_has ls 6 [(0, .ref ht), (1, .int (xa)), (2, .int (xe)), (3, .long (l3)), (5, .int (l5))] → W p l e R s m args below meth c H locs cells slots Q (F0 m 5 ls ([])) := by
  intro n_
  induction n_ with
  | zero =>
    intro Tcnt Ttoks Tplc Tvals l3 l5 H locs ls hw
    exact hw.elim
  | succ n_ ih =>
    intro Tcnt Ttoks Tplc Tvals l3 l5 H locs ls hw hP hD hS hl
    have hw : lb_X5_addNumber_5 Tsigns xa xe  Φ (lf_X5_addNumber_5 Tsigns xa xe  Φ n_) Tcnt Ttoks Tplc Tvals l3 l5 := hw
    delta lb_X5_addNumber_5 at hw
    refine lv_iload hx hb dX5_addNumber_5 (lv_at hl 4 rfl) ?_
    refine lv_iload_n hx hb dX5_addNumber_7 rfl (lv_at hl 2 rfl) ?_
    refine lv_icmp_ge (tgt := 35) hx hb dX5_addNumber_8 (by decide) (fun c_1 => ?_) (fun c_1 => ?_)
    · replace hw := hw.1 c_1
      refine lv_aload_n hx hb dX5_addNumber_35 rfl (lv_at hl 0 rfl) ?_
      refine lv_iload_n hx hb dX5_addNumber_36 rfl (lv_at hl 2 rfl) ?_
      refine lv_iload_n hx hb dX5_addNumber_37 rfl (lv_at hl 1 rfl) ?_
      refine lv_isub hx hb dX5_addNumber_38 ?_
      refine lv_iconst (v := 4) hx hb dX5_addNumber_39 (by decide) ?_
      refine lv_icmp_le (tgt := 49) hx hb dX5_addNumber_40 (by decide) (fun c_2 => ?_) (fun c_2 => ?_)
      · replace hw := hw.1 c_2
        refine va_gets hx hb (hT.1 2 (by decide)).1 hS hown (hts (.fieldLink RX5 75 "WornLines$Token" "A_NUMBER" "LWornLines$Token;") (wm_c hw_397)) (fun _ h9 => h9) dX5_addNumber_49 ?_
        refine lv_iload_n hx hb dX5_addNumber_52 rfl (lv_at hl 1 rfl) ?_
        refine lv_lload_n hx hb dX5_addNumber_53 rfl (lv_at hl 3 rfl) ?_
        refine kc_v (wc := (wW_X5_add ak ad ht ta Tlen Tcnt Ttoks Tplc Tvals)) (wr := [((ta 0), .inl (ak 2, 1000, .inl (Tsigns)))]) hP hD hS hA [0, 2, 3, 4] [1] rfl rfl (by decide) (by decide) (va_runV (As := [.ref (ad 2), .int (xa), .long (l3)]) (rest := []) ⟨hx, hb, hml, hown, hts⟩ (c_X5_add l D ak ad _ ht ta Tlen Tcnt Ttoks Tplc Tvals 2 xa l3 _ hw) (cwV 3 hts gX5_addNumber_X5_add rfl rfl rfl hv_X5_add ⟨(Nat.le_trans (Nat.le_of_ble_eq_true rfl) hRf), (Nat.le_trans (Nat.le_of_ble_eq_true rfl) hRl)⟩) (kc_preV (As := [.ref (ad 2), .int (xa), .long (l3)]) (wc := (wW_X5_add ak ad ht ta Tlen Tcnt Ttoks Tplc Tvals)) hE hT hP hD hS hA [0, 2, 3, 4] (by decide) rfl rfl 0 5 rfl rfl rfl) rfl rfl hl.1 rfl (lv_room (Nat.le_of_ble_eq_true rfl)) dX5_addNumber_54 ⟨hRc.1, hRc.2⟩) (fun u_3 H locs hw hP hD hS => ?_)
        obtain ⟨Tcnt_4, Ttoks_5, Tplc_6, Tvals_7⟩ := u_3
        try dsimp -zeta only at hw
        have hP : va_P D vwCl (wW_X5_addNumber ak ad ht ta Tlen Tcnt_4 Tsigns Ttoks_5 Tplc_6 Tvals_7) H := hP.sub [1, 0, 2, 3, 4] rfl
        have hD : va_D A (wW_X5_addNumber ak ad ht ta Tlen Tcnt_4 Tsigns Ttoks_5 Tplc_6 Tvals_7) := hD.sub [1, 0, 2, 3, 4] (by decide) rfl
        exact kR57 Tcnt_4 Ttoks_5 Tplc_6 Tvals_7 _ _ _ hw hP hD hS
      · replace hw := hw.2 c_2
        refine va_gets hx hb (hT.1 1 (by decide)).1 hS hown (hts (.fieldLink RX5 63 "WornLines$Token" "NO_TOKEN" "LWornLines$Token;") (wm_c hw_396)) (fun _ h9 => h9) dX5_addNumber_43 ?_
        refine lv_goto (tgt := 52) hx hb dX5_addNumber_46 (by decide) ?_
        refine lv_iload_n hx hb dX5_addNumber_52 rfl (lv_at hl 1 rfl) ?_
        refine lv_lload_n hx hb dX5_addNumber_53 rfl (lv_at hl 3 rfl) ?_
        refine kc_v (wc := (wW_X5_add ak ad ht ta Tlen Tcnt Ttoks Tplc Tvals)) (wr := [((ta 0), .inl (ak 2, 1000, .inl (Tsigns)))]) hP hD hS hA [0, 2, 3, 4] [1] rfl rfl (by decide) (by decide) (va_runV (As := [.ref (ad 1), .int (xa), .long (l3)]) (rest := []) ⟨hx, hb, hml, hown, hts⟩ (c_X5_add l D ak ad _ ht ta Tlen Tcnt Ttoks Tplc Tvals 1 xa l3 _ hw) (cwV 3 hts gX5_addNumber_X5_add rfl rfl rfl hv_X5_add ⟨(Nat.le_trans (Nat.le_of_ble_eq_true rfl) hRf), (Nat.le_trans (Nat.le_of_ble_eq_true rfl) hRl)⟩) (kc_preV (As := [.ref (ad 1), .int (xa), .long (l3)]) (wc := (wW_X5_add ak ad ht ta Tlen Tcnt Ttoks Tplc Tvals)) hE hT hP hD hS hA [0, 2, 3, 4] (by decide) rfl rfl 0 5 rfl rfl rfl) rfl rfl hl.1 rfl (lv_room (Nat.le_of_ble_eq_true rfl)) dX5_addNumber_54 ⟨hRc.1, hRc.2⟩) (fun u_9 H locs hw hP hD hS => ?_)
        obtain ⟨Tcnt_10, Ttoks_11, Tplc_12, Tvals_13⟩ := u_9
        try dsimp -zeta only at hw
        have hP : va_P D vwCl (wW_X5_addNumber ak ad ht ta Tlen Tcnt_10 Tsigns Ttoks_11 Tplc_12 Tvals_13) H := hP.sub [1, 0, 2, 3, 4] rfl
        have hD : va_D A (wW_X5_addNumber ak ad ht ta Tlen Tcnt_10 Tsigns Ttoks_11 Tplc_12 Tvals_13) := hD.sub [1, 0, 2, 3, 4] (by decide) rfl
        exact kR57 Tcnt_10 Ttoks_11 Tplc_12 Tvals_13 _ _ _ hw hP hD hS
    · replace hw := hw.2 c_1
      refine lv_lload_n hx hb dX5_addNumber_11 rfl (lv_at hl 3 rfl) ?_
      refine lv_ldc2 hx hb hown (hts (.constantLong RX5 73 (10)) (wm_c hw_398)) dX5_addNumber_12 ?_
      refine lv_lmul hx hb dX5_addNumber_15 ?_
      refine lv_aload_n hx hb dX5_addNumber_16 rfl (lv_at hl 0 rfl) ?_
      refine vt_get (D := D) (ci := 5) (v := .ref (ta 0)) (C := RX5) (T := TX5) (N := 6) hx hb hts (fun w h => wm_c (wc_X5 w h)) hown hE.1 hP 0 rfl rfl 0 (by decide) tX5_0 (hts (.fieldLink RX5 9 "WornLines$Tape" "signs" "[C") (wm_c hw_264)) (fun _ h9 => h9) rfl dX5_addNumber_17 ?_
      refine lv_iload hx hb dX5_addNumber_20 (lv_at hl 4 rfl) ?_
      obtain ⟨h_15, hw⟩ := hw
      refine va_cald hx hb hE.1 hP 1 2 rfl rfl (h_15) dX5_addNumber_22 ?_
      refine lv_bipush (v := 48) hx hb dX5_addNumber_23 (by decide) ?_
      refine lv_isub hx hb dX5_addNumber_25 ?_
      refine lv_i2l (v := ((Tsigns (l5).toNatClampNeg) - 48).toInt64) hx hb dX5_addNumber_26 rfl ?_
      refine lv_ladd hx hb dX5_addNumber_27 ?_
      refine lv_lstore_n (lv' := [(3, .long ((l3 * 10) + (((Tsigns (l5).toNatClampNeg) - 48).toInt64))), (0, .ref ht), (1, .int (xa)), (2, .int (xe)), (5, .int (l5))]) hx hb dX5_addNumber_28 rfl hl (by decide) rfl (fun ls hl => ?_)
      refine lv_iinc (v := (l5 + 1)) (lv' := [(5, .int (l5 + 1)), (3, .long ((l3 * 10) + (((Tsigns (l5).toNatClampNeg) - 48).toInt64))), (0, .ref ht), (1, .int (xa)), (2, .int (xe))]) hx hb dX5_addNumber_29 hl (k := 4) rfl (rfl) (by decide) rfl (fun ls hl => ?_)
      refine lv_goto (tgt := 5) hx hb dX5_addNumber_32 (by decide) ?_
      exact ih Tcnt Ttoks Tplc Tvals ((l3 * 10) + (((Tsigns (l5).toNatClampNeg) - 48).toInt64)) (l5 + 1) _ _ _ hw hP hD hS (lv_sub hl [2, 3, 4, 1, 0] rfl)

def wp_X5_addNumber (Tsigns : Nat → Int32) (xa : Int32) (xe : Int32) (Tcnt : Int32) (Ttoks : Nat → Nat) (Tplc : Nat → Int32) (Tvals : Nat → Int64) (Φ : Int32 → (Nat → Nat) → (Nat → Int32) → (Nat → Int64) → Prop) : Prop := (∃ n_, lf_X5_addNumber_5 Tsigns xa xe  Φ n_ Tcnt Ttoks Tplc Tvals 0 xa)
set_option maxHeartbeats 4000000 in
set_option maxRecDepth 100000 in
theorem kj_X5_addNumber_e {p : Program} {l : Launch} {e : Env} {R : Room} {s : State} {m : MethodId} {args : Array Value} {below : List Frame} {meth : Method} {c : Code} {cells slots : Nat} {Q : State → Prop} {A : Nat → Prop} {D : va_G} {ak : Nat → ClassId} {ad : Nat → Nat} (hx : p.tables.exec = Jvm.exec) (hb : c.code = cX5_addNumber) (hown : s.vm.findClass RX5 = some m.cls) (hts : ∀ w ∈ wsX5_addNumber, w.before args s = true) (hml : c.maxLocals = 6) (hE : EV D ak s) (hT : ST D ak ad A s s.heap) (hA : ∀ q, s.heap.size ≤ q → A q) (hRf : 1 ≤ R.frames) (hRl : 24 ≤ R.locals) (hRc : cells ≤ R.cells ∧ slots ≤ R.slots) (ht : Nat) (ta : Nat → Nat) (Tlen : Int32) (Tsigns : Nat → Int32) (xa : Int32) (xe : Int32)  (Φ : Int32 → (Nat → Nat) → (Nat → Int32) → (Nat → Int64) → Prop)
    (kR57 : ∀ (Tcnt : Int32) (Ttoks : Nat → Nat) (Tplc : Nat → Int32) (Tvals : Nat → Int64) (H : Heap) (locs : List Loc) (ls : Array Slot), Φ Tcnt Ttoks Tplc Tvals → va_P D vwCl (wW_X5_addNumber ak ad ht ta Tlen Tcnt Tsigns Ttoks Tplc Tvals) H → va_D A (wW_X5_addNumber ak ad ht ta Tlen Tcnt Tsigns Ttoks Tplc Tvals) → va_S A s.heap H locs → W p l e R s m args below meth c H locs cells slots Q (F0 m 57 ls []))
    : ∀ (Tcnt : Int32) (Ttoks : Nat → Nat) (Tplc : Nat → Int32) (Tvals : Nat → Int64) (H : Heap) (locs : List Loc) (ls : Array Slot), wp_X5_addNumber Tsigns xa xe Tcnt Ttoks Tplc Tvals Φ → va_P D vwCl (wW_X5_addNumber ak ad ht ta Tlen Tcnt Tsigns Ttoks Tplc Tvals) H → va_D A (wW_X5_addNumber ak ad ht ta Tlen Tcnt Tsigns Ttoks Tplc Tvals) → va_S A s.heap H locs → lv_has ls 6 [(0, .ref ht), (1, .int (xa)), (2, .int (xe))] → W p l e R s m args below meth c H locs cells slots Q (F0 m 0 ls ([])) := by
  intro Tcnt Ttoks Tplc Tvals H locs ls hw hP hD hS hl
  delta wp_X5_addNumber at hw
  refine lv_lconst (v := 0) hx hb dX5_addNumber_0 rfl ?_
  refine lv_lstore_n (lv' := [(3, .long (0)), (0, .ref ht), (1, .int (xa)), (2, .int (xe))]) hx hb dX5_addNumber_1 rfl hl (by decide) rfl (fun ls hl => ?_)
  refine lv_iload_n hx hb dX5_addNumber_2 rfl (lv_at hl 2 rfl) ?_
  refine lv_istore (lv' := [(5, .int (xa)), (3, .long (0)), (0, .ref ht), (1, .int (xa)), (2, .int (xe))]) hx hb dX5_addNumber_3 hl (by decide) rfl (fun ls hl => ?_)
  obtain ⟨n1_, hw⟩ := hw
  exact lp_X5_addNumber_5 hx hb hown hts hml hE hT hA hRf hRl hRc ht ta Tlen Tsigns xa xe  Φ  kR57 n1_ Tcnt Ttoks Tplc Tvals 0 xa _ _ _ hw hP hD hS (lv_sub hl [2, 3, 4, 1, 0] rfl)
set_option maxHeartbeats 4000000 in
set_option maxRecDepth 100000 in
theorem c_X5_addNumber (l : Launch) (D : va_G) (ak : Nat → ClassId) (ad : Nat → Nat) (sz : Nat) (ht : Nat) (ta : Nat → Nat) (Tlen : Int32) (Tcnt : Int32) (Tsigns : Nat → Int32) (Ttoks : Nat → Nat) (Tplc : Nat → Int32) (Tvals : Nat → Int64) (xa : Int32) (xe : Int32) (Φ : Int32 → (Nat → Nat) → (Nat → Int32) → (Nat → Int64) → Prop) (hf : wp_X5_addNumber Tsigns xa xe Tcnt Ttoks Tplc Tvals Φ) : Met l yX5_addNumber wsX5_addNumber ({ frames := 1, cells := 0, slots := 0, locals := 24 }) (cPre D ak ad [.ref ht, .int (xa), .int (xe)] ((wW_X5_addNumber ak ad ht ta Tlen Tcnt Tsigns Ttoks Tplc Tvals)) sz) (cV D (S := (Int32) × (Nat → Nat) × (Nat → Int32) × (Nat → Int64)) (fun (u : (Int32) × (Nat → Nat) × (Nat → Int32) × (Nat → Int64)) => Φ u.1 u.2.1 u.2.2.1 u.2.2.2) (fun u => (wW_X5_addNumber ak ad ht ta Tlen u.1 Tsigns u.2.1 u.2.2.1 u.2.2.2)) ((wW_X5_addNumber ak ad ht ta Tlen Tcnt Tsigns Ttoks Tplc Tvals)) sz) 0 0 (va_A ((wW_X5_addNumber ak ad ht ta Tlen Tcnt Tsigns Ttoks Tplc Tvals)) sz) := by
  refine Met.ofW (cc := cX5_addNumber) (maxL := 6) (ret := none) (by decide) rfl ?_
  intro p e s m args below meth c s₁ B hml hv
  obtain ⟨rfl, hsz, hP, hE, hD0, hT⟩ := hv
  have hx := B.exec
  have hb := B.bytes
  have hr := B.returns
  have hts := atoms_spec (ws := wsX5_addNumber) B.pre
  have hown : s.vm.findClass RX5 = some m.cls := findClass_of_methodNamed B.named
  have hlocks := B.notSynchronized
  subst hsz
  have hD := hD0.self (sz := s.heap.size)
  generalize hAe : va_A ((wW_X5_addNumber ak ad ht ta Tlen Tcnt Tsigns Ttoks Tplc Tvals)) s.heap.size = A at hD hT ⊢
  have hA : ∀ q : Nat, s.heap.size ≤ q → A q := fun q h => by rw [← hAe]; exact Or.inr h
  have hS : va_S A s.heap s.heap [] := va_S.rf
  have hl := lv_entry ([.ref ht, .int (xa), .int (xe)]) (n := 6) (Nat.le_of_ble_eq_true rfl)
  rw [lg_entry_eq]
  generalize (lg_sl ([.ref ht, .int (xa), .int (xe)]) ++ List.replicate (6 - (lg_sl ([.ref ht, .int (xa), .int (xe)])).length) Slot.unset).toArray = ls at hl ⊢
  have hl : lv_has ls 6 [(0, .ref ht), (1, .int (xa)), (2, .int (xe))] := hl
  exact kj_X5_addNumber_e hx hb hown hts hml hE hT hA (Nat.le_of_ble_eq_true rfl) (Nat.le_of_ble_eq_true rfl) ⟨Nat.le_of_ble_eq_true rfl, Nat.le_of_ble_eq_true rfl⟩ ht ta Tlen Tsigns xa xe Φ (fun Tcnt Ttoks Tplc Tvals H locs ls hw hP hD hS => W.vret hx hb hr (fun t ht hW => ⟨⟨(Tcnt, Ttoks, Tplc, Tvals), rfl, hw, by rw [ht]; exact hP, by rw [hAe]; exact hD⟩, by rw [hAe]; exact hS.F ht⟩) hS.2.2 dX5_addNumber_57) Tcnt Ttoks Tplc Tvals _ _ _ hf hP hD hS hl
end
section
theorem dX5_splitOne_53 : decode cX5_splitOne 53 = .ok (.iload_n 2, 1) := by decide +kernel
theorem dX5_splitOne_54 : decode cX5_splitOne 54 = .ok (.bipush 97, 2) := by decide +kernel
theorem dX5_splitOne_56 : decode cX5_splitOne 56 = .ok (.if_icmp .ne 12, 3) := by decide +kernel
theorem dX5_splitOne_68 : decode cX5_splitOne 68 = .ok (.iload_n 2, 1) := by decide +kernel
theorem dX5_splitOne_69 : decode cX5_splitOne 69 = .ok (.bipush 48, 2) := by decide +kernel
theorem dX5_splitOne_71 : decode cX5_splitOne 71 = .ok (.if_icmp .ne 12, 3) := by decide +kernel
theorem dX5_splitOne_83 : decode cX5_splitOne 83 = .ok (.aload_n 0, 1) := by decide +kernel
theorem dX5_splitOne_84 : decode cX5_splitOne 84 = .ok (.aload_n 0, 1) := by decide +kernel
theorem dX5_splitOne_85 : decode cX5_splitOne 85 = .ok (.getfield 9, 3) := by decide +kernel
theorem dX5_splitOne_88 : decode cX5_splitOne 88 = .ok (.iload_n 1, 1) := by decide +kernel
theorem dX5_splitOne_89 : decode cX5_splitOne 89 = .ok (.caload, 1) := by decide +kernel
theorem dX5_splitOne_90 : decode cX5_splitOne 90 = .ok (.i2l, 1) := by decide +kernel
theorem dX5_splitOne_91 : decode cX5_splitOne 91 = .ok (.getstatic 63, 3) := by decide +kernel
set_option maxRecDepth 20000 in
theorem ggX5_splitOne_X5_spelled : GoodIn wsX5_splitOne wsX5_spelled := gup gc_X5_spelled
set_option maxRecDepth 20000 in
theorem gX5_splitOne_X5_spelled : GoodIn wsX5_splitOne (va_wsS RX5 66 yX5_spelled wsX5_spelled) := gup (glS hw_399 hw_400 hw_401 gc_X5_spelled)
theorem dX5_splitOne_94 : decode cX5_splitOne 94 = .ok (.invokestatic 66, 3) := by decide +kernel
theorem dX5_splitOne_97 : decode cX5_splitOne 97 = .ok (.iload_n 1, 1) := by decide +kernel
theorem dX5_splitOne_98 : decode cX5_splitOne 98 = .ok (.lconst 0, 1) := by decide +kernel
set_option maxRecDepth 20000 in
theorem ggX5_splitOne_X5_add : GoodIn wsX5_splitOne wsX5_add := gup gc_X5_add
set_option maxRecDepth 20000 in
theorem gX5_splitOne_X5_add : GoodIn wsX5_splitOne (wsV RX5 48 RX5 yX5_add wsX5_add) := gup (glV hw_402 hw_403 hw_404 hw_401 gc_X5_add)
theorem dX5_splitOne_99 : decode cX5_splitOne 99 = .ok (.invokevirtual 48, 3) := by decide +kernel
theorem dX5_splitOne_102 : decode cX5_splitOne 102 = .ok (.iload_n 3, 1) := by decide +kernel
theorem dX5_splitOne_74 : decode cX5_splitOne 74 = .ok (.aload_n 0, 1) := by decide +kernel
theorem dX5_splitOne_75 : decode cX5_splitOne 75 = .ok (.iload_n 1, 1) := by decide +kernel
theorem dX5_splitOne_76 : decode cX5_splitOne 76 = .ok (.iload_n 3, 1) := by decide +kernel
set_option maxRecDepth 20000 in
theorem ggX5_splitOne_X5_addNumber : GoodIn wsX5_splitOne wsX5_addNumber := gup gc_X5_addNumber
set_option maxRecDepth 20000 in
theorem gX5_splitOne_X5_addNumber : GoodIn wsX5_splitOne (wsV RX5 60 RX5 yX5_addNumber wsX5_addNumber) := gup (glV hw_406 hw_407 hw_408 hw_401 gc_X5_addNumber)
theorem dX5_splitOne_77 : decode cX5_splitOne 77 = .ok (.invokevirtual 60, 3) := by decide +kernel
theorem dX5_splitOne_80 : decode cX5_splitOne 80 = .ok (.goto 22, 3) := by decide +kernel
theorem dX5_splitOne_59 : decode cX5_splitOne 59 = .ok (.aload_n 0, 1) := by decide +kernel
theorem dX5_splitOne_60 : decode cX5_splitOne 60 = .ok (.iload_n 1, 1) := by decide +kernel
theorem dX5_splitOne_61 : decode cX5_splitOne 61 = .ok (.iload_n 3, 1) := by decide +kernel
set_option maxRecDepth 20000 in
theorem ggX5_splitOne_X5_addWord : GoodIn wsX5_splitOne wsX5_addWord := gup gc_X5_addWord
set_option maxRecDepth 20000 in
theorem gX5_splitOne_X5_addWord : GoodIn wsX5_splitOne (wsV RX5 56 RX5 yX5_addWord wsX5_addWord) := gup (glV hw_409 hw_410 hw_411 hw_401 gc_X5_addWord)
theorem dX5_splitOne_62 : decode cX5_splitOne 62 = .ok (.invokevirtual 56, 3) := by decide +kernel
theorem dX5_splitOne_65 : decode cX5_splitOne 65 = .ok (.goto 37, 3) := by decide +kernel
theorem dX5_splitOne_17 : decode cX5_splitOne 17 = .ok (.iload 4, 2) := by decide +kernel
theorem dX5_splitOne_19 : decode cX5_splitOne 19 = .ok (.aload_n 0, 1) := by decide +kernel
theorem dX5_splitOne_20 : decode cX5_splitOne 20 = .ok (.getfield 29, 3) := by decide +kernel
theorem dX5_splitOne_23 : decode cX5_splitOne 23 = .ok (.if_icmp .ge 30, 3) := by decide +kernel
theorem dX5_splitOne_26 : decode cX5_splitOne 26 = .ok (.iload_n 2, 1) := by decide +kernel
theorem dX5_splitOne_27 : decode cX5_splitOne 27 = .ok (.ifCond .eq 26, 3) := by decide +kernel
theorem dX5_splitOne_30 : decode cX5_splitOne 30 = .ok (.aload_n 0, 1) := by decide +kernel
theorem dX5_splitOne_31 : decode cX5_splitOne 31 = .ok (.getfield 9, 3) := by decide +kernel
theorem dX5_splitOne_34 : decode cX5_splitOne 34 = .ok (.iload 4, 2) := by decide +kernel
theorem dX5_splitOne_36 : decode cX5_splitOne 36 = .ok (.caload, 1) := by decide +kernel
set_option maxRecDepth 20000 in
theorem ggX5_splitOne_X5_kindOf : GoodIn wsX5_splitOne wsX5_kindOf := gup gc_X5_kindOf
set_option maxRecDepth 20000 in
theorem gX5_splitOne_X5_kindOf : GoodIn wsX5_splitOne (va_wsS RX5 52 yX5_kindOf wsX5_kindOf) := gup (glS hw_412 hw_413 hw_401 gc_X5_kindOf)
theorem dX5_splitOne_37 : decode cX5_splitOne 37 = .ok (.invokestatic 52, 3) := by decide +kernel
theorem dX5_splitOne_40 : decode cX5_splitOne 40 = .ok (.iload_n 2, 1) := by decide +kernel
theorem dX5_splitOne_41 : decode cX5_splitOne 41 = .ok (.if_icmp .ne 12, 3) := by decide +kernel
theorem dX5_splitOne_44 : decode cX5_splitOne 44 = .ok (.iinc 3 1, 3) := by decide +kernel
theorem dX5_splitOne_47 : decode cX5_splitOne 47 = .ok (.iinc 4 1, 3) := by decide +kernel
theorem dX5_splitOne_50 : decode cX5_splitOne 50 = .ok (.goto (-33), 3) := by decide +kernel
theorem dX5_splitOne_0 : decode cX5_splitOne 0 = .ok (.aload_n 0, 1) := by decide +kernel
theorem dX5_splitOne_1 : decode cX5_splitOne 1 = .ok (.getfield 9, 3) := by decide +kernel
theorem dX5_splitOne_4 : decode cX5_splitOne 4 = .ok (.iload_n 1, 1) := by decide +kernel
theorem dX5_splitOne_5 : decode cX5_splitOne 5 = .ok (.caload, 1) := by decide +kernel
theorem dX5_splitOne_6 : decode cX5_splitOne 6 = .ok (.invokestatic 52, 3) := by decide +kernel
theorem dX5_splitOne_9 : decode cX5_splitOne 9 = .ok (.istore_n 2, 1) := by decide +kernel
theorem dX5_splitOne_10 : decode cX5_splitOne 10 = .ok (.iload_n 1, 1) := by decide +kernel
theorem dX5_splitOne_11 : decode cX5_splitOne 11 = .ok (.iconst 1, 1) := by decide +kernel
theorem dX5_splitOne_12 : decode cX5_splitOne 12 = .ok (.iadd, 1) := by decide +kernel
theorem dX5_splitOne_13 : decode cX5_splitOne 13 = .ok (.istore_n 3, 1) := by decide +kernel
theorem dX5_splitOne_14 : decode cX5_splitOne 14 = .ok (.iload_n 3, 1) := by decide +kernel
theorem dX5_splitOne_15 : decode cX5_splitOne 15 = .ok (.istore 4, 2) := by decide +kernel
theorem dX5_splitOne_103 : decode cX5_splitOne 103 = .ok (.ireturn, 1) := by decide +kernel
theorem dX5_split_9 : decode cX5_split 9 = .ok (.iload_n 2, 1) := by decide +kernel
theorem dX5_split_10 : decode cX5_split 10 = .ok (.sipush 1000, 3) := by decide +kernel
theorem dX5_split_13 : decode cX5_split 13 = .ok (.if_icmp .ge 41, 3) := by decide +kernel
theorem dX5_split_54 : decode cX5_split 54 = .ok (.aload_n 0, 1) := by decide +kernel
theorem dX5_split_55 : decode cX5_split 55 = .ok (.getstatic 44, 3) := by decide +kernel
theorem dX5_split_58 : decode cX5_split 58 = .ok (.aload_n 0, 1) := by decide +kernel
theorem dX5_split_59 : decode cX5_split 59 = .ok (.getfield 29, 3) := by decide +kernel
theorem dX5_split_62 : decode cX5_split 62 = .ok (.lconst 0, 1) := by decide +kernel
set_option maxRecDepth 20000 in
theorem ggX5_split_X5_add : GoodIn wsX5_split wsX5_add := gup gc_X5_add
set_option maxRecDepth 20000 in
theorem gX5_split_X5_add : GoodIn wsX5_split (wsV RX5 48 RX5 yX5_add wsX5_add) := gup (glV hw_402 hw_403 hw_404 hw_401 gc_X5_add)
theorem dX5_split_63 : decode cX5_split 63 = .ok (.invokevirtual 48, 3) := by decide +kernel
theorem dX5_split_16 : decode cX5_split 16 = .ok (.iload_n 1, 1) := by decide +kernel
theorem dX5_split_17 : decode cX5_split 17 = .ok (.aload_n 0, 1) := by decide +kernel
theorem dX5_split_18 : decode cX5_split 18 = .ok (.getfield 29, 3) := by decide +kernel
theorem dX5_split_21 : decode cX5_split 21 = .ok (.if_icmp .ge 33, 3) := by decide +kernel
theorem dX5_split_24 : decode cX5_split 24 = .ok (.aload_n 0, 1) := by decide +kernel
theorem dX5_split_25 : decode cX5_split 25 = .ok (.getfield 9, 3) := by decide +kernel
theorem dX5_split_28 : decode cX5_split 28 = .ok (.iload_n 1, 1) := by decide +kernel
theorem dX5_split_29 : decode cX5_split 29 = .ok (.caload, 1) := by decide +kernel
set_option maxRecDepth 20000 in
theorem ggX5_split_X5_isBlank : GoodIn wsX5_split wsX5_isBlank := gup gc_X5_isBlank
set_option maxRecDepth 20000 in
theorem gX5_split_X5_isBlank : GoodIn wsX5_split (va_wsS RX5 36 yX5_isBlank wsX5_isBlank) := gup (glS hw_414 hw_415 hw_401 gc_X5_isBlank)
theorem dX5_split_30 : decode cX5_split 30 = .ok (.invokestatic 36, 3) := by decide +kernel
theorem dX5_split_33 : decode cX5_split 33 = .ok (.ifCond .eq 9, 3) := by decide +kernel
theorem dX5_split_42 : decode cX5_split 42 = .ok (.aload_n 0, 1) := by decide +kernel
theorem dX5_split_43 : decode cX5_split 43 = .ok (.iload_n 1, 1) := by decide +kernel
set_option maxRecDepth 20000 in
theorem ggX5_split_X5_splitOne : GoodIn wsX5_split wsX5_splitOne := gup gc_X5_splitOne
set_option maxRecDepth 20000 in
theorem gX5_split_X5_splitOne : GoodIn wsX5_split (wsV RX5 40 RX5 yX5_splitOne wsX5_splitOne) := gup (glV hw_416 hw_417 hw_418 hw_401 gc_X5_splitOne)
theorem dX5_split_44 : decode cX5_split 44 = .ok (.invokevirtual 40, 3) := by decide +kernel
theorem dX5_split_47 : decode cX5_split 47 = .ok (.istore_n 1, 1) := by decide +kernel
theorem dX5_split_48 : decode cX5_split 48 = .ok (.iinc 2 1, 3) := by decide +kernel
theorem dX5_split_51 : decode cX5_split 51 = .ok (.goto (-42), 3) := by decide +kernel
theorem dX5_split_36 : decode cX5_split 36 = .ok (.iload_n 1, 1) := by decide +kernel
theorem dX5_split_37 : decode cX5_split 37 = .ok (.iconst 1, 1) := by decide +kernel
theorem dX5_split_38 : decode cX5_split 38 = .ok (.iadd, 1) := by decide +kernel
theorem dX5_split_39 : decode cX5_split 39 = .ok (.goto 8, 3) := by decide +kernel
theorem dX5_split_0 : decode cX5_split 0 = .ok (.aload_n 0, 1) := by decide +kernel
theorem dX5_split_1 : decode cX5_split 1 = .ok (.iconst 0, 1) := by decide +kernel
theorem dX5_split_2 : decode cX5_split 2 = .ok (.putfield 33, 3) := by decide +kernel
theorem dX5_split_5 : decode cX5_split 5 = .ok (.iconst 0, 1) := by decide +kernel
theorem dX5_split_6 : decode cX5_split 6 = .ok (.istore_n 1, 1) := by decide +kernel
theorem dX5_split_7 : decode cX5_split 7 = .ok (.iconst 0, 1) := by decide +kernel
theorem dX5_split_8 : decode cX5_split 8 = .ok (.istore_n 2, 1) := by decide +kernel
theorem dX5_split_66 : decode cX5_split 66 = .ok (.return_, 1) := by decide +kernel
def wW_X5_splitOne (ak : Nat → ClassId) (ad : Nat → Nat) (ht : Nat) (ta : Nat → Nat) (Tlen : Int32) (Tcnt : Int32) (Tsigns : Nat → Int32) (Ttoks : Nat → Nat) (Tplc : Nat → Int32) (Tvals : Nat → Int64) : va_W := [(ht, .inr (5, tob ta (Tlen) (Tcnt))), ((ta 0), .inl (ak 2, 1000, .inl (Tsigns))), ((ta 1), .inl (ak 4, 1001, .inr (.inr (.inr (.inr (tokA ad (Ttoks))))))), ((ta 2), .inl (ak 0, 1001, .inl (Tplc))), ((ta 3), .inl (ak 1, 1001, .inr (.inl (Tvals))))]
def kf_X5_splitOne_53 (Tlen : Int32) (Tsigns : Nat → Int32) (xa : Int32)  (Φ : Int32 → Int32 → (Nat → Nat) → (Nat → Int32) → (Nat → Int64) → Prop) (Tcnt : Int32) (Ttoks : Nat → Nat) (Tplc : Nat → Int32) (Tvals : Nat → Int64) (l2 : Int32) (l3 : Int32) : Prop := (¬ l2 = 97 → (¬ l2 = 48 → vp_in xa 1000 ∧ wp_X5_spelled ((Tsigns (xa).toNatClampNeg).toInt64) 1 (fun r_9 => wp_X5_add r_9 xa 0 Tcnt Ttoks Tplc Tvals (fun Tcnt_11 Ttoks_12 Tplc_13 Tvals_14 => Φ l3 Tcnt_11 Ttoks_12 Tplc_13 Tvals_14))) ∧ (l2 = 48 → wp_X5_addNumber Tsigns xa l3 Tcnt Ttoks Tplc Tvals (fun Tcnt_17 Ttoks_18 Tplc_19 Tvals_20 => Φ l3 Tcnt_17 Ttoks_18 Tplc_19 Tvals_20))) ∧ (l2 = 97 → wp_X5_addWord Tsigns xa l3 Tcnt Ttoks Tplc Tvals (fun Tcnt_23 Ttoks_24 Tplc_25 Tvals_26 => Φ l3 Tcnt_23 Ttoks_24 Tplc_25 Tvals_26))
set_option maxHeartbeats 4000000 in
set_option maxRecDepth 100000 in
theorem kj_X5_splitOne_53 {p : Program} {l : Launch} {e : Env} {R : Room} {s : State} {m : MethodId} {args : Array Value} {below : List Frame} {meth : Method} {c : Code} {cells slots : Nat} {Q : State → Prop} {A : Nat → Prop} {D : va_G} {ak : Nat → ClassId} {ad : Nat → Nat} (hx : p.tables.exec = Jvm.exec) (hb : c.code = cX5_splitOne) (hown : s.vm.findClass RX5 = some m.cls) (hts : ∀ w ∈ wsX5_splitOne, w.before args s = true) (hml : c.maxLocals = 5) (hE : EV D ak s) (hT : ST D ak ad A s s.heap) (hA : ∀ q, s.heap.size ≤ q → A q) (hRf : 2 ≤ R.frames) (hRl : 51 ≤ R.locals) (hRc : cells ≤ R.cells ∧ slots ≤ R.slots) (ht : Nat) (ta : Nat → Nat) (Tlen : Int32) (Tsigns : Nat → Int32) (xa : Int32)  (Φ : Int32 → Int32 → (Nat → Nat) → (Nat → Int32) → (Nat → Int64) → Prop)
    (kR103 : ∀ (r : Int32) (Tcnt : Int32) (Ttoks : Nat → Nat) (Tplc : Nat → Int32) (Tvals : Nat → Int64) (H : Heap) (locs : List Loc) (ls : Array Slot), Φ r Tcnt Ttoks Tplc Tvals → va_P D vwCl (wW_X5_splitOne ak ad ht ta Tlen Tcnt Tsigns Ttoks Tplc Tvals) H → va_D A (wW_X5_splitOne ak ad ht ta Tlen Tcnt Tsigns Ttoks Tplc Tvals) → va_S A s.heap H locs → W p l e R s m args below meth c H locs cells slots Q (F0 m 103 ls [.int r]))
    : ∀ (Tcnt : Int32) (Ttoks : Nat → Nat) (Tplc : Nat → Int32) (Tvals : Nat → Int64) (l2 : Int32) (l3 : Int32) (H : Heap) (locs : List Loc) (ls : Array Slot), kf_X5_splitOne_53 Tlen Tsigns xa  Φ Tcnt Ttoks Tplc Tvals l2 l3 → va_P D vwCl (wW_X5_splitOne ak ad ht ta Tlen Tcnt Tsigns Ttoks Tplc Tvals) H → va_D A (wW_X5_splitOne ak ad ht ta Tlen Tcnt Tsigns Ttoks Tplc Tvals) → va_S A s.heap H locs → lv_has ls 5 [(0, .ref ht), (1, .int (xa)), (2, .int (l2)), (3, .int (l3))] → W p l e R s m args below meth c H locs cells slots Q (F0 m 53 ls ([])) := by
  intro Tcnt Ttoks Tplc Tvals l2 l3 H locs ls hw hP hD hS hl
  delta kf_X5_splitOne_53 at hw
  refine lv_iload_n hx hb dX5_splitOne_53 rfl (lv_at hl 2 rfl) ?_
  refine lv_bipush (v := 97) hx hb dX5_splitOne_54 (by decide) ?_
  refine lv_icmp_ne (tgt := 68) hx hb dX5_splitOne_56 (by decide) (fun c_5 => ?_) (fun c_5 => ?_)
  · replace hw := hw.1 c_5
    refine lv_iload_n hx hb dX5_splitOne_68 rfl (lv_at hl 2 rfl) ?_
    refine lv_bipush (v := 48) hx hb dX5_splitOne_69 (by decide) ?_
    refine lv_icmp_ne (tgt := 83) hx hb dX5_splitOne_71 (by decide) (fun c_6 => ?_) (fun c_6 => ?_)
    · replace hw := hw.1 c_6
      refine lv_aload_n hx hb dX5_splitOne_83 rfl (lv_at hl 0 rfl) ?_
      refine lv_aload_n hx hb dX5_splitOne_84 rfl (lv_at hl 0 rfl) ?_
      refine vt_get (D := D) (ci := 5) (v := .ref (ta 0)) (C := RX5) (T := TX5) (N := 6) hx hb hts (fun w h => wm_c (wc_X5 w h)) hown hE.1 hP 0 rfl rfl 0 (by decide) tX5_0 (hts (.fieldLink RX5 9 "WornLines$Tape" "signs" "[C") (wm_c hw_264)) (fun _ h9 => h9) rfl dX5_splitOne_85 ?_
      refine lv_iload_n hx hb dX5_splitOne_88 rfl (lv_at hl 1 rfl) ?_
      obtain ⟨h_7, hw⟩ := hw
      refine va_cald hx hb hE.1 hP 1 2 rfl rfl (h_7) dX5_splitOne_89 ?_
      refine lv_i2l (v := (Tsigns (xa).toNatClampNeg).toInt64) hx hb dX5_splitOne_90 rfl ?_
      refine va_gets hx hb (hT.1 1 (by decide)).1 hS hown (hts (.fieldLink RX5 63 "WornLines$Token" "NO_TOKEN" "LWornLines$Token;") (wm_c hw_396)) (fun _ h9 => h9) dX5_splitOne_91 ?_
      refine kc_t (wc := []) (wr := [(ht, .inr (5, tob ta (Tlen) (Tcnt))), ((ta 0), .inl (ak 2, 1000, .inl (Tsigns))), ((ta 1), .inl (ak 4, 1001, .inr (.inr (.inr (.inr (tokA ad (Ttoks))))))), ((ta 2), .inl (ak 0, 1001, .inl (Tplc))), ((ta 3), .inl (ak 1, 1001, .inr (.inl (Tvals))))]) hP hD hS hA [] [0, 1, 2, 3, 4] rfl rfl (by decide) (by decide) (va_runS (As := [.long ((Tsigns (xa).toNatClampNeg).toInt64), .ref (ad 1)]) (rest := [.ref ht]) ⟨hx, hb, hml, hown, hts⟩ (c_X5_spelled l D ak ad _ ((Tsigns (xa).toNatClampNeg).toInt64) 1 _ hw) (va_cwS 2 hts gX5_splitOne_X5_spelled rfl rfl rfl hz_X5_spelled ⟨(Nat.le_trans (Nat.le_of_ble_eq_true rfl) hRf), (Nat.le_trans (Nat.le_of_ble_eq_true rfl) hRl)⟩) (kc_pre (As := [.long ((Tsigns (xa).toNatClampNeg).toInt64), .ref (ad 1)]) (wc := []) hE hT hP hD hS hA [] (by decide) rfl rfl) rfl rfl hl.1 rfl (lv_room (Nat.le_of_ble_eq_true rfl)) dX5_splitOne_94 ⟨hRc.1, hRc.2⟩) (fun r_9 u_8 H locs hw hP hD hS => ?_)
      try dsimp -zeta only at hw
      have hP : va_P D vwCl (wW_X5_splitOne ak ad ht ta Tlen Tcnt Tsigns Ttoks Tplc Tvals) H := hP.sub [0, 1, 2, 3, 4] rfl
      have hD : va_D A (wW_X5_splitOne ak ad ht ta Tlen Tcnt Tsigns Ttoks Tplc Tvals) := hD.sub [0, 1, 2, 3, 4] (by decide) rfl
      refine lv_iload_n hx hb dX5_splitOne_97 rfl (lv_at hl 1 rfl) ?_
      refine lv_lconst (v := 0) hx hb dX5_splitOne_98 rfl ?_
      refine kc_v (wc := (wW_X5_add ak ad ht ta Tlen Tcnt Ttoks Tplc Tvals)) (wr := [((ta 0), .inl (ak 2, 1000, .inl (Tsigns)))]) hP hD hS hA [0, 2, 3, 4] [1] rfl rfl (by decide) (by decide) (va_runV (As := [.ref (ad r_9), .int (xa), .long (0)]) (rest := []) ⟨hx, hb, hml, hown, hts⟩ (c_X5_add l D ak ad _ ht ta Tlen Tcnt Ttoks Tplc Tvals r_9 xa 0 _ hw) (cwV 3 hts gX5_splitOne_X5_add rfl rfl rfl hv_X5_add ⟨(Nat.le_trans (Nat.le_of_ble_eq_true rfl) hRf), (Nat.le_trans (Nat.le_of_ble_eq_true rfl) hRl)⟩) (kc_preV (As := [.ref (ad r_9), .int (xa), .long (0)]) (wc := (wW_X5_add ak ad ht ta Tlen Tcnt Ttoks Tplc Tvals)) hE hT hP hD hS hA [0, 2, 3, 4] (by decide) rfl rfl 0 5 rfl rfl rfl) rfl rfl hl.1 rfl (lv_room (Nat.le_of_ble_eq_true rfl)) dX5_splitOne_99 ⟨hRc.1, hRc.2⟩) (fun u_10 H locs hw hP hD hS => ?_)
      obtain ⟨Tcnt_11, Ttoks_12, Tplc_13, Tvals_14⟩ := u_10
      try dsimp -zeta only at hw
      have hP : va_P D vwCl (wW_X5_splitOne ak ad ht ta Tlen Tcnt_11 Tsigns Ttoks_12 Tplc_13 Tvals_14) H := hP.sub [1, 0, 2, 3, 4] rfl
      have hD : va_D A (wW_X5_splitOne ak ad ht ta Tlen Tcnt_11 Tsigns Ttoks_12 Tplc_13 Tvals_14) := hD.sub [1, 0, 2, 3, 4] (by decide) rfl
      refine lv_iload_n hx hb dX5_splitOne_102 rfl (lv_at hl 3 rfl) ?_
      exact kR103 l3 Tcnt_11 Ttoks_12 Tplc_13 Tvals_14 _ _ _ hw hP hD hS
    · replace hw := hw.2 c_6
      refine lv_aload_n hx hb dX5_splitOne_74 rfl (lv_at hl 0 rfl) ?_
      refine lv_iload_n hx hb dX5_splitOne_75 rfl (lv_at hl 1 rfl) ?_
      refine lv_iload_n hx hb dX5_splitOne_76 rfl (lv_at hl 3 rfl) ?_
      refine kc_v (wc := (wW_X5_addNumber ak ad ht ta Tlen Tcnt Tsigns Ttoks Tplc Tvals)) (wr := []) hP hD hS hA [0, 1, 2, 3, 4] [] rfl rfl (by decide) (by decide) (va_runV (As := [.int (xa), .int (l3)]) (rest := []) ⟨hx, hb, hml, hown, hts⟩ (c_X5_addNumber l D ak ad _ ht ta Tlen Tcnt Tsigns Ttoks Tplc Tvals xa l3 _ hw) (cwV 2 hts gX5_splitOne_X5_addNumber rfl rfl rfl hv_X5_addNumber ⟨(Nat.le_trans (Nat.le_of_ble_eq_true rfl) hRf), (Nat.le_trans (Nat.le_of_ble_eq_true rfl) hRl)⟩) (kc_preV (As := [.int (xa), .int (l3)]) (wc := (wW_X5_addNumber ak ad ht ta Tlen Tcnt Tsigns Ttoks Tplc Tvals)) hE hT hP hD hS hA [0, 1, 2, 3, 4] (by decide) rfl rfl 0 5 rfl rfl rfl) rfl rfl hl.1 rfl (lv_room (Nat.le_of_ble_eq_true rfl)) dX5_splitOne_77 ⟨hRc.1, hRc.2⟩) (fun u_16 H locs hw hP hD hS => ?_)
      obtain ⟨Tcnt_17, Ttoks_18, Tplc_19, Tvals_20⟩ := u_16
      try dsimp -zeta only at hw
      have hP : va_P D vwCl (wW_X5_splitOne ak ad ht ta Tlen Tcnt_17 Tsigns Ttoks_18 Tplc_19 Tvals_20) H := hP.sub [0, 1, 2, 3, 4] rfl
      have hD : va_D A (wW_X5_splitOne ak ad ht ta Tlen Tcnt_17 Tsigns Ttoks_18 Tplc_19 Tvals_20) := hD.sub [0, 1, 2, 3, 4] (by decide) rfl
      refine lv_goto (tgt := 102) hx hb dX5_splitOne_80 (by decide) ?_
      refine lv_iload_n hx hb dX5_splitOne_102 rfl (lv_at hl 3 rfl) ?_
      exact kR103 l3 Tcnt_17 Ttoks_18 Tplc_19 Tvals_20 _ _ _ hw hP hD hS
  · replace hw := hw.2 c_5
    refine lv_aload_n hx hb dX5_splitOne_59 rfl (lv_at hl 0 rfl) ?_
    refine lv_iload_n hx hb dX5_splitOne_60 rfl (lv_at hl 1 rfl) ?_
    refine lv_iload_n hx hb dX5_splitOne_61 rfl (lv_at hl 3 rfl) ?_
    refine kc_v (wc := (wW_X5_addWord ak ad ht ta Tlen Tcnt Tsigns Ttoks Tplc Tvals)) (wr := []) hP hD hS hA [0, 1, 2, 3, 4] [] rfl rfl (by decide) (by decide) (va_runV (As := [.int (xa), .int (l3)]) (rest := []) ⟨hx, hb, hml, hown, hts⟩ (c_X5_addWord l D ak ad _ ht ta Tlen Tcnt Tsigns Ttoks Tplc Tvals xa l3 _ hw) (cwV 2 hts gX5_splitOne_X5_addWord rfl rfl rfl hv_X5_addWord ⟨(Nat.le_trans (Nat.le_of_ble_eq_true rfl) hRf), (Nat.le_trans (Nat.le_of_ble_eq_true rfl) hRl)⟩) (kc_preV (As := [.int (xa), .int (l3)]) (wc := (wW_X5_addWord ak ad ht ta Tlen Tcnt Tsigns Ttoks Tplc Tvals)) hE hT hP hD hS hA [0, 1, 2, 3, 4] (by decide) rfl rfl 0 5 rfl rfl rfl) rfl rfl hl.1 rfl (lv_room (Nat.le_of_ble_eq_true rfl)) dX5_splitOne_62 ⟨hRc.1, hRc.2⟩) (fun u_22 H locs hw hP hD hS => ?_)
    obtain ⟨Tcnt_23, Ttoks_24, Tplc_25, Tvals_26⟩ := u_22
    try dsimp -zeta only at hw
    have hP : va_P D vwCl (wW_X5_splitOne ak ad ht ta Tlen Tcnt_23 Tsigns Ttoks_24 Tplc_25 Tvals_26) H := hP.sub [0, 1, 2, 3, 4] rfl
    have hD : va_D A (wW_X5_splitOne ak ad ht ta Tlen Tcnt_23 Tsigns Ttoks_24 Tplc_25 Tvals_26) := hD.sub [0, 1, 2, 3, 4] (by decide) rfl
    refine lv_goto (tgt := 102) hx hb dX5_splitOne_65 (by decide) ?_
    refine lv_iload_n hx hb dX5_splitOne_102 rfl (lv_at hl 3 rfl) ?_
    exact kR103 l3 Tcnt_23 Ttoks_24 Tplc_25 Tvals_26 _ _ _ hw hP hD hS

def lb_X5_splitOne_17 (Tlen : Int32) (Tsigns : Nat → Int32) (xa : Int32)  (Φ : Int32 → Int32 → (Nat → Nat) → (Nat → Int32) → (Nat → Int64) → Prop) (back : Int32 → (Nat → Nat) → (Nat → Int32) → (Nat → Int64) → Int32 → Int32 → Int32 → Prop) (Tcnt : Int32) (Ttoks : Nat → Nat) (Tplc : Nat → Int32) (Tvals : Nat → Int64) (l2 : Int32) (l3 : Int32) (l4 : Int32) : Prop := (Tlen ≤ l4 → kf_X5_splitOne_53 Tlen Tsigns xa  Φ Tcnt Ttoks Tplc Tvals l2 l3) ∧ (¬ Tlen ≤ l4 → (l2 = 0 → kf_X5_splitOne_53 Tlen Tsigns xa  Φ Tcnt Ttoks Tplc Tvals l2 l3) ∧ (¬ l2 = 0 → vp_in l4 1000 ∧ wp_X5_kindOf (Tsigns (l4).toNatClampNeg) (fun r_31 => (¬ r_31 = l2 → kf_X5_splitOne_53 Tlen Tsigns xa  Φ Tcnt Ttoks Tplc Tvals l2 l3) ∧ (r_31 = l2 → back Tcnt Ttoks Tplc Tvals l2 (l3 + 1) (l4 + 1)))))
def lf_X5_splitOne_17 (Tlen : Int32) (Tsigns : Nat → Int32) (xa : Int32)  (Φ : Int32 → Int32 → (Nat → Nat) → (Nat → Int32) → (Nat → Int64) → Prop) : Nat → Int32 → (Nat → Nat) → (Nat → Int32) → (Nat → Int64) → Int32 → Int32 → Int32 → Prop
  | 0, _, _, _, _, _, _, _ => False
  | n_ + 1, Tcnt, Ttoks, Tplc, Tvals, l2, l3, l4 => lb_X5_splitOne_17 Tlen Tsigns xa  Φ (lf_X5_splitOne_17 Tlen Tsigns xa  Φ n_) Tcnt Ttoks Tplc Tvals l2 l3 l4
theorem li_X5_splitOne_17 (Tlen : Int32) (Tsigns : Nat → Int32) (xa : Int32)  (Φ : Int32 → Int32 → (Nat → Nat) → (Nat → Int32) → (Nat → Int64) → Prop) (Inv : Int32 → (Nat → Nat) → (Nat → Int32) → (Nat → Int64) → Int32 → Int32 → Int32 → Prop) (mu : Int32 → (Nat → Nat) → (Nat → Int32) → (Nat → Int64) → Int32 → Int32 → Int32 → Nat) (hs : ∀ (back : Int32 → (Nat → Nat) → (Nat → Int32) → (Nat → Int64) → Int32 → Int32 → Int32 → Prop) (Tcnt : Int32) (Ttoks : Nat → Nat) (Tplc : Nat → Int32) (Tvals : Nat → Int64) (l2 : Int32) (l3 : Int32) (l4 : Int32), Inv Tcnt Ttoks Tplc Tvals l2 l3 l4 → (∀ (Tcnt' : Int32) (Ttoks' : Nat → Nat) (Tplc' : Nat → Int32) (Tvals' : Nat → Int64) (l2' : Int32) (l3' : Int32) (l4' : Int32), Inv Tcnt' Ttoks' Tplc' Tvals' l2' l3' l4' → mu Tcnt' Ttoks' Tplc' Tvals' l2' l3' l4' < mu Tcnt Ttoks Tplc Tvals l2 l3 l4 → back Tcnt' Ttoks' Tplc' Tvals' l2' l3' l4') → lb_X5_splitOne_17 Tlen Tsigns xa  Φ back Tcnt Ttoks Tplc Tvals l2 l3 l4) : ∀ (n_ : Nat) (Tcnt : Int32) (Ttoks : Nat → Nat) (Tplc : Nat → Int32) (Tvals : Nat → Int64) (l2 : Int32) (l3 : Int32) (l4 : Int32), Inv Tcnt Ttoks Tplc Tvals l2 l3 l4 → mu Tcnt Ttoks Tplc Tvals l2 l3 l4 < n_ → lf_X5_splitOne_17 Tlen Tsigns xa  Φ n_ Tcnt Ttoks Tplc Tvals l2 l3 l4 := by
  intro n_
  induction n_ with
  | zero => intro Tcnt Ttoks Tplc Tvals l2 l3 l4 _ h; exact absurd h (Nat.not_lt_zero _)
  | succ n_ ih => intro Tcnt Ttoks Tplc Tvals l2 l3 l4 hI hm; exact hs _ Tcnt Ttoks Tplc Tvals l2 l3 l4 hI (fun Tcnt' Ttoks' Tplc' Tvals' l2' l3' l4' h1 h2 => ih Tcnt' Ttoks' Tplc' Tvals' l2' l3' l4' h1 (by omega))
set_option maxHeartbeats 4000000 in
set_option maxRecDepth 100000 in
theorem lp_X5_splitOne_17 {p : Program} {l : Launch} {e : Env} {R : Room} {s : State} {m : MethodId} {args : Array Value} {below : List Frame} {meth : Method} {c : Code} {cells slots : Nat} {Q : State → Prop} {A : Nat → Prop} {D : va_G} {ak : Nat → ClassId} {ad : Nat → Nat} (hx : p.tables.exec = Jvm.exec) (hb : c.code = cX5_splitOne) (hown : s.vm.findClass RX5 = some m.cls) (hts : ∀ w ∈ wsX5_splitOne, w.before args s = true) (hml : c.maxLocals = 5) (hE : EV D ak s) (hT : ST D ak ad A s s.heap) (hA : ∀ q, s.heap.size ≤ q → A q) (hRf : 2 ≤ R.frames) (hRl : 51 ≤ R.locals) (hRc : cells ≤ R.cells ∧ slots ≤ R.slots) (ht : Nat) (ta : Nat → Nat) (Tlen : Int32) (Tsigns : Nat → Int32) (xa : Int32)  (Φ : Int32 → Int32 → (Nat → Nat) → (Nat → Int32) → (Nat → Int64) → Prop)
    (kR103 : ∀ (r : Int32) (Tcnt : Int32) (Ttoks : Nat → Nat) (Tplc : Nat → Int32) (Tvals : Nat → Int64) (H : Heap) (locs : List Loc) (ls : Array Slot), Φ r Tcnt Ttoks Tplc Tvals → va_P D vwCl (wW_X5_splitOne ak ad ht ta Tlen Tcnt Tsigns Ttoks Tplc Tvals) H → va_D A (wW_X5_splitOne ak ad ht ta Tlen Tcnt Tsigns Ttoks Tplc Tvals) → va_S A s.heap H locs → W p l e R s m args below meth c H locs cells slots Q (F0 m 103 ls [.int r]))
    : ∀ (n_ : Nat) (Tcnt : Int32) (Ttoks : Nat → Nat) (Tplc : Nat → Int32) (Tvals : Nat → Int64) (l2 : Int32) (l3 : Int32) (l4 : Int32) (H : Heap) (locs : List Loc) (ls : Array Slot), lf_X5_splitOne_17 Tlen Tsigns xa  Φ n_ Tcnt Ttoks Tplc Tvals l2 l3 l4 → va_P D vwCl (wW_X5_splitOne ak ad ht ta Tlen Tcnt Tsigns Ttoks Tplc Tvals) H → va_D A (wW_X5_splitOne ak ad ht ta Tlen Tcnt Tsigns Ttoks Tplc Tvals) → va_S A s.heap H locs → lv_has ls 5 [(0, .ref ht), (1, .int (xa)), (2, .int (l2)), (3, .int (l3)), (4, .int (l4))] → W p l e R s m args below meth c H locs cells slots Q (F0 m 17 ls ([])) := by
  intro n_
  induction n_ with
  | zero =>
    intro Tcnt Ttoks Tplc Tvals l2 l3 l4 H locs ls hw
    exact hw.elim
  | succ n_ ih =>
    intro Tcnt Ttoks Tplc Tvals l2 l3 l4 H locs ls hw hP hD hS hl
    have hw : lb_X5_splitOne_17 Tlen Tsigns xa  Φ (lf_X5_splitOne_17 Tlen Tsigns xa  Φ n_) Tcnt Ttoks Tplc Tvals l2 l3 l4 := hw
    delta lb_X5_splitOne_17 at hw
    refine lv_iload hx hb dX5_splitOne_17 (lv_at hl 4 rfl) ?_
    refine lv_aload_n hx hb dX5_splitOne_19 rfl (lv_at hl 0 rfl) ?_
    refine vt_get (D := D) (ci := 5) (v := .int (Tlen)) (C := RX5) (T := TX5) (N := 6) hx hb hts (fun w h => wm_c (wc_X5 w h)) hown hE.1 hP 0 rfl rfl 1 (by decide) tX5_1 (hts (.fieldLink RX5 29 "WornLines$Tape" "length" "I") (wm_c hw_392)) (fun _ h9 => h9) rfl dX5_splitOne_20 ?_
    refine lv_icmp_ge (tgt := 53) hx hb dX5_splitOne_23 (by decide) (fun c_4 => ?_) (fun c_4 => ?_)
    · replace hw := hw.1 c_4
      exact kj_X5_splitOne_53 hx hb hown hts hml hE hT hA hRf hRl hRc ht ta Tlen Tsigns xa  Φ  kR103 Tcnt Ttoks Tplc Tvals l2 l3 _ _ _ hw hP hD hS (lv_sub hl [0, 1, 2, 3] rfl)
    · replace hw := hw.2 c_4
      refine lv_iload_n hx hb dX5_splitOne_26 rfl (lv_at hl 2 rfl) ?_
      refine lv_if_eq (tgt := 53) hx hb dX5_splitOne_27 (by decide) (fun c_28 => ?_) (fun c_28 => ?_)
      · replace hw := hw.1 c_28
        exact kj_X5_splitOne_53 hx hb hown hts hml hE hT hA hRf hRl hRc ht ta Tlen Tsigns xa  Φ  kR103 Tcnt Ttoks Tplc Tvals l2 l3 _ _ _ hw hP hD hS (lv_sub hl [0, 1, 2, 3] rfl)
      · replace hw := hw.2 c_28
        refine lv_aload_n hx hb dX5_splitOne_30 rfl (lv_at hl 0 rfl) ?_
        refine vt_get (D := D) (ci := 5) (v := .ref (ta 0)) (C := RX5) (T := TX5) (N := 6) hx hb hts (fun w h => wm_c (wc_X5 w h)) hown hE.1 hP 0 rfl rfl 0 (by decide) tX5_0 (hts (.fieldLink RX5 9 "WornLines$Tape" "signs" "[C") (wm_c hw_264)) (fun _ h9 => h9) rfl dX5_splitOne_31 ?_
        refine lv_iload hx hb dX5_splitOne_34 (lv_at hl 4 rfl) ?_
        obtain ⟨h_29, hw⟩ := hw
        refine va_cald hx hb hE.1 hP 1 2 rfl rfl (h_29) dX5_splitOne_36 ?_
        refine kc_i (wc := []) (wr := [(ht, .inr (5, tob ta (Tlen) (Tcnt))), ((ta 0), .inl (ak 2, 1000, .inl (Tsigns))), ((ta 1), .inl (ak 4, 1001, .inr (.inr (.inr (.inr (tokA ad (Ttoks))))))), ((ta 2), .inl (ak 0, 1001, .inl (Tplc))), ((ta 3), .inl (ak 1, 1001, .inr (.inl (Tvals))))]) hP hD hS hA [] [0, 1, 2, 3, 4] rfl rfl (by decide) (by decide) (va_runS (As := [.int (Tsigns (l4).toNatClampNeg)]) (rest := []) ⟨hx, hb, hml, hown, hts⟩ (c_X5_kindOf l D ak ad _ (Tsigns (l4).toNatClampNeg) _ hw) (va_cwS 1 hts gX5_splitOne_X5_kindOf rfl rfl rfl hz_X5_kindOf ⟨(Nat.le_trans (Nat.le_of_ble_eq_true rfl) hRf), (Nat.le_trans (Nat.le_of_ble_eq_true rfl) hRl)⟩) (kc_pre (As := [.int (Tsigns (l4).toNatClampNeg)]) (wc := []) hE hT hP hD hS hA [] (by decide) rfl rfl) rfl rfl hl.1 rfl (lv_room (Nat.le_of_ble_eq_true rfl)) dX5_splitOne_37 ⟨hRc.1, hRc.2⟩) (fun r_31 u_30 H locs hw hP hD hS => ?_)
        try dsimp -zeta only at hw
        have hP : va_P D vwCl (wW_X5_splitOne ak ad ht ta Tlen Tcnt Tsigns Ttoks Tplc Tvals) H := hP.sub [0, 1, 2, 3, 4] rfl
        have hD : va_D A (wW_X5_splitOne ak ad ht ta Tlen Tcnt Tsigns Ttoks Tplc Tvals) := hD.sub [0, 1, 2, 3, 4] (by decide) rfl
        refine lv_iload_n hx hb dX5_splitOne_40 rfl (lv_at hl 2 rfl) ?_
        refine lv_icmp_ne (tgt := 53) hx hb dX5_splitOne_41 (by decide) (fun c_32 => ?_) (fun c_32 => ?_)
        · replace hw := hw.1 c_32
          exact kj_X5_splitOne_53 hx hb hown hts hml hE hT hA hRf hRl hRc ht ta Tlen Tsigns xa  Φ  kR103 Tcnt Ttoks Tplc Tvals l2 l3 _ _ _ hw hP hD hS (lv_sub hl [0, 1, 2, 3] rfl)
        · replace hw := hw.2 c_32
          refine lv_iinc (v := (l3 + 1)) (lv' := [(3, .int (l3 + 1)), (0, .ref ht), (1, .int (xa)), (2, .int (l2)), (4, .int (l4))]) hx hb dX5_splitOne_44 hl (k := 3) rfl (rfl) (by decide) rfl (fun ls hl => ?_)
          refine lv_iinc (v := (l4 + 1)) (lv' := [(4, .int (l4 + 1)), (3, .int (l3 + 1)), (0, .ref ht), (1, .int (xa)), (2, .int (l2))]) hx hb dX5_splitOne_47 hl (k := 4) rfl (rfl) (by decide) rfl (fun ls hl => ?_)
          refine lv_goto (tgt := 17) hx hb dX5_splitOne_50 (by decide) ?_
          exact ih Tcnt Ttoks Tplc Tvals l2 (l3 + 1) (l4 + 1) _ _ _ hw hP hD hS (lv_sub hl [2, 3, 4, 1, 0] rfl)

def wp_X5_splitOne (Tlen : Int32) (Tsigns : Nat → Int32) (xa : Int32) (Tcnt : Int32) (Ttoks : Nat → Nat) (Tplc : Nat → Int32) (Tvals : Nat → Int64) (Φ : Int32 → Int32 → (Nat → Nat) → (Nat → Int32) → (Nat → Int64) → Prop) : Prop := vp_in xa 1000 ∧ wp_X5_kindOf (Tsigns (xa).toNatClampNeg) (fun r_3 => (∃ n_, lf_X5_splitOne_17 Tlen Tsigns xa  Φ n_ Tcnt Ttoks Tplc Tvals r_3 (xa + 1) (xa + 1)))
set_option maxHeartbeats 4000000 in
set_option maxRecDepth 100000 in
theorem kj_X5_splitOne_e {p : Program} {l : Launch} {e : Env} {R : Room} {s : State} {m : MethodId} {args : Array Value} {below : List Frame} {meth : Method} {c : Code} {cells slots : Nat} {Q : State → Prop} {A : Nat → Prop} {D : va_G} {ak : Nat → ClassId} {ad : Nat → Nat} (hx : p.tables.exec = Jvm.exec) (hb : c.code = cX5_splitOne) (hown : s.vm.findClass RX5 = some m.cls) (hts : ∀ w ∈ wsX5_splitOne, w.before args s = true) (hml : c.maxLocals = 5) (hE : EV D ak s) (hT : ST D ak ad A s s.heap) (hA : ∀ q, s.heap.size ≤ q → A q) (hRf : 2 ≤ R.frames) (hRl : 51 ≤ R.locals) (hRc : cells ≤ R.cells ∧ slots ≤ R.slots) (ht : Nat) (ta : Nat → Nat) (Tlen : Int32) (Tsigns : Nat → Int32) (xa : Int32)  (Φ : Int32 → Int32 → (Nat → Nat) → (Nat → Int32) → (Nat → Int64) → Prop)
    (kR103 : ∀ (r : Int32) (Tcnt : Int32) (Ttoks : Nat → Nat) (Tplc : Nat → Int32) (Tvals : Nat → Int64) (H : Heap) (locs : List Loc) (ls : Array Slot), Φ r Tcnt Ttoks Tplc Tvals → va_P D vwCl (wW_X5_splitOne ak ad ht ta Tlen Tcnt Tsigns Ttoks Tplc Tvals) H → va_D A (wW_X5_splitOne ak ad ht ta Tlen Tcnt Tsigns Ttoks Tplc Tvals) → va_S A s.heap H locs → W p l e R s m args below meth c H locs cells slots Q (F0 m 103 ls [.int r]))
    : ∀ (Tcnt : Int32) (Ttoks : Nat → Nat) (Tplc : Nat → Int32) (Tvals : Nat → Int64) (H : Heap) (locs : List Loc) (ls : Array Slot), wp_X5_splitOne Tlen Tsigns xa Tcnt Ttoks Tplc Tvals Φ → va_P D vwCl (wW_X5_splitOne ak ad ht ta Tlen Tcnt Tsigns Ttoks Tplc Tvals) H → va_D A (wW_X5_splitOne ak ad ht ta Tlen Tcnt Tsigns Ttoks Tplc Tvals) → va_S A s.heap H locs → lv_has ls 5 [(0, .ref ht), (1, .int (xa))] → W p l e R s m args below meth c H locs cells slots Q (F0 m 0 ls ([])) := by
  intro Tcnt Ttoks Tplc Tvals H locs ls hw hP hD hS hl
  delta wp_X5_splitOne at hw
  refine lv_aload_n hx hb dX5_splitOne_0 rfl (lv_at hl 0 rfl) ?_
  refine vt_get (D := D) (ci := 5) (v := .ref (ta 0)) (C := RX5) (T := TX5) (N := 6) hx hb hts (fun w h => wm_c (wc_X5 w h)) hown hE.1 hP 0 rfl rfl 0 (by decide) tX5_0 (hts (.fieldLink RX5 9 "WornLines$Tape" "signs" "[C") (wm_c hw_264)) (fun _ h9 => h9) rfl dX5_splitOne_1 ?_
  refine lv_iload_n hx hb dX5_splitOne_4 rfl (lv_at hl 1 rfl) ?_
  obtain ⟨h_1, hw⟩ := hw
  refine va_cald hx hb hE.1 hP 1 2 rfl rfl (h_1) dX5_splitOne_5 ?_
  refine kc_i (wc := []) (wr := [(ht, .inr (5, tob ta (Tlen) (Tcnt))), ((ta 0), .inl (ak 2, 1000, .inl (Tsigns))), ((ta 1), .inl (ak 4, 1001, .inr (.inr (.inr (.inr (tokA ad (Ttoks))))))), ((ta 2), .inl (ak 0, 1001, .inl (Tplc))), ((ta 3), .inl (ak 1, 1001, .inr (.inl (Tvals))))]) hP hD hS hA [] [0, 1, 2, 3, 4] rfl rfl (by decide) (by decide) (va_runS (As := [.int (Tsigns (xa).toNatClampNeg)]) (rest := []) ⟨hx, hb, hml, hown, hts⟩ (c_X5_kindOf l D ak ad _ (Tsigns (xa).toNatClampNeg) _ hw) (va_cwS 1 hts gX5_splitOne_X5_kindOf rfl rfl rfl hz_X5_kindOf ⟨(Nat.le_trans (Nat.le_of_ble_eq_true rfl) hRf), (Nat.le_trans (Nat.le_of_ble_eq_true rfl) hRl)⟩) (kc_pre (As := [.int (Tsigns (xa).toNatClampNeg)]) (wc := []) hE hT hP hD hS hA [] (by decide) rfl rfl) rfl rfl hl.1 rfl (lv_room (Nat.le_of_ble_eq_true rfl)) dX5_splitOne_6 ⟨hRc.1, hRc.2⟩) (fun r_3 u_2 H locs hw hP hD hS => ?_)
  try dsimp -zeta only at hw
  have hP : va_P D vwCl (wW_X5_splitOne ak ad ht ta Tlen Tcnt Tsigns Ttoks Tplc Tvals) H := hP.sub [0, 1, 2, 3, 4] rfl
  have hD : va_D A (wW_X5_splitOne ak ad ht ta Tlen Tcnt Tsigns Ttoks Tplc Tvals) := hD.sub [0, 1, 2, 3, 4] (by decide) rfl
  refine lv_istore_n (lv' := [(2, .int (r_3)), (0, .ref ht), (1, .int (xa))]) hx hb dX5_splitOne_9 rfl hl (by decide) rfl (fun ls hl => ?_)
  refine lv_iload_n hx hb dX5_splitOne_10 rfl (lv_at hl 2 rfl) ?_
  refine lv_iconst (v := 1) hx hb dX5_splitOne_11 (by decide) ?_
  refine lv_iadd hx hb dX5_splitOne_12 ?_
  refine lv_istore_n (lv' := [(3, .int (xa + 1)), (2, .int (r_3)), (0, .ref ht), (1, .int (xa))]) hx hb dX5_splitOne_13 rfl hl (by decide) rfl (fun ls hl => ?_)
  refine lv_iload_n hx hb dX5_splitOne_14 rfl (lv_at hl 0 rfl) ?_
  refine lv_istore (lv' := [(4, .int (xa + 1)), (3, .int (xa + 1)), (2, .int (r_3)), (0, .ref ht), (1, .int (xa))]) hx hb dX5_splitOne_15 hl (by decide) rfl (fun ls hl => ?_)
  obtain ⟨n1_, hw⟩ := hw
  exact lp_X5_splitOne_17 hx hb hown hts hml hE hT hA hRf hRl hRc ht ta Tlen Tsigns xa  Φ  kR103 n1_ Tcnt Ttoks Tplc Tvals r_3 (xa + 1) (xa + 1) _ _ _ hw hP hD hS (lv_sub hl [3, 4, 2, 1, 0] rfl)
set_option maxHeartbeats 4000000 in
set_option maxRecDepth 100000 in
theorem c_X5_splitOne (l : Launch) (D : va_G) (ak : Nat → ClassId) (ad : Nat → Nat) (sz : Nat) (ht : Nat) (ta : Nat → Nat) (Tlen : Int32) (Tcnt : Int32) (Tsigns : Nat → Int32) (Ttoks : Nat → Nat) (Tplc : Nat → Int32) (Tvals : Nat → Int64) (xa : Int32) (Φ : Int32 → Int32 → (Nat → Nat) → (Nat → Int32) → (Nat → Int64) → Prop) (hf : wp_X5_splitOne Tlen Tsigns xa Tcnt Ttoks Tplc Tvals Φ) : Met l yX5_splitOne wsX5_splitOne ({ frames := 2, cells := 0, slots := 0, locals := 51 }) (cPre D ak ad [.ref ht, .int (xa)] ((wW_X5_splitOne ak ad ht ta Tlen Tcnt Tsigns Ttoks Tplc Tvals)) sz) (cI D (S := (Int32) × (Nat → Nat) × (Nat → Int32) × (Nat → Int64)) (fun (r : Int32) (u : (Int32) × (Nat → Nat) × (Nat → Int32) × (Nat → Int64)) => Φ r u.1 u.2.1 u.2.2.1 u.2.2.2) (fun u => (wW_X5_splitOne ak ad ht ta Tlen u.1 Tsigns u.2.1 u.2.2.1 u.2.2.2)) ((wW_X5_splitOne ak ad ht ta Tlen Tcnt Tsigns Ttoks Tplc Tvals)) sz) 0 0 (va_A ((wW_X5_splitOne ak ad ht ta Tlen Tcnt Tsigns Ttoks Tplc Tvals)) sz) := by
  refine Met.ofW (cc := cX5_splitOne) (maxL := 5) (ret := (some .int)) (by decide) rfl ?_
  intro p e s m args below meth c s₁ B hml hv
  obtain ⟨rfl, hsz, hP, hE, hD0, hT⟩ := hv
  have hx := B.exec
  have hb := B.bytes
  have hr := B.returns
  have hts := atoms_spec (ws := wsX5_splitOne) B.pre
  have hown : s.vm.findClass RX5 = some m.cls := findClass_of_methodNamed B.named
  have hlocks := B.notSynchronized
  subst hsz
  have hD := hD0.self (sz := s.heap.size)
  generalize hAe : va_A ((wW_X5_splitOne ak ad ht ta Tlen Tcnt Tsigns Ttoks Tplc Tvals)) s.heap.size = A at hD hT ⊢
  have hA : ∀ q : Nat, s.heap.size ≤ q → A q := fun q h => by rw [← hAe]; exact Or.inr h
  have hS : va_S A s.heap s.heap [] := va_S.rf
  have hl := lv_entry ([.ref ht, .int (xa)]) (n := 5) (Nat.le_of_ble_eq_true rfl)
  rw [lg_entry_eq]
  generalize (lg_sl ([.ref ht, .int (xa)]) ++ List.replicate (5 - (lg_sl ([.ref ht, .int (xa)])).length) Slot.unset).toArray = ls at hl ⊢
  have hl : lv_has ls 5 [(0, .ref ht), (1, .int (xa))] := hl
  exact kj_X5_splitOne_e hx hb hown hts hml hE hT hA (Nat.le_of_ble_eq_true rfl) (Nat.le_of_ble_eq_true rfl) ⟨Nat.le_of_ble_eq_true rfl, Nat.le_of_ble_eq_true rfl⟩ ht ta Tlen Tsigns xa Φ (fun r Tcnt Ttoks Tplc Tvals H locs ls hw hP hD hS => W.iret (v := r) hx hb hr (fun t ht hW => ⟨⟨r, (Tcnt, Ttoks, Tplc, Tvals), rfl, hw, by rw [ht]; exact hP, by rw [hAe]; exact hD⟩, by rw [hAe]; exact hS.F ht⟩) hS.2.2 dX5_splitOne_103) Tcnt Ttoks Tplc Tvals _ _ _ hf hP hD hS hl

def wW_X5_split (ak : Nat → ClassId) (ad : Nat → Nat) (ht : Nat) (ta : Nat → Nat) (Tlen : Int32) (Tcnt : Int32) (Tsigns : Nat → Int32) (Ttoks : Nat → Nat) (Tplc : Nat → Int32) (Tvals : Nat → Int64) : va_W := [(ht, .inr (5, tob ta (Tlen) (Tcnt))), ((ta 0), .inl (ak 2, 1000, .inl (Tsigns))), ((ta 1), .inl (ak 4, 1001, .inr (.inr (.inr (.inr (tokA ad (Ttoks))))))), ((ta 2), .inl (ak 0, 1001, .inl (Tplc))), ((ta 3), .inl (ak 1, 1001, .inr (.inl (Tvals))))]
def lb_X5_split_9 (Tlen : Int32) (Tsigns : Nat → Int32)  (Φ : Int32 → (Nat → Nat) → (Nat → Int32) → (Nat → Int64) → Prop) (back : Int32 → (Nat → Nat) → (Nat → Int32) → (Nat → Int64) → Int32 → Int32 → Prop) (Tcnt : Int32) (Ttoks : Nat → Nat) (Tplc : Nat → Int32) (Tvals : Nat → Int64) (l1 : Int32) (l2 : Int32) : Prop := (1000 ≤ l2 → wp_X5_add 0 Tlen 0 Tcnt Ttoks Tplc Tvals (fun Tcnt_3 Ttoks_4 Tplc_5 Tvals_6 => Φ Tcnt_3 Ttoks_4 Tplc_5 Tvals_6)) ∧ (¬ 1000 ≤ l2 → (Tlen ≤ l1 → wp_X5_add 0 Tlen 0 Tcnt Ttoks Tplc Tvals (fun Tcnt_10 Ttoks_11 Tplc_12 Tvals_13 => Φ Tcnt_10 Ttoks_11 Tplc_12 Tvals_13)) ∧ (¬ Tlen ≤ l1 → vp_in l1 1000 ∧ wp_X5_isBlank (Tsigns (l1).toNatClampNeg) (fun r_17 => (r_17 = 0 → wp_X5_splitOne Tlen Tsigns l1 Tcnt Ttoks Tplc Tvals (fun r_24 Tcnt_20 Ttoks_21 Tplc_22 Tvals_23 => back Tcnt_20 Ttoks_21 Tplc_22 Tvals_23 r_24 (l2 + 1))) ∧ (¬ r_17 = 0 → back Tcnt Ttoks Tplc Tvals (l1 + 1) (l2 + 1)))))
def lf_X5_split_9 (Tlen : Int32) (Tsigns : Nat → Int32)  (Φ : Int32 → (Nat → Nat) → (Nat → Int32) → (Nat → Int64) → Prop) : Nat → Int32 → (Nat → Nat) → (Nat → Int32) → (Nat → Int64) → Int32 → Int32 → Prop
  | 0, _, _, _, _, _, _ => False
  | n_ + 1, Tcnt, Ttoks, Tplc, Tvals, l1, l2 => lb_X5_split_9 Tlen Tsigns  Φ (lf_X5_split_9 Tlen Tsigns  Φ n_) Tcnt Ttoks Tplc Tvals l1 l2
theorem li_X5_split_9 (Tlen : Int32) (Tsigns : Nat → Int32)  (Φ : Int32 → (Nat → Nat) → (Nat → Int32) → (Nat → Int64) → Prop) (Inv : Int32 → (Nat → Nat) → (Nat → Int32) → (Nat → Int64) → Int32 → Int32 → Prop) (mu : Int32 → (Nat → Nat) → (Nat → Int32) → (Nat → Int64) → Int32 → Int32 → Nat) (hs : ∀ (back : Int32 → (Nat → Nat) → (Nat → Int32) → (Nat → Int64) → Int32 → Int32 → Prop) (Tcnt : Int32) (Ttoks : Nat → Nat) (Tplc : Nat → Int32) (Tvals : Nat → Int64) (l1 : Int32) (l2 : Int32), Inv Tcnt Ttoks Tplc Tvals l1 l2 → (∀ (Tcnt' : Int32) (Ttoks' : Nat → Nat) (Tplc' : Nat → Int32) (Tvals' : Nat → Int64) (l1' : Int32) (l2' : Int32), Inv Tcnt' Ttoks' Tplc' Tvals' l1' l2' → mu Tcnt' Ttoks' Tplc' Tvals' l1' l2' < mu Tcnt Ttoks Tplc Tvals l1 l2 → back Tcnt' Ttoks' Tplc' Tvals' l1' l2') → lb_X5_split_9 Tlen Tsigns  Φ back Tcnt Ttoks Tplc Tvals l1 l2) : ∀ (n_ : Nat) (Tcnt : Int32) (Ttoks : Nat → Nat) (Tplc : Nat → Int32) (Tvals : Nat → Int64) (l1 : Int32) (l2 : Int32), Inv Tcnt Ttoks Tplc Tvals l1 l2 → mu Tcnt Ttoks Tplc Tvals l1 l2 < n_ → lf_X5_split_9 Tlen Tsigns  Φ n_ Tcnt Ttoks Tplc Tvals l1 l2 := by
  intro n_
  induction n_ with
  | zero => intro Tcnt Ttoks Tplc Tvals l1 l2 _ h; exact absurd h (Nat.not_lt_zero _)
  | succ n_ ih => intro Tcnt Ttoks Tplc Tvals l1 l2 hI hm; exact hs _ Tcnt Ttoks Tplc Tvals l1 l2 hI (fun Tcnt' Ttoks' Tplc' Tvals' l1' l2' h1 h2 => ih Tcnt' Ttoks' Tplc' Tvals' l1' l2' h1 (by omega))
set_option maxHeartbeats 4000000 in
set_option maxRecDepth 100000 in
theorem lp_X5_split_9 {p : Program} {l : Launch} {e : Env} {R : Room} {s : State} {m : MethodId} {args : Array Value} {below : List Frame} {meth : Method} {c : Code} {cells slots : Nat} {Q : State → Prop} {A : Nat → Prop} {D : va_G} {ak : Nat → ClassId} {ad : Nat → Nat} (hx : p.tables.exec = Jvm.exec) (hb : c.code = cX5_split) (hown : s.vm.findClass RX5 = some m.cls) (hts : ∀ w ∈ wsX5_split, w.before args s = true) (hml : c.maxLocals = 3) (hE : EV D ak s) (hT : ST D ak ad A s s.heap) (hA : ∀ q, s.heap.size ≤ q → A q) (hRf : 3 ≤ R.frames) (hRl : 75 ≤ R.locals) (hRc : cells ≤ R.cells ∧ slots ≤ R.slots) (ht : Nat) (ta : Nat → Nat) (Tlen : Int32) (Tsigns : Nat → Int32)  (Φ : Int32 → (Nat → Nat) → (Nat → Int32) → (Nat → Int64) → Prop)
    (kR66 : ∀ (Tcnt : Int32) (Ttoks : Nat → Nat) (Tplc : Nat → Int32) (Tvals : Nat → Int64) (H : Heap) (locs : List Loc) (ls : Array Slot), Φ Tcnt Ttoks Tplc Tvals → va_P D vwCl (wW_X5_split ak ad ht ta Tlen Tcnt Tsigns Ttoks Tplc Tvals) H → va_D A (wW_X5_split ak ad ht ta Tlen Tcnt Tsigns Ttoks Tplc Tvals) → va_S A s.heap H locs → W p l e R s m args below meth c H locs cells slots Q (F0 m 66 ls []))
    : ∀ (n_ : Nat) (Tcnt : Int32) (Ttoks : Nat → Nat) (Tplc : Nat → Int32) (Tvals : Nat → Int64) (l1 : Int32) (l2 : Int32) (H : Heap) (locs : List Loc) (ls : Array Slot), lf_X5_split_9 Tlen Tsigns  Φ n_ Tcnt Ttoks Tplc Tvals l1 l2 → va_P D vwCl (wW_X5_split ak ad ht ta Tlen Tcnt Tsigns Ttoks Tplc Tvals) H → va_D A (wW_X5_split ak ad ht ta Tlen Tcnt Tsigns Ttoks Tplc Tvals) → va_S A s.heap H locs → lv_has ls 3 [(0, .ref ht), (1, .int (l1)), (2, .int (l2))] → W p l e R s m args below meth c H locs cells slots Q (F0 m 9 ls ([])) := by
  intro n_
  induction n_ with
  | zero =>
    intro Tcnt Ttoks Tplc Tvals l1 l2 H locs ls hw
    exact hw.elim
  | succ n_ ih =>
    intro Tcnt Ttoks Tplc Tvals l1 l2 H locs ls hw hP hD hS hl
    have hw : lb_X5_split_9 Tlen Tsigns  Φ (lf_X5_split_9 Tlen Tsigns  Φ n_) Tcnt Ttoks Tplc Tvals l1 l2 := hw
    delta lb_X5_split_9 at hw
    refine lv_iload_n hx hb dX5_split_9 rfl (lv_at hl 2 rfl) ?_
    refine lv_sipush (v := 1000) hx hb dX5_split_10 (by decide) ?_
    refine lv_icmp_ge (tgt := 54) hx hb dX5_split_13 (by decide) (fun c_1 => ?_) (fun c_1 => ?_)
    · replace hw := hw.1 c_1
      refine lv_aload_n hx hb dX5_split_54 rfl (lv_at hl 0 rfl) ?_
      refine va_gets hx hb (hT.1 0 (by decide)).1 hS hown (hts (.fieldLink RX5 44 "WornLines$Token" "END" "LWornLines$Token;") (wm_c hw_405)) (fun _ h9 => h9) dX5_split_55 ?_
      refine lv_aload_n hx hb dX5_split_58 rfl (lv_at hl 0 rfl) ?_
      refine vt_get (D := D) (ci := 5) (v := .int (Tlen)) (C := RX5) (T := TX5) (N := 6) hx hb hts (fun w h => wm_c (wc_X5 w h)) hown hE.1 hP 0 rfl rfl 1 (by decide) tX5_1 (hts (.fieldLink RX5 29 "WornLines$Tape" "length" "I") (wm_c hw_392)) (fun _ h9 => h9) rfl dX5_split_59 ?_
      refine lv_lconst (v := 0) hx hb dX5_split_62 rfl ?_
      refine kc_v (wc := (wW_X5_add ak ad ht ta Tlen Tcnt Ttoks Tplc Tvals)) (wr := [((ta 0), .inl (ak 2, 1000, .inl (Tsigns)))]) hP hD hS hA [0, 2, 3, 4] [1] rfl rfl (by decide) (by decide) (va_runV (As := [.ref (ad 0), .int (Tlen), .long (0)]) (rest := []) ⟨hx, hb, hml, hown, hts⟩ (c_X5_add l D ak ad _ ht ta Tlen Tcnt Ttoks Tplc Tvals 0 Tlen 0 _ hw) (cwV 3 hts gX5_split_X5_add rfl rfl rfl hv_X5_add ⟨(Nat.le_trans (Nat.le_of_ble_eq_true rfl) hRf), (Nat.le_trans (Nat.le_of_ble_eq_true rfl) hRl)⟩) (kc_preV (As := [.ref (ad 0), .int (Tlen), .long (0)]) (wc := (wW_X5_add ak ad ht ta Tlen Tcnt Ttoks Tplc Tvals)) hE hT hP hD hS hA [0, 2, 3, 4] (by decide) rfl rfl 0 5 rfl rfl rfl) rfl rfl hl.1 rfl (lv_room (Nat.le_of_ble_eq_true rfl)) dX5_split_63 ⟨hRc.1, hRc.2⟩) (fun u_2 H locs hw hP hD hS => ?_)
      obtain ⟨Tcnt_3, Ttoks_4, Tplc_5, Tvals_6⟩ := u_2
      try dsimp -zeta only at hw
      have hP : va_P D vwCl (wW_X5_split ak ad ht ta Tlen Tcnt_3 Tsigns Ttoks_4 Tplc_5 Tvals_6) H := hP.sub [1, 0, 2, 3, 4] rfl
      have hD : va_D A (wW_X5_split ak ad ht ta Tlen Tcnt_3 Tsigns Ttoks_4 Tplc_5 Tvals_6) := hD.sub [1, 0, 2, 3, 4] (by decide) rfl
      exact kR66 Tcnt_3 Ttoks_4 Tplc_5 Tvals_6 _ _ _ hw hP hD hS
    · replace hw := hw.2 c_1
      refine lv_iload_n hx hb dX5_split_16 rfl (lv_at hl 1 rfl) ?_
      refine lv_aload_n hx hb dX5_split_17 rfl (lv_at hl 0 rfl) ?_
      refine vt_get (D := D) (ci := 5) (v := .int (Tlen)) (C := RX5) (T := TX5) (N := 6) hx hb hts (fun w h => wm_c (wc_X5 w h)) hown hE.1 hP 0 rfl rfl 1 (by decide) tX5_1 (hts (.fieldLink RX5 29 "WornLines$Tape" "length" "I") (wm_c hw_392)) (fun _ h9 => h9) rfl dX5_split_18 ?_
      refine lv_icmp_ge (tgt := 54) hx hb dX5_split_21 (by decide) (fun c_8 => ?_) (fun c_8 => ?_)
      · replace hw := hw.1 c_8
        refine lv_aload_n hx hb dX5_split_54 rfl (lv_at hl 0 rfl) ?_
        refine va_gets hx hb (hT.1 0 (by decide)).1 hS hown (hts (.fieldLink RX5 44 "WornLines$Token" "END" "LWornLines$Token;") (wm_c hw_405)) (fun _ h9 => h9) dX5_split_55 ?_
        refine lv_aload_n hx hb dX5_split_58 rfl (lv_at hl 0 rfl) ?_
        refine vt_get (D := D) (ci := 5) (v := .int (Tlen)) (C := RX5) (T := TX5) (N := 6) hx hb hts (fun w h => wm_c (wc_X5 w h)) hown hE.1 hP 0 rfl rfl 1 (by decide) tX5_1 (hts (.fieldLink RX5 29 "WornLines$Tape" "length" "I") (wm_c hw_392)) (fun _ h9 => h9) rfl dX5_split_59 ?_
        refine lv_lconst (v := 0) hx hb dX5_split_62 rfl ?_
        refine kc_v (wc := (wW_X5_add ak ad ht ta Tlen Tcnt Ttoks Tplc Tvals)) (wr := [((ta 0), .inl (ak 2, 1000, .inl (Tsigns)))]) hP hD hS hA [0, 2, 3, 4] [1] rfl rfl (by decide) (by decide) (va_runV (As := [.ref (ad 0), .int (Tlen), .long (0)]) (rest := []) ⟨hx, hb, hml, hown, hts⟩ (c_X5_add l D ak ad _ ht ta Tlen Tcnt Ttoks Tplc Tvals 0 Tlen 0 _ hw) (cwV 3 hts gX5_split_X5_add rfl rfl rfl hv_X5_add ⟨(Nat.le_trans (Nat.le_of_ble_eq_true rfl) hRf), (Nat.le_trans (Nat.le_of_ble_eq_true rfl) hRl)⟩) (kc_preV (As := [.ref (ad 0), .int (Tlen), .long (0)]) (wc := (wW_X5_add ak ad ht ta Tlen Tcnt Ttoks Tplc Tvals)) hE hT hP hD hS hA [0, 2, 3, 4] (by decide) rfl rfl 0 5 rfl rfl rfl) rfl rfl hl.1 rfl (lv_room (Nat.le_of_ble_eq_true rfl)) dX5_split_63 ⟨hRc.1, hRc.2⟩) (fun u_9 H locs hw hP hD hS => ?_)
        obtain ⟨Tcnt_10, Ttoks_11, Tplc_12, Tvals_13⟩ := u_9
        try dsimp -zeta only at hw
        have hP : va_P D vwCl (wW_X5_split ak ad ht ta Tlen Tcnt_10 Tsigns Ttoks_11 Tplc_12 Tvals_13) H := hP.sub [1, 0, 2, 3, 4] rfl
        have hD : va_D A (wW_X5_split ak ad ht ta Tlen Tcnt_10 Tsigns Ttoks_11 Tplc_12 Tvals_13) := hD.sub [1, 0, 2, 3, 4] (by decide) rfl
        exact kR66 Tcnt_10 Ttoks_11 Tplc_12 Tvals_13 _ _ _ hw hP hD hS
      · replace hw := hw.2 c_8
        refine lv_aload_n hx hb dX5_split_24 rfl (lv_at hl 0 rfl) ?_
        refine vt_get (D := D) (ci := 5) (v := .ref (ta 0)) (C := RX5) (T := TX5) (N := 6) hx hb hts (fun w h => wm_c (wc_X5 w h)) hown hE.1 hP 0 rfl rfl 0 (by decide) tX5_0 (hts (.fieldLink RX5 9 "WornLines$Tape" "signs" "[C") (wm_c hw_264)) (fun _ h9 => h9) rfl dX5_split_25 ?_
        refine lv_iload_n hx hb dX5_split_28 rfl (lv_at hl 1 rfl) ?_
        obtain ⟨h_15, hw⟩ := hw
        refine va_cald hx hb hE.1 hP 1 2 rfl rfl (h_15) dX5_split_29 ?_
        refine kc_i (wc := []) (wr := [(ht, .inr (5, tob ta (Tlen) (Tcnt))), ((ta 0), .inl (ak 2, 1000, .inl (Tsigns))), ((ta 1), .inl (ak 4, 1001, .inr (.inr (.inr (.inr (tokA ad (Ttoks))))))), ((ta 2), .inl (ak 0, 1001, .inl (Tplc))), ((ta 3), .inl (ak 1, 1001, .inr (.inl (Tvals))))]) hP hD hS hA [] [0, 1, 2, 3, 4] rfl rfl (by decide) (by decide) (va_runS (As := [.int (Tsigns (l1).toNatClampNeg)]) (rest := []) ⟨hx, hb, hml, hown, hts⟩ (c_X5_isBlank l D ak ad _ (Tsigns (l1).toNatClampNeg) _ hw) (va_cwS 1 hts gX5_split_X5_isBlank rfl rfl rfl hz_X5_isBlank ⟨(Nat.le_trans (Nat.le_of_ble_eq_true rfl) hRf), (Nat.le_trans (Nat.le_of_ble_eq_true rfl) hRl)⟩) (kc_pre (As := [.int (Tsigns (l1).toNatClampNeg)]) (wc := []) hE hT hP hD hS hA [] (by decide) rfl rfl) rfl rfl hl.1 rfl (lv_room (Nat.le_of_ble_eq_true rfl)) dX5_split_30 ⟨hRc.1, hRc.2⟩) (fun r_17 u_16 H locs hw hP hD hS => ?_)
        try dsimp -zeta only at hw
        have hP : va_P D vwCl (wW_X5_split ak ad ht ta Tlen Tcnt Tsigns Ttoks Tplc Tvals) H := hP.sub [0, 1, 2, 3, 4] rfl
        have hD : va_D A (wW_X5_split ak ad ht ta Tlen Tcnt Tsigns Ttoks Tplc Tvals) := hD.sub [0, 1, 2, 3, 4] (by decide) rfl
        refine lv_if_eq (tgt := 42) hx hb dX5_split_33 (by decide) (fun c_18 => ?_) (fun c_18 => ?_)
        · replace hw := hw.1 c_18
          refine lv_aload_n hx hb dX5_split_42 rfl (lv_at hl 0 rfl) ?_
          refine lv_iload_n hx hb dX5_split_43 rfl (lv_at hl 1 rfl) ?_
          refine kc_i (wc := (wW_X5_splitOne ak ad ht ta Tlen Tcnt Tsigns Ttoks Tplc Tvals)) (wr := []) hP hD hS hA [0, 1, 2, 3, 4] [] rfl rfl (by decide) (by decide) (va_runV (As := [.int (l1)]) (rest := []) ⟨hx, hb, hml, hown, hts⟩ (c_X5_splitOne l D ak ad _ ht ta Tlen Tcnt Tsigns Ttoks Tplc Tvals l1 _ hw) (cwV 1 hts gX5_split_X5_splitOne rfl rfl rfl hv_X5_splitOne ⟨(Nat.le_trans (Nat.le_of_ble_eq_true rfl) hRf), (Nat.le_trans (Nat.le_of_ble_eq_true rfl) hRl)⟩) (kc_preV (As := [.int (l1)]) (wc := (wW_X5_splitOne ak ad ht ta Tlen Tcnt Tsigns Ttoks Tplc Tvals)) hE hT hP hD hS hA [0, 1, 2, 3, 4] (by decide) rfl rfl 0 5 rfl rfl rfl) rfl rfl hl.1 rfl (lv_room (Nat.le_of_ble_eq_true rfl)) dX5_split_44 ⟨hRc.1, hRc.2⟩) (fun r_24 u_19 H locs hw hP hD hS => ?_)
          obtain ⟨Tcnt_20, Ttoks_21, Tplc_22, Tvals_23⟩ := u_19
          try dsimp -zeta only at hw
          have hP : va_P D vwCl (wW_X5_split ak ad ht ta Tlen Tcnt_20 Tsigns Ttoks_21 Tplc_22 Tvals_23) H := hP.sub [0, 1, 2, 3, 4] rfl
          have hD : va_D A (wW_X5_split ak ad ht ta Tlen Tcnt_20 Tsigns Ttoks_21 Tplc_22 Tvals_23) := hD.sub [0, 1, 2, 3, 4] (by decide) rfl
          refine lv_istore_n (lv' := [(1, .int (r_24)), (0, .ref ht), (2, .int (l2))]) hx hb dX5_split_47 rfl hl (by decide) rfl (fun ls hl => ?_)
          refine lv_iinc (v := (l2 + 1)) (lv' := [(2, .int (l2 + 1)), (1, .int (r_24)), (0, .ref ht)]) hx hb dX5_split_48 hl (k := 2) rfl (rfl) (by decide) rfl (fun ls hl => ?_)
          refine lv_goto (tgt := 9) hx hb dX5_split_51 (by decide) ?_
          exact ih Tcnt_20 Ttoks_21 Tplc_22 Tvals_23 r_24 (l2 + 1) _ _ _ hw hP hD hS (lv_sub hl [2, 1, 0] rfl)
        · replace hw := hw.2 c_18
          refine lv_iload_n hx hb dX5_split_36 rfl (lv_at hl 1 rfl) ?_
          refine lv_iconst (v := 1) hx hb dX5_split_37 (by decide) ?_
          refine lv_iadd hx hb dX5_split_38 ?_
          refine lv_goto (tgt := 47) hx hb dX5_split_39 (by decide) ?_
          refine lv_istore_n (lv' := [(1, .int (l1 + 1)), (0, .ref ht), (2, .int (l2))]) hx hb dX5_split_47 rfl hl (by decide) rfl (fun ls hl => ?_)
          refine lv_iinc (v := (l2 + 1)) (lv' := [(2, .int (l2 + 1)), (1, .int (l1 + 1)), (0, .ref ht)]) hx hb dX5_split_48 hl (k := 2) rfl (rfl) (by decide) rfl (fun ls hl => ?_)
          refine lv_goto (tgt := 9) hx hb dX5_split_51 (by decide) ?_
          exact ih Tcnt Ttoks Tplc Tvals (l1 + 1) (l2 + 1) _ _ _ hw hP hD hS (lv_sub hl [2, 1, 0] rfl)

def wp_X5_split (Tlen : Int32) (Tsigns : Nat → Int32) (Tcnt : Int32) (Ttoks : Nat → Nat) (Tplc : Nat → Int32) (Tvals : Nat → Int64) (Φ : Int32 → (Nat → Nat) → (Nat → Int32) → (Nat → Int64) → Prop) : Prop := (∃ n_, lf_X5_split_9 Tlen Tsigns  Φ n_ 0 Ttoks Tplc Tvals 0 0)
set_option maxHeartbeats 4000000 in
set_option maxRecDepth 100000 in
theorem kj_X5_split_e {p : Program} {l : Launch} {e : Env} {R : Room} {s : State} {m : MethodId} {args : Array Value} {below : List Frame} {meth : Method} {c : Code} {cells slots : Nat} {Q : State → Prop} {A : Nat → Prop} {D : va_G} {ak : Nat → ClassId} {ad : Nat → Nat} (hx : p.tables.exec = Jvm.exec) (hb : c.code = cX5_split) (hown : s.vm.findClass RX5 = some m.cls) (hts : ∀ w ∈ wsX5_split, w.before args s = true) (hml : c.maxLocals = 3) (hE : EV D ak s) (hT : ST D ak ad A s s.heap) (hA : ∀ q, s.heap.size ≤ q → A q) (hRf : 3 ≤ R.frames) (hRl : 75 ≤ R.locals) (hRc : cells ≤ R.cells ∧ slots ≤ R.slots) (ht : Nat) (ta : Nat → Nat) (Tlen : Int32) (Tsigns : Nat → Int32)  (Φ : Int32 → (Nat → Nat) → (Nat → Int32) → (Nat → Int64) → Prop)
    (kR66 : ∀ (Tcnt : Int32) (Ttoks : Nat → Nat) (Tplc : Nat → Int32) (Tvals : Nat → Int64) (H : Heap) (locs : List Loc) (ls : Array Slot), Φ Tcnt Ttoks Tplc Tvals → va_P D vwCl (wW_X5_split ak ad ht ta Tlen Tcnt Tsigns Ttoks Tplc Tvals) H → va_D A (wW_X5_split ak ad ht ta Tlen Tcnt Tsigns Ttoks Tplc Tvals) → va_S A s.heap H locs → W p l e R s m args below meth c H locs cells slots Q (F0 m 66 ls []))
    : ∀ (Tcnt : Int32) (Ttoks : Nat → Nat) (Tplc : Nat → Int32) (Tvals : Nat → Int64) (H : Heap) (locs : List Loc) (ls : Array Slot), wp_X5_split Tlen Tsigns Tcnt Ttoks Tplc Tvals Φ → va_P D vwCl (wW_X5_split ak ad ht ta Tlen Tcnt Tsigns Ttoks Tplc Tvals) H → va_D A (wW_X5_split ak ad ht ta Tlen Tcnt Tsigns Ttoks Tplc Tvals) → va_S A s.heap H locs → lv_has ls 3 [(0, .ref ht)] → W p l e R s m args below meth c H locs cells slots Q (F0 m 0 ls ([])) := by
  intro Tcnt Ttoks Tplc Tvals H locs ls hw hP hD hS hl
  delta wp_X5_split at hw
  refine lv_aload_n hx hb dX5_split_0 rfl (lv_at hl 0 rfl) ?_
  refine lv_iconst (v := 0) hx hb dX5_split_1 (by decide) ?_
  refine va_put (D := D) (ci := 5) (v := .int (0)) (ty := .int) (C := RX5) (T := TX5) (N := 6) hx hb hts (fun w h => wm_c (wc_X5 w h)) tyX5 tyX5_ok nmX5 hown hE.1 hP hD hS 0 rfl rfl 5 (by decide) (hts (.fieldLink RX5 33 "WornLines$Tape" "count" "I") (wm_c hw_393)) (fun _ h9 => h9) rfl pf_0 (rfl) rfl (Nat.le_of_ble_eq_true rfl) dX5_split_2 (fun H locs hP hD hS => ?_)
  have hP : va_P D vwCl (wW_X5_split ak ad ht ta Tlen 0 Tsigns Ttoks Tplc Tvals) H := hP
  have hD : va_D A (wW_X5_split ak ad ht ta Tlen 0 Tsigns Ttoks Tplc Tvals) := hD
  refine lv_iconst (v := 0) hx hb dX5_split_5 (by decide) ?_
  refine lv_istore_n (lv' := [(1, .int (0)), (0, .ref ht)]) hx hb dX5_split_6 rfl hl (by decide) rfl (fun ls hl => ?_)
  refine lv_iconst (v := 0) hx hb dX5_split_7 (by decide) ?_
  refine lv_istore_n (lv' := [(2, .int (0)), (1, .int (0)), (0, .ref ht)]) hx hb dX5_split_8 rfl hl (by decide) rfl (fun ls hl => ?_)
  obtain ⟨n1_, hw⟩ := hw
  exact lp_X5_split_9 hx hb hown hts hml hE hT hA hRf hRl hRc ht ta Tlen Tsigns  Φ  kR66 n1_ 0 Ttoks Tplc Tvals 0 0 _ _ _ hw hP hD hS (lv_sub hl [2, 1, 0] rfl)
set_option maxHeartbeats 4000000 in
set_option maxRecDepth 100000 in
theorem c_X5_split (l : Launch) (D : va_G) (ak : Nat → ClassId) (ad : Nat → Nat) (sz : Nat) (ht : Nat) (ta : Nat → Nat) (Tlen : Int32) (Tcnt : Int32) (Tsigns : Nat → Int32) (Ttoks : Nat → Nat) (Tplc : Nat → Int32) (Tvals : Nat → Int64) (Φ : Int32 → (Nat → Nat) → (Nat → Int32) → (Nat → Int64) → Prop) (hf : wp_X5_split Tlen Tsigns Tcnt Ttoks Tplc Tvals Φ) : Met l yX5_split wsX5_split ({ frames := 3, cells := 0, slots := 0, locals := 75 }) (cPre D ak ad [.ref ht] ((wW_X5_split ak ad ht ta Tlen Tcnt Tsigns Ttoks Tplc Tvals)) sz) (cV D (S := (Int32) × (Nat → Nat) × (Nat → Int32) × (Nat → Int64)) (fun (u : (Int32) × (Nat → Nat) × (Nat → Int32) × (Nat → Int64)) => Φ u.1 u.2.1 u.2.2.1 u.2.2.2) (fun u => (wW_X5_split ak ad ht ta Tlen u.1 Tsigns u.2.1 u.2.2.1 u.2.2.2)) ((wW_X5_split ak ad ht ta Tlen Tcnt Tsigns Ttoks Tplc Tvals)) sz) 0 0 (va_A ((wW_X5_split ak ad ht ta Tlen Tcnt Tsigns Ttoks Tplc Tvals)) sz) := by
  refine Met.ofW (cc := cX5_split) (maxL := 3) (ret := none) (by decide) rfl ?_
  intro p e s m args below meth c s₁ B hml hv
  obtain ⟨rfl, hsz, hP, hE, hD0, hT⟩ := hv
  have hx := B.exec
  have hb := B.bytes
  have hr := B.returns
  have hts := atoms_spec (ws := wsX5_split) B.pre
  have hown : s.vm.findClass RX5 = some m.cls := findClass_of_methodNamed B.named
  have hlocks := B.notSynchronized
  subst hsz
  have hD := hD0.self (sz := s.heap.size)
  generalize hAe : va_A ((wW_X5_split ak ad ht ta Tlen Tcnt Tsigns Ttoks Tplc Tvals)) s.heap.size = A at hD hT ⊢
  have hA : ∀ q : Nat, s.heap.size ≤ q → A q := fun q h => by rw [← hAe]; exact Or.inr h
  have hS : va_S A s.heap s.heap [] := va_S.rf
  have hl := lv_entry ([.ref ht]) (n := 3) (Nat.le_of_ble_eq_true rfl)
  rw [lg_entry_eq]
  generalize (lg_sl ([.ref ht]) ++ List.replicate (3 - (lg_sl ([.ref ht])).length) Slot.unset).toArray = ls at hl ⊢
  have hl : lv_has ls 3 [(0, .ref ht)] := hl
  exact kj_X5_split_e hx hb hown hts hml hE hT hA (Nat.le_of_ble_eq_true rfl) (Nat.le_of_ble_eq_true rfl) ⟨Nat.le_of_ble_eq_true rfl, Nat.le_of_ble_eq_true rfl⟩ ht ta Tlen Tsigns Φ (fun Tcnt Ttoks Tplc Tvals H locs ls hw hP hD hS => W.vret hx hb hr (fun t ht hW => ⟨⟨(Tcnt, Ttoks, Tplc, Tvals), rfl, hw, by rw [ht]; exact hP, by rw [hAe]; exact hD⟩, by rw [hAe]; exact hS.F ht⟩) hS.2.2 dX5_split_66) Tcnt Ttoks Tplc Tvals _ _ _ hf hP hD hS hl
end
section
theorem dX3_beginsPart_0 : decode cX3_beginsPart 0 = .ok (.aload_n 0, 1) := by decide +kernel
theorem dX3_beginsPart_1 : decode cX3_beginsPart 1 = .ok (.getstatic 228, 3) := by decide +kernel
theorem dX3_beginsPart_4 : decode cX3_beginsPart 4 = .ok (.if_acmp .eq 31, 3) := by decide +kernel
theorem dX3_beginsPart_35 : decode cX3_beginsPart 35 = .ok (.iconst 1, 1) := by decide +kernel
theorem dX3_beginsPart_36 : decode cX3_beginsPart 36 = .ok (.goto 4, 3) := by decide +kernel
theorem dX3_beginsPart_7 : decode cX3_beginsPart 7 = .ok (.aload_n 0, 1) := by decide +kernel
theorem dX3_beginsPart_8 : decode cX3_beginsPart 8 = .ok (.getstatic 217, 3) := by decide +kernel
theorem dX3_beginsPart_11 : decode cX3_beginsPart 11 = .ok (.if_acmp .eq 24, 3) := by decide +kernel
theorem dX3_beginsPart_14 : decode cX3_beginsPart 14 = .ok (.aload_n 0, 1) := by decide +kernel
theorem dX3_beginsPart_15 : decode cX3_beginsPart 15 = .ok (.getstatic 231, 3) := by decide +kernel
theorem dX3_beginsPart_18 : decode cX3_beginsPart 18 = .ok (.if_acmp .eq 17, 3) := by decide +kernel
theorem dX3_beginsPart_21 : decode cX3_beginsPart 21 = .ok (.aload_n 0, 1) := by decide +kernel
theorem dX3_beginsPart_22 : decode cX3_beginsPart 22 = .ok (.getstatic 237, 3) := by decide +kernel
theorem dX3_beginsPart_25 : decode cX3_beginsPart 25 = .ok (.if_acmp .eq 10, 3) := by decide +kernel
theorem dX3_beginsPart_28 : decode cX3_beginsPart 28 = .ok (.aload_n 0, 1) := by decide +kernel
theorem dX3_beginsPart_29 : decode cX3_beginsPart 29 = .ok (.getstatic 240, 3) := by decide +kernel
theorem dX3_beginsPart_32 : decode cX3_beginsPart 32 = .ok (.if_acmp .ne 7, 3) := by decide +kernel
theorem dX3_beginsPart_39 : decode cX3_beginsPart 39 = .ok (.iconst 0, 1) := by decide +kernel
theorem dX3_beginsPart_40 : decode cX3_beginsPart 40 = .ok (.ireturn, 1) := by decide +kernel
theorem dX3_put_0 : decode cX3_put 0 = .ok (.aload_n 0, 1) := by decide +kernel
theorem dX3_put_1 : decode cX3_put 1 = .ok (.getfield 51, 3) := by decide +kernel
theorem dX3_put_4 : decode cX3_put 4 = .ok (.aload_n 0, 1) := by decide +kernel
theorem dX3_put_5 : decode cX3_put 5 = .ok (.getfield 18, 3) := by decide +kernel
theorem dX3_put_8 : decode cX3_put 8 = .ok (.arraylength, 1) := by decide +kernel
theorem dX3_put_9 : decode cX3_put 9 = .ok (.if_icmp .ge 28, 3) := by decide +kernel
theorem dX3_put_12 : decode cX3_put 12 = .ok (.aload_n 0, 1) := by decide +kernel
theorem dX3_put_13 : decode cX3_put 13 = .ok (.getfield 18, 3) := by decide +kernel
theorem dX3_put_16 : decode cX3_put 16 = .ok (.aload_n 0, 1) := by decide +kernel
theorem dX3_put_17 : decode cX3_put 17 = .ok (.getfield 51, 3) := by decide +kernel
theorem dX3_put_20 : decode cX3_put 20 = .ok (.iload_n 1, 1) := by decide +kernel
theorem dX3_put_21 : decode cX3_put 21 = .ok (.bipush 16, 2) := by decide +kernel
theorem dX3_put_23 : decode cX3_put 23 = .ok (.iload_n 2, 1) := by decide +kernel
theorem dX3_put_24 : decode cX3_put 24 = .ok (.imul, 1) := by decide +kernel
theorem dX3_put_25 : decode cX3_put 25 = .ok (.iadd, 1) := by decide +kernel
theorem dX3_put_26 : decode cX3_put 26 = .ok (.iastore, 1) := by decide +kernel
theorem dX3_put_27 : decode cX3_put 27 = .ok (.aload_n 0, 1) := by decide +kernel
theorem dX3_put_28 : decode cX3_put 28 = .ok (.dup, 1) := by decide +kernel
theorem dX3_put_29 : decode cX3_put 29 = .ok (.getfield 51, 3) := by decide +kernel
theorem dX3_put_32 : decode cX3_put 32 = .ok (.iconst 1, 1) := by decide +kernel
theorem dX3_put_33 : decode cX3_put 33 = .ok (.iadd, 1) := by decide +kernel
theorem dX3_put_34 : decode cX3_put 34 = .ok (.putfield 51, 3) := by decide +kernel
theorem dX3_put_37 : decode cX3_put 37 = .ok (.return_, 1) := by decide +kernel
theorem dX3_advance_0 : decode cX3_advance 0 = .ok (.aload_n 0, 1) := by decide +kernel
theorem dX3_advance_1 : decode cX3_advance 1 = .ok (.getfield 57, 3) := by decide +kernel
theorem dX3_advance_4 : decode cX3_advance 4 = .ok (.aload_n 0, 1) := by decide +kernel
theorem dX3_advance_5 : decode cX3_advance 5 = .ok (.getfield 31, 3) := by decide +kernel
theorem dX3_advance_8 : decode cX3_advance 8 = .ok (.getfield 243, 3) := by decide +kernel
theorem dX3_advance_11 : decode cX3_advance 11 = .ok (.if_icmp .ge 61, 3) := by decide +kernel
theorem dX3_advance_14 : decode cX3_advance 14 = .ok (.aload_n 0, 1) := by decide +kernel
theorem dX3_advance_15 : decode cX3_advance 15 = .ok (.aload_n 0, 1) := by decide +kernel
theorem dX3_advance_16 : decode cX3_advance 16 = .ok (.getfield 31, 3) := by decide +kernel
theorem dX3_advance_19 : decode cX3_advance 19 = .ok (.getfield 246, 3) := by decide +kernel
theorem dX3_advance_22 : decode cX3_advance 22 = .ok (.aload_n 0, 1) := by decide +kernel
theorem dX3_advance_23 : decode cX3_advance 23 = .ok (.getfield 57, 3) := by decide +kernel
theorem dX3_advance_26 : decode cX3_advance 26 = .ok (.aaload, 1) := by decide +kernel
theorem dX3_advance_27 : decode cX3_advance 27 = .ok (.putfield 28, 3) := by decide +kernel
theorem dX3_advance_30 : decode cX3_advance 30 = .ok (.aload_n 0, 1) := by decide +kernel
theorem dX3_advance_31 : decode cX3_advance 31 = .ok (.aload_n 0, 1) := by decide +kernel
theorem dX3_advance_32 : decode cX3_advance 32 = .ok (.getfield 31, 3) := by decide +kernel
theorem dX3_advance_35 : decode cX3_advance 35 = .ok (.getfield 250, 3) := by decide +kernel
theorem dX3_advance_38 : decode cX3_advance 38 = .ok (.aload_n 0, 1) := by decide +kernel
theorem dX3_advance_39 : decode cX3_advance 39 = .ok (.getfield 57, 3) := by decide +kernel
theorem dX3_advance_42 : decode cX3_advance 42 = .ok (.iaload, 1) := by decide +kernel
theorem dX3_advance_43 : decode cX3_advance 43 = .ok (.putfield 253, 3) := by decide +kernel
theorem dX3_advance_46 : decode cX3_advance 46 = .ok (.aload_n 0, 1) := by decide +kernel
theorem dX3_advance_47 : decode cX3_advance 47 = .ok (.aload_n 0, 1) := by decide +kernel
theorem dX3_advance_48 : decode cX3_advance 48 = .ok (.getfield 31, 3) := by decide +kernel
theorem dX3_advance_51 : decode cX3_advance 51 = .ok (.getfield 256, 3) := by decide +kernel
theorem dX3_advance_54 : decode cX3_advance 54 = .ok (.aload_n 0, 1) := by decide +kernel
theorem dX3_advance_55 : decode cX3_advance 55 = .ok (.getfield 57, 3) := by decide +kernel
theorem dX3_advance_58 : decode cX3_advance 58 = .ok (.laload, 1) := by decide +kernel
theorem dX3_advance_59 : decode cX3_advance 59 = .ok (.putfield 224, 3) := by decide +kernel
theorem dX3_advance_62 : decode cX3_advance 62 = .ok (.aload_n 0, 1) := by decide +kernel
theorem dX3_advance_63 : decode cX3_advance 63 = .ok (.dup, 1) := by decide +kernel
theorem dX3_advance_64 : decode cX3_advance 64 = .ok (.getfield 57, 3) := by decide +kernel
theorem dX3_advance_67 : decode cX3_advance 67 = .ok (.iconst 1, 1) := by decide +kernel
theorem dX3_advance_68 : decode cX3_advance 68 = .ok (.iadd, 1) := by decide +kernel
theorem dX3_advance_69 : decode cX3_advance 69 = .ok (.putfield 57, 3) := by decide +kernel
theorem dX3_advance_72 : decode cX3_advance 72 = .ok (.return_, 1) := by decide +kernel
theorem dX3_fail_0 : decode cX3_fail 0 = .ok (.aload_n 0, 1) := by decide +kernel
theorem dX3_fail_1 : decode cX3_fail 1 = .ok (.getfield 54, 3) := by decide +kernel
theorem dX3_fail_4 : decode cX3_fail 4 = .ok (.ifCond .ne 16, 3) := by decide +kernel
theorem dX3_fail_7 : decode cX3_fail 7 = .ok (.aload_n 0, 1) := by decide +kernel
theorem dX3_fail_8 : decode cX3_fail 8 = .ok (.iload_n 1, 1) := by decide +kernel
theorem dX3_fail_9 : decode cX3_fail 9 = .ok (.bipush 16, 2) := by decide +kernel
theorem dX3_fail_11 : decode cX3_fail 11 = .ok (.aload_n 0, 1) := by decide +kernel
theorem dX3_fail_12 : decode cX3_fail 12 = .ok (.getfield 253, 3) := by decide +kernel
theorem dX3_fail_15 : decode cX3_fail 15 = .ok (.imul, 1) := by decide +kernel
theorem dX3_fail_16 : decode cX3_fail 16 = .ok (.iadd, 1) := by decide +kernel
theorem dX3_fail_17 : decode cX3_fail 17 = .ok (.putfield 54, 3) := by decide +kernel
theorem dX3_fail_20 : decode cX3_fail 20 = .ok (.return_, 1) := by decide +kernel
theorem dX3_expect_0 : decode cX3_expect 0 = .ok (.aload_n 0, 1) := by decide +kernel
theorem dX3_expect_1 : decode cX3_expect 1 = .ok (.getfield 28, 3) := by decide +kernel
theorem dX3_expect_4 : decode cX3_expect 4 = .ok (.aload_n 1, 1) := by decide +kernel
theorem dX3_expect_5 : decode cX3_expect 5 = .ok (.if_acmp .eq 8, 3) := by decide +kernel
theorem dX3_expect_13 : decode cX3_expect 13 = .ok (.aload_n 0, 1) := by decide +kernel
set_option maxRecDepth 20000 in
theorem ggX3_expect_X3_advance : GoodIn wsX3_expect wsX3_advance := gup gc_X3_advance
set_option maxRecDepth 20000 in
theorem gX3_expect_X3_advance : GoodIn wsX3_expect (wsV RX3 60 RX3 yX3_advance wsX3_advance) := gup (glV hw_437 hw_438 hw_439 hw_440 gc_X3_advance)
theorem dX3_expect_14 : decode cX3_expect 14 = .ok (.invokevirtual 60, 3) := by decide +kernel
theorem dX3_expect_8 : decode cX3_expect 8 = .ok (.aload_n 0, 1) := by decide +kernel
theorem dX3_expect_9 : decode cX3_expect 9 = .ok (.iconst 1, 1) := by decide +kernel
set_option maxRecDepth 20000 in
theorem ggX3_expect_X3_fail : GoodIn wsX3_expect wsX3_fail := gup gc_X3_fail
set_option maxRecDepth 20000 in
theorem gX3_expect_X3_fail : GoodIn wsX3_expect (wsV RX3 87 RX3 yX3_fail wsX3_fail) := gup (glV hw_441 hw_442 hw_443 hw_440 gc_X3_fail)
theorem dX3_expect_10 : decode cX3_expect 10 = .ok (.invokevirtual 87, 3) := by decide +kernel
theorem dX3_expect_17 : decode cX3_expect 17 = .ok (.return_, 1) := by decide +kernel
theorem dX3_numberHere_0 : decode cX3_numberHere 0 = .ok (.aload_n 0, 1) := by decide +kernel
theorem dX3_numberHere_1 : decode cX3_numberHere 1 = .ok (.getfield 28, 3) := by decide +kernel
theorem dX3_numberHere_4 : decode cX3_numberHere 4 = .ok (.getstatic 228, 3) := by decide +kernel
theorem dX3_numberHere_7 : decode cX3_numberHere 7 = .ok (.if_acmp .eq 10, 3) := by decide +kernel
theorem dX3_numberHere_17 : decode cX3_numberHere 17 = .ok (.aload_n 0, 1) := by decide +kernel
theorem dX3_numberHere_18 : decode cX3_numberHere 18 = .ok (.getfield 224, 3) := by decide +kernel
theorem dX3_numberHere_21 : decode cX3_numberHere 21 = .ok (.iload_n 1, 1) := by decide +kernel
theorem dX3_numberHere_22 : decode cX3_numberHere 22 = .ok (.i2l, 1) := by decide +kernel
theorem dX3_numberHere_23 : decode cX3_numberHere 23 = .ok (.lcmp, 1) := by decide +kernel
theorem dX3_numberHere_24 : decode cX3_numberHere 24 = .ok (.ifCond .lt 13, 3) := by decide +kernel
theorem dX3_numberHere_37 : decode cX3_numberHere 37 = .ok (.aload_n 0, 1) := by decide +kernel
theorem dX3_numberHere_38 : decode cX3_numberHere 38 = .ok (.iconst 4, 1) := by decide +kernel
set_option maxRecDepth 20000 in
theorem ggX3_numberHere_X3_fail : GoodIn wsX3_numberHere wsX3_fail := gup gc_X3_fail
set_option maxRecDepth 20000 in
theorem gX3_numberHere_X3_fail : GoodIn wsX3_numberHere (wsV RX3 87 RX3 yX3_fail wsX3_fail) := gup (glV hw_441 hw_442 hw_443 hw_440 gc_X3_fail)
theorem dX3_numberHere_39 : decode cX3_numberHere 39 = .ok (.invokevirtual 87, 3) := by decide +kernel
theorem dX3_numberHere_42 : decode cX3_numberHere 42 = .ok (.iload_n 1, 1) := by decide +kernel
theorem dX3_numberHere_27 : decode cX3_numberHere 27 = .ok (.aload_n 0, 1) := by decide +kernel
theorem dX3_numberHere_28 : decode cX3_numberHere 28 = .ok (.getfield 224, 3) := by decide +kernel
theorem dX3_numberHere_31 : decode cX3_numberHere 31 = .ok (.iload_n 2, 1) := by decide +kernel
theorem dX3_numberHere_32 : decode cX3_numberHere 32 = .ok (.i2l, 1) := by decide +kernel
theorem dX3_numberHere_33 : decode cX3_numberHere 33 = .ok (.lcmp, 1) := by decide +kernel
theorem dX3_numberHere_34 : decode cX3_numberHere 34 = .ok (.ifCond .le 10, 3) := by decide +kernel
theorem dX3_numberHere_44 : decode cX3_numberHere 44 = .ok (.aload_n 0, 1) := by decide +kernel
theorem dX3_numberHere_45 : decode cX3_numberHere 45 = .ok (.getfield 224, 3) := by decide +kernel
theorem dX3_numberHere_48 : decode cX3_numberHere 48 = .ok (.l2i, 1) := by decide +kernel
theorem dX3_numberHere_10 : decode cX3_numberHere 10 = .ok (.aload_n 0, 1) := by decide +kernel
theorem dX3_numberHere_11 : decode cX3_numberHere 11 = .ok (.iconst 1, 1) := by decide +kernel
theorem dX3_numberHere_12 : decode cX3_numberHere 12 = .ok (.invokevirtual 87, 3) := by decide +kernel
theorem dX3_numberHere_15 : decode cX3_numberHere 15 = .ok (.iload_n 1, 1) := by decide +kernel
theorem dX3_numberHere_16 : decode cX3_numberHere 16 = .ok (.ireturn, 1) := by decide +kernel
theorem dX3_numberHere_43 : decode cX3_numberHere 43 = .ok (.ireturn, 1) := by decide +kernel
theorem dX3_numberHere_49 : decode cX3_numberHere 49 = .ok (.ireturn, 1) := by decide +kernel
theorem dX3_takeNumber_0 : decode cX3_takeNumber 0 = .ok (.aload_n 0, 1) := by decide +kernel
theorem dX3_takeNumber_1 : decode cX3_takeNumber 1 = .ok (.iload_n 1, 1) := by decide +kernel
theorem dX3_takeNumber_2 : decode cX3_takeNumber 2 = .ok (.iload_n 2, 1) := by decide +kernel
set_option maxRecDepth 20000 in
theorem ggX3_takeNumber_X3_numberHere : GoodIn wsX3_takeNumber wsX3_numberHere := gup gc_X3_numberHere
set_option maxRecDepth 20000 in
theorem gX3_takeNumber_X3_numberHere : GoodIn wsX3_takeNumber (wsV RX3 144 RX3 yX3_numberHere wsX3_numberHere) := gup (glV hw_444 hw_445 hw_446 hw_440 gc_X3_numberHere)
theorem dX3_takeNumber_3 : decode cX3_takeNumber 3 = .ok (.invokevirtual 144, 3) := by decide +kernel
theorem dX3_takeNumber_6 : decode cX3_takeNumber 6 = .ok (.istore_n 3, 1) := by decide +kernel
theorem dX3_takeNumber_7 : decode cX3_takeNumber 7 = .ok (.aload_n 0, 1) := by decide +kernel
set_option maxRecDepth 20000 in
theorem ggX3_takeNumber_X3_advance : GoodIn wsX3_takeNumber wsX3_advance := gup gc_X3_advance
set_option maxRecDepth 20000 in
theorem gX3_takeNumber_X3_advance : GoodIn wsX3_takeNumber (wsV RX3 60 RX3 yX3_advance wsX3_advance) := gup (glV hw_437 hw_438 hw_439 hw_440 gc_X3_advance)
theorem dX3_takeNumber_8 : decode cX3_takeNumber 8 = .ok (.invokevirtual 60, 3) := by decide +kernel
theorem dX3_takeNumber_11 : decode cX3_takeNumber 11 = .ok (.iload_n 3, 1) := by decide +kernel
theorem dX3_takeNumber_12 : decode cX3_takeNumber 12 = .ok (.ireturn, 1) := by decide +kernel
theorem dX3_find_2 : decode cX3_find 2 = .ok (.iload_n 3, 1) := by decide +kernel
theorem dX3_find_3 : decode cX3_find 3 = .ok (.iload_n 2, 1) := by decide +kernel
theorem dX3_find_4 : decode cX3_find 4 = .ok (.if_icmp .ge 28, 3) := by decide +kernel
theorem dX3_find_32 : decode cX3_find 32 = .ok (.iconst (-1), 1) := by decide +kernel
theorem dX3_find_7 : decode cX3_find 7 = .ok (.iload_n 3, 1) := by decide +kernel
theorem dX3_find_8 : decode cX3_find 8 = .ok (.aload_n 1, 1) := by decide +kernel
theorem dX3_find_9 : decode cX3_find 9 = .ok (.arraylength, 1) := by decide +kernel
theorem dX3_find_10 : decode cX3_find 10 = .ok (.if_icmp .ge 22, 3) := by decide +kernel
theorem dX3_find_13 : decode cX3_find 13 = .ok (.aload_n 1, 1) := by decide +kernel
theorem dX3_find_14 : decode cX3_find 14 = .ok (.iload_n 3, 1) := by decide +kernel
theorem dX3_find_15 : decode cX3_find 15 = .ok (.laload, 1) := by decide +kernel
theorem dX3_find_16 : decode cX3_find 16 = .ok (.aload_n 0, 1) := by decide +kernel
theorem dX3_find_17 : decode cX3_find 17 = .ok (.getfield 224, 3) := by decide +kernel
theorem dX3_find_20 : decode cX3_find 20 = .ok (.lcmp, 1) := by decide +kernel
theorem dX3_find_21 : decode cX3_find 21 = .ok (.ifCond .ne 5, 3) := by decide +kernel
theorem dX3_find_26 : decode cX3_find 26 = .ok (.iinc 3 1, 3) := by decide +kernel
theorem dX3_find_29 : decode cX3_find 29 = .ok (.goto (-27), 3) := by decide +kernel
theorem dX3_find_24 : decode cX3_find 24 = .ok (.iload_n 3, 1) := by decide +kernel
theorem dX3_find_0 : decode cX3_find 0 = .ok (.iconst 0, 1) := by decide +kernel
theorem dX3_find_1 : decode cX3_find 1 = .ok (.istore_n 3, 1) := by decide +kernel
theorem dX3_find_25 : decode cX3_find 25 = .ok (.ireturn, 1) := by decide +kernel
theorem dX3_find_33 : decode cX3_find 33 = .ok (.ireturn, 1) := by decide +kernel
theorem dX3_takeNewName_0 : decode cX3_takeNewName 0 = .ok (.aload_n 0, 1) := by decide +kernel
theorem dX3_takeNewName_1 : decode cX3_takeNewName 1 = .ok (.getfield 224, 3) := by decide +kernel
theorem dX3_takeNewName_4 : decode cX3_takeNewName 4 = .ok (.lstore_n 1, 1) := by decide +kernel
theorem dX3_takeNewName_5 : decode cX3_takeNewName 5 = .ok (.aload_n 0, 1) := by decide +kernel
theorem dX3_takeNewName_6 : decode cX3_takeNewName 6 = .ok (.getfield 28, 3) := by decide +kernel
theorem dX3_takeNewName_9 : decode cX3_takeNewName 9 = .ok (.getstatic 217, 3) := by decide +kernel
theorem dX3_takeNewName_12 : decode cX3_takeNewName 12 = .ok (.if_acmp .eq 11, 3) := by decide +kernel
theorem dX3_takeNewName_23 : decode cX3_takeNewName 23 = .ok (.aload_n 0, 1) := by decide +kernel
theorem dX3_takeNewName_24 : decode cX3_takeNewName 24 = .ok (.aload_n 0, 1) := by decide +kernel
theorem dX3_takeNewName_25 : decode cX3_takeNewName 25 = .ok (.getfield 9, 3) := by decide +kernel
theorem dX3_takeNewName_28 : decode cX3_takeNewName 28 = .ok (.aload_n 0, 1) := by decide +kernel
theorem dX3_takeNewName_29 : decode cX3_takeNewName 29 = .ok (.getfield 35, 3) := by decide +kernel
theorem dX3_takeNewName_32 : decode cX3_takeNewName 32 = .ok (.getfield 105, 3) := by decide +kernel
set_option maxRecDepth 20000 in
theorem ggX3_takeNewName_X3_find : GoodIn wsX3_takeNewName wsX3_find := gup gc_X3_find
set_option maxRecDepth 20000 in
theorem gX3_takeNewName_X3_find : GoodIn wsX3_takeNewName (wsV RX3 259 RX3 yX3_find wsX3_find) := gup (glV hw_447 hw_448 hw_449 hw_440 gc_X3_find)
theorem dX3_takeNewName_35 : decode cX3_takeNewName 35 = .ok (.invokevirtual 259, 3) := by decide +kernel
theorem dX3_takeNewName_38 : decode cX3_takeNewName 38 = .ok (.iconst (-1), 1) := by decide +kernel
theorem dX3_takeNewName_39 : decode cX3_takeNewName 39 = .ok (.if_icmp .ne 22, 3) := by decide +kernel
theorem dX3_takeNewName_61 : decode cX3_takeNewName 61 = .ok (.aload_n 0, 1) := by decide +kernel
theorem dX3_takeNewName_62 : decode cX3_takeNewName 62 = .ok (.iconst 3, 1) := by decide +kernel
set_option maxRecDepth 20000 in
theorem ggX3_takeNewName_X3_fail : GoodIn wsX3_takeNewName wsX3_fail := gup gc_X3_fail
set_option maxRecDepth 20000 in
theorem gX3_takeNewName_X3_fail : GoodIn wsX3_takeNewName (wsV RX3 87 RX3 yX3_fail wsX3_fail) := gup (glV hw_441 hw_442 hw_443 hw_440 gc_X3_fail)
theorem dX3_takeNewName_63 : decode cX3_takeNewName 63 = .ok (.invokevirtual 87, 3) := by decide +kernel
theorem dX3_takeNewName_66 : decode cX3_takeNewName 66 = .ok (.aload_n 0, 1) := by decide +kernel
set_option maxRecDepth 20000 in
theorem ggX3_takeNewName_X3_advance : GoodIn wsX3_takeNewName wsX3_advance := gup gc_X3_advance
set_option maxRecDepth 20000 in
theorem gX3_takeNewName_X3_advance : GoodIn wsX3_takeNewName (wsV RX3 60 RX3 yX3_advance wsX3_advance) := gup (glV hw_437 hw_438 hw_439 hw_440 gc_X3_advance)
theorem dX3_takeNewName_67 : decode cX3_takeNewName 67 = .ok (.invokevirtual 60, 3) := by decide +kernel
theorem dX3_takeNewName_70 : decode cX3_takeNewName 70 = .ok (.lload_n 1, 1) := by decide +kernel
theorem dX3_takeNewName_42 : decode cX3_takeNewName 42 = .ok (.aload_n 0, 1) := by decide +kernel
theorem dX3_takeNewName_43 : decode cX3_takeNewName 43 = .ok (.aload_n 0, 1) := by decide +kernel
theorem dX3_takeNewName_44 : decode cX3_takeNewName 44 = .ok (.getfield 15, 3) := by decide +kernel
theorem dX3_takeNewName_47 : decode cX3_takeNewName 47 = .ok (.aload_n 0, 1) := by decide +kernel
theorem dX3_takeNewName_48 : decode cX3_takeNewName 48 = .ok (.getfield 35, 3) := by decide +kernel
theorem dX3_takeNewName_51 : decode cX3_takeNewName 51 = .ok (.getfield 128, 3) := by decide +kernel
theorem dX3_takeNewName_54 : decode cX3_takeNewName 54 = .ok (.invokevirtual 259, 3) := by decide +kernel
theorem dX3_takeNewName_57 : decode cX3_takeNewName 57 = .ok (.iconst (-1), 1) := by decide +kernel
theorem dX3_takeNewName_58 : decode cX3_takeNewName 58 = .ok (.if_icmp .eq 8, 3) := by decide +kernel
theorem dX3_takeNewName_15 : decode cX3_takeNewName 15 = .ok (.aload_n 0, 1) := by decide +kernel
theorem dX3_takeNewName_16 : decode cX3_takeNewName 16 = .ok (.iconst 1, 1) := by decide +kernel
theorem dX3_takeNewName_17 : decode cX3_takeNewName 17 = .ok (.invokevirtual 87, 3) := by decide +kernel
theorem dX3_takeNewName_20 : decode cX3_takeNewName 20 = .ok (.goto 46, 3) := by decide +kernel
theorem dX3_takeNewName_71 : decode cX3_takeNewName 71 = .ok (.lreturn, 1) := by decide +kernel
theorem dX3_toldHere_0 : decode cX3_toldHere 0 = .ok (.aload_n 0, 1) := by decide +kernel
theorem dX3_toldHere_1 : decode cX3_toldHere 1 = .ok (.getfield 28, 3) := by decide +kernel
theorem dX3_toldHere_4 : decode cX3_toldHere 4 = .ok (.getstatic 217, 3) := by decide +kernel
theorem dX3_toldHere_7 : decode cX3_toldHere 7 = .ok (.if_acmp .eq 10, 3) := by decide +kernel
theorem dX3_toldHere_17 : decode cX3_toldHere 17 = .ok (.aload_n 0, 1) := by decide +kernel
theorem dX3_toldHere_18 : decode cX3_toldHere 18 = .ok (.aload_n 1, 1) := by decide +kernel
theorem dX3_toldHere_19 : decode cX3_toldHere 19 = .ok (.iload_n 2, 1) := by decide +kernel
set_option maxRecDepth 20000 in
theorem ggX3_toldHere_X3_find : GoodIn wsX3_toldHere wsX3_find := gup gc_X3_find
set_option maxRecDepth 20000 in
theorem gX3_toldHere_X3_find : GoodIn wsX3_toldHere (wsV RX3 259 RX3 yX3_find wsX3_find) := gup (glV hw_447 hw_448 hw_449 hw_440 gc_X3_find)
theorem dX3_toldHere_20 : decode cX3_toldHere 20 = .ok (.invokevirtual 259, 3) := by decide +kernel
theorem dX3_toldHere_23 : decode cX3_toldHere 23 = .ok (.istore_n 3, 1) := by decide +kernel
theorem dX3_toldHere_24 : decode cX3_toldHere 24 = .ok (.iload_n 3, 1) := by decide +kernel
theorem dX3_toldHere_25 : decode cX3_toldHere 25 = .ok (.iconst (-1), 1) := by decide +kernel
theorem dX3_toldHere_26 : decode cX3_toldHere 26 = .ok (.if_icmp .ne 10, 3) := by decide +kernel
theorem dX3_toldHere_36 : decode cX3_toldHere 36 = .ok (.iload_n 3, 1) := by decide +kernel
theorem dX3_toldHere_29 : decode cX3_toldHere 29 = .ok (.aload_n 0, 1) := by decide +kernel
theorem dX3_toldHere_30 : decode cX3_toldHere 30 = .ok (.iconst 2, 1) := by decide +kernel
set_option maxRecDepth 20000 in
theorem ggX3_toldHere_X3_fail : GoodIn wsX3_toldHere wsX3_fail := gup gc_X3_fail
set_option maxRecDepth 20000 in
theorem gX3_toldHere_X3_fail : GoodIn wsX3_toldHere (wsV RX3 87 RX3 yX3_fail wsX3_fail) := gup (glV hw_441 hw_442 hw_443 hw_440 gc_X3_fail)
theorem dX3_toldHere_31 : decode cX3_toldHere 31 = .ok (.invokevirtual 87, 3) := by decide +kernel
theorem dX3_toldHere_34 : decode cX3_toldHere 34 = .ok (.iconst 0, 1) := by decide +kernel
theorem dX3_toldHere_10 : decode cX3_toldHere 10 = .ok (.aload_n 0, 1) := by decide +kernel
theorem dX3_toldHere_11 : decode cX3_toldHere 11 = .ok (.iconst 1, 1) := by decide +kernel
theorem dX3_toldHere_12 : decode cX3_toldHere 12 = .ok (.invokevirtual 87, 3) := by decide +kernel
theorem dX3_toldHere_15 : decode cX3_toldHere 15 = .ok (.iconst 0, 1) := by decide +kernel
theorem dX3_toldHere_16 : decode cX3_toldHere 16 = .ok (.ireturn, 1) := by decide +kernel
theorem dX3_toldHere_35 : decode cX3_toldHere 35 = .ok (.ireturn, 1) := by decide +kernel
theorem dX3_toldHere_37 : decode cX3_toldHere 37 = .ok (.ireturn, 1) := by decide +kernel
theorem dX3_takeStuff_0 : decode cX3_takeStuff 0 = .ok (.aload_n 0, 1) := by decide +kernel
theorem dX3_takeStuff_1 : decode cX3_takeStuff 1 = .ok (.aload_n 0, 1) := by decide +kernel
theorem dX3_takeStuff_2 : decode cX3_takeStuff 2 = .ok (.getfield 9, 3) := by decide +kernel
theorem dX3_takeStuff_5 : decode cX3_takeStuff 5 = .ok (.aload_n 0, 1) := by decide +kernel
theorem dX3_takeStuff_6 : decode cX3_takeStuff 6 = .ok (.getfield 35, 3) := by decide +kernel
theorem dX3_takeStuff_9 : decode cX3_takeStuff 9 = .ok (.getfield 105, 3) := by decide +kernel
set_option maxRecDepth 20000 in
theorem ggX3_takeStuff_X3_toldHere : GoodIn wsX3_takeStuff wsX3_toldHere := gup gc_X3_toldHere
set_option maxRecDepth 20000 in
theorem gX3_takeStuff_X3_toldHere : GoodIn wsX3_takeStuff (wsV RX3 136 RX3 yX3_toldHere wsX3_toldHere) := gup (glV hw_450 hw_451 hw_452 hw_440 gc_X3_toldHere)
theorem dX3_takeStuff_12 : decode cX3_takeStuff 12 = .ok (.invokevirtual 136, 3) := by decide +kernel
theorem dX3_takeStuff_15 : decode cX3_takeStuff 15 = .ok (.istore_n 1, 1) := by decide +kernel
theorem dX3_takeStuff_16 : decode cX3_takeStuff 16 = .ok (.aload_n 0, 1) := by decide +kernel
set_option maxRecDepth 20000 in
theorem ggX3_takeStuff_X3_advance : GoodIn wsX3_takeStuff wsX3_advance := gup gc_X3_advance
set_option maxRecDepth 20000 in
theorem gX3_takeStuff_X3_advance : GoodIn wsX3_takeStuff (wsV RX3 60 RX3 yX3_advance wsX3_advance) := gup (glV hw_437 hw_438 hw_439 hw_440 gc_X3_advance)
theorem dX3_takeStuff_17 : decode cX3_takeStuff 17 = .ok (.invokevirtual 60, 3) := by decide +kernel
theorem dX3_takeStuff_20 : decode cX3_takeStuff 20 = .ok (.iload_n 1, 1) := by decide +kernel
theorem dX3_takeStuff_21 : decode cX3_takeStuff 21 = .ok (.ireturn, 1) := by decide +kernel
theorem dX3_takeCell_0 : decode cX3_takeCell 0 = .ok (.aload_n 0, 1) := by decide +kernel
theorem dX3_takeCell_1 : decode cX3_takeCell 1 = .ok (.aload_n 0, 1) := by decide +kernel
theorem dX3_takeCell_2 : decode cX3_takeCell 2 = .ok (.getfield 15, 3) := by decide +kernel
theorem dX3_takeCell_5 : decode cX3_takeCell 5 = .ok (.aload_n 0, 1) := by decide +kernel
theorem dX3_takeCell_6 : decode cX3_takeCell 6 = .ok (.getfield 35, 3) := by decide +kernel
theorem dX3_takeCell_9 : decode cX3_takeCell 9 = .ok (.getfield 128, 3) := by decide +kernel
set_option maxRecDepth 20000 in
theorem ggX3_takeCell_X3_toldHere : GoodIn wsX3_takeCell wsX3_toldHere := gup gc_X3_toldHere
set_option maxRecDepth 20000 in
theorem gX3_takeCell_X3_toldHere : GoodIn wsX3_takeCell (wsV RX3 136 RX3 yX3_toldHere wsX3_toldHere) := gup (glV hw_450 hw_451 hw_452 hw_440 gc_X3_toldHere)
theorem dX3_takeCell_12 : decode cX3_takeCell 12 = .ok (.invokevirtual 136, 3) := by decide +kernel
theorem dX3_takeCell_15 : decode cX3_takeCell 15 = .ok (.istore_n 1, 1) := by decide +kernel
theorem dX3_takeCell_16 : decode cX3_takeCell 16 = .ok (.aload_n 0, 1) := by decide +kernel
set_option maxRecDepth 20000 in
theorem ggX3_takeCell_X3_advance : GoodIn wsX3_takeCell wsX3_advance := gup gc_X3_advance
set_option maxRecDepth 20000 in
theorem gX3_takeCell_X3_advance : GoodIn wsX3_takeCell (wsV RX3 60 RX3 yX3_advance wsX3_advance) := gup (glV hw_437 hw_438 hw_439 hw_440 gc_X3_advance)
theorem dX3_takeCell_17 : decode cX3_takeCell 17 = .ok (.invokevirtual 60, 3) := by decide +kernel
theorem dX3_takeCell_20 : decode cX3_takeCell 20 = .ok (.iload_n 1, 1) := by decide +kernel
theorem dX3_takeCell_21 : decode cX3_takeCell 21 = .ok (.ireturn, 1) := by decide +kernel
theorem dX3_isGiven_2 : decode cX3_isGiven 2 = .ok (.iload_n 2, 1) := by decide +kernel
theorem dX3_isGiven_3 : decode cX3_isGiven 3 = .ok (.aload_n 0, 1) := by decide +kernel
theorem dX3_isGiven_4 : decode cX3_isGiven 4 = .ok (.getfield 35, 3) := by decide +kernel
theorem dX3_isGiven_7 : decode cX3_isGiven 7 = .ok (.getfield 133, 3) := by decide +kernel
theorem dX3_isGiven_10 : decode cX3_isGiven 10 = .ok (.if_icmp .ge 24, 3) := by decide +kernel
theorem dX3_isGiven_34 : decode cX3_isGiven 34 = .ok (.iconst 0, 1) := by decide +kernel
theorem dX3_isGiven_13 : decode cX3_isGiven 13 = .ok (.aload_n 0, 1) := by decide +kernel
theorem dX3_isGiven_14 : decode cX3_isGiven 14 = .ok (.getfield 35, 3) := by decide +kernel
theorem dX3_isGiven_17 : decode cX3_isGiven 17 = .ok (.getfield 151, 3) := by decide +kernel
theorem dX3_isGiven_20 : decode cX3_isGiven 20 = .ok (.iload_n 2, 1) := by decide +kernel
theorem dX3_isGiven_21 : decode cX3_isGiven 21 = .ok (.iaload, 1) := by decide +kernel
theorem dX3_isGiven_22 : decode cX3_isGiven 22 = .ok (.iload_n 1, 1) := by decide +kernel
theorem dX3_isGiven_23 : decode cX3_isGiven 23 = .ok (.if_icmp .ne 5, 3) := by decide +kernel
theorem dX3_isGiven_28 : decode cX3_isGiven 28 = .ok (.iinc 2 1, 3) := by decide +kernel
theorem dX3_isGiven_31 : decode cX3_isGiven 31 = .ok (.goto (-29), 3) := by decide +kernel
theorem dX3_isGiven_26 : decode cX3_isGiven 26 = .ok (.iconst 1, 1) := by decide +kernel
theorem dX3_isGiven_0 : decode cX3_isGiven 0 = .ok (.iconst 0, 1) := by decide +kernel
theorem dX3_isGiven_1 : decode cX3_isGiven 1 = .ok (.istore_n 2, 1) := by decide +kernel
theorem dX3_isGiven_27 : decode cX3_isGiven 27 = .ok (.ireturn, 1) := by decide +kernel
theorem dX3_isGiven_35 : decode cX3_isGiven 35 = .ok (.ireturn, 1) := by decide +kernel
def rob (ad : Nat → Nat) (ra : Nat → Nat) (x0 : Nat) (x4 : Int32) (x5 : Nat) (x6 : Int32) (x7 : Nat) (x8 : Int32) (x9 : Int64) (x10 : Int32) : List Value := [.ref x0, .ref (ra 0), .ref (ra 1), .ref (ra 2), .int x4, .ref x5, .int x6, .ref (ad x7), .int x8, .long x9, .int x10]

def wp_X3_beginsPart (xt : Nat)  (Φ : Int32 → Prop) : Prop := xt < 31 ∧ (xt = 2 → Φ 1 ) ∧ (¬ xt = 2 → xt < 31 ∧ (xt = 3 → Φ 1 ) ∧ (¬ xt = 3 → xt < 31 ∧ (xt = 4 → Φ 1 ) ∧ (¬ xt = 4 → xt < 31 ∧ (xt = 27 → Φ 1 ) ∧ (¬ xt = 27 → xt < 31 ∧ (¬ xt = 28 → Φ 0 ) ∧ (xt = 28 → Φ 1 )))))
set_option maxHeartbeats 4000000 in
set_option maxRecDepth 100000 in
theorem kj_X3_beginsPart_e {p : Program} {l : Launch} {e : Env} {R : Room} {s : State} {m : MethodId} {args : Array Value} {below : List Frame} {meth : Method} {c : Code} {cells slots : Nat} {Q : State → Prop} {A : Nat → Prop} {D : va_G} {ak : Nat → ClassId} {ad : Nat → Nat} (hx : p.tables.exec = Jvm.exec) (hb : c.code = cX3_beginsPart) (hown : s.vm.findClass RX3 = some m.cls) (hts : ∀ w ∈ wsX3_beginsPart, w.before args s = true) (hml : c.maxLocals = 1) (hE : EV D ak s) (hT : ST D ak ad A s s.heap) (hA : ∀ q, s.heap.size ≤ q → A q) (xt : Nat)  (Φ : Int32 → Prop)
    (kR40 : ∀ (r : Int32)  (H : Heap) (locs : List Loc) (ls : Array Slot), (r = 0 ∨ r = 1) → Φ r  → va_P D vwCl [] H → va_D A [] → va_S A s.heap H locs → W p l e R s m args below meth c H locs cells slots Q (F0 m 40 ls [.int r]))
    : ∀  (H : Heap) (locs : List Loc) (ls : Array Slot), wp_X3_beginsPart xt  Φ → va_P D vwCl [] H → va_D A [] → va_S A s.heap H locs → lv_has ls 1 [(0, .ref (ad xt))] → W p l e R s m args below meth c H locs cells slots Q (F0 m 0 ls ([])) := by
  intro  H locs ls hw hP hD hS hl
  delta wp_X3_beginsPart at hw
  refine lv_aload_n hx hb dX3_beginsPart_0 rfl (lv_at hl 0 rfl) ?_
  refine va_gets hx hb (hT.1 2 (by decide)).1 hS hown (hts (.fieldLink RX3 228 "WornLines$Token" "A_NUMBER" "LWornLines$Token;") (wm_c hw_419)) (fun _ h9 => h9) dX3_beginsPart_1 ?_
  obtain ⟨h_1, hw⟩ := hw
  refine W.eq (g2 := F0 m 4 ls (va_rf (some (ad 2)) :: va_rf (some (ad xt)) :: [])) rfl ?_
  refine lv_acmp_eq (tgt := 35) hx hb dX3_beginsPart_4 (by decide) (fun c_2 => ?_) (fun c_2 => ?_)
  · replace hw := hw.1 (tok_inj hT h_1 (by decide) c_2)
    refine lv_iconst (v := 1) hx hb dX3_beginsPart_35 (by decide) ?_
    refine lv_goto (tgt := 40) hx hb dX3_beginsPart_36 (by decide) ?_
    exact kR40 1  _ _ _ (Or.inr rfl) hw hP hD hS
  · replace hw := hw.2 (fun h9 => c_2 (by rw [h9]))
    refine lv_aload_n hx hb dX3_beginsPart_7 rfl (lv_at hl 0 rfl) ?_
    refine va_gets hx hb (hT.1 3 (by decide)).1 hS hown (hts (.fieldLink RX3 217 "WornLines$Token" "A_NAME" "LWornLines$Token;") (wm_c hw_420)) (fun _ h9 => h9) dX3_beginsPart_8 ?_
    obtain ⟨h_3, hw⟩ := hw
    refine W.eq (g2 := F0 m 11 ls (va_rf (some (ad 3)) :: va_rf (some (ad xt)) :: [])) rfl ?_
    refine lv_acmp_eq (tgt := 35) hx hb dX3_beginsPart_11 (by decide) (fun c_4 => ?_) (fun c_4 => ?_)
    · replace hw := hw.1 (tok_inj hT h_3 (by decide) c_4)
      refine lv_iconst (v := 1) hx hb dX3_beginsPart_35 (by decide) ?_
      refine lv_goto (tgt := 40) hx hb dX3_beginsPart_36 (by decide) ?_
      exact kR40 1  _ _ _ (Or.inr rfl) hw hP hD hS
    · replace hw := hw.2 (fun h9 => c_4 (by rw [h9]))
      refine lv_aload_n hx hb dX3_beginsPart_14 rfl (lv_at hl 0 rfl) ?_
      refine va_gets hx hb (hT.1 4 (by decide)).1 hS hown (hts (.fieldLink RX3 231 "WornLines$Token" "OPEN" "LWornLines$Token;") (wm_c hw_421)) (fun _ h9 => h9) dX3_beginsPart_15 ?_
      obtain ⟨h_5, hw⟩ := hw
      refine W.eq (g2 := F0 m 18 ls (va_rf (some (ad 4)) :: va_rf (some (ad xt)) :: [])) rfl ?_
      refine lv_acmp_eq (tgt := 35) hx hb dX3_beginsPart_18 (by decide) (fun c_6 => ?_) (fun c_6 => ?_)
      · replace hw := hw.1 (tok_inj hT h_5 (by decide) c_6)
        refine lv_iconst (v := 1) hx hb dX3_beginsPart_35 (by decide) ?_
        refine lv_goto (tgt := 40) hx hb dX3_beginsPart_36 (by decide) ?_
        exact kR40 1  _ _ _ (Or.inr rfl) hw hP hD hS
      · replace hw := hw.2 (fun h9 => c_6 (by rw [h9]))
        refine lv_aload_n hx hb dX3_beginsPart_21 rfl (lv_at hl 0 rfl) ?_
        refine va_gets hx hb (hT.1 27 (by decide)).1 hS hown (hts (.fieldLink RX3 237 "WornLines$Token" "WORN_WORD" "LWornLines$Token;") (wm_c hw_422)) (fun _ h9 => h9) dX3_beginsPart_22 ?_
        obtain ⟨h_7, hw⟩ := hw
        refine W.eq (g2 := F0 m 25 ls (va_rf (some (ad 27)) :: va_rf (some (ad xt)) :: [])) rfl ?_
        refine lv_acmp_eq (tgt := 35) hx hb dX3_beginsPart_25 (by decide) (fun c_8 => ?_) (fun c_8 => ?_)
        · replace hw := hw.1 (tok_inj hT h_7 (by decide) c_8)
          refine lv_iconst (v := 1) hx hb dX3_beginsPart_35 (by decide) ?_
          refine lv_goto (tgt := 40) hx hb dX3_beginsPart_36 (by decide) ?_
          exact kR40 1  _ _ _ (Or.inr rfl) hw hP hD hS
        · replace hw := hw.2 (fun h9 => c_8 (by rw [h9]))
          refine lv_aload_n hx hb dX3_beginsPart_28 rfl (lv_at hl 0 rfl) ?_
          refine va_gets hx hb (hT.1 28 (by decide)).1 hS hown (hts (.fieldLink RX3 240 "WornLines$Token" "NOT_WORD" "LWornLines$Token;") (wm_c hw_423)) (fun _ h9 => h9) dX3_beginsPart_29 ?_
          obtain ⟨h_9, hw⟩ := hw
          refine W.eq (g2 := F0 m 32 ls (va_rf (some (ad 28)) :: va_rf (some (ad xt)) :: [])) rfl ?_
          refine lv_acmp_ne (tgt := 39) hx hb dX3_beginsPart_32 (by decide) (fun c_10 => ?_) (fun c_10 => ?_)
          · replace hw := hw.1 (fun h9 => c_10 (by rw [h9]))
            refine lv_iconst (v := 0) hx hb dX3_beginsPart_39 (by decide) ?_
            exact kR40 0  _ _ _ (Or.inl rfl) hw hP hD hS
          · replace hw := hw.2 (tok_inj hT h_9 (by decide) c_10)
            refine lv_iconst (v := 1) hx hb dX3_beginsPart_35 (by decide) ?_
            refine lv_goto (tgt := 40) hx hb dX3_beginsPart_36 (by decide) ?_
            exact kR40 1  _ _ _ (Or.inr rfl) hw hP hD hS
set_option maxHeartbeats 4000000 in
set_option maxRecDepth 100000 in
theorem c_X3_beginsPart (l : Launch) (D : va_G) (ak : Nat → ClassId) (ad : Nat → Nat) (sz : Nat) (xt : Nat) (Φ : Int32 → Prop) (hf : wp_X3_beginsPart xt Φ) : Met l yX3_beginsPart wsX3_beginsPart ({ frames := 0, cells := 0, slots := 0, locals := 0 }) (cPre D ak ad [.ref (ad xt)] ([]) sz) (cI D (S := Unit) (fun (r : Int32) (u : Unit) => Φ r ) (fun u => []) ([]) sz) 0 0 (va_A ([]) sz) := by
  refine Met.ofW (cc := cX3_beginsPart) (maxL := 1) (ret := (some .boolean)) (by decide) rfl ?_
  intro p e s m args below meth c s₁ B hml hv
  obtain ⟨rfl, hsz, hP, hE, hD0, hT⟩ := hv
  have hx := B.exec
  have hb := B.bytes
  have hr := B.returns
  have hts := atoms_spec (ws := wsX3_beginsPart) B.pre
  have hown : s.vm.findClass RX3 = some m.cls := findClass_of_methodNamed B.named
  have hlocks := B.notSynchronized
  subst hsz
  have hD := hD0.self (sz := s.heap.size)
  generalize hAe : va_A ([]) s.heap.size = A at hD hT ⊢
  have hA : ∀ q : Nat, s.heap.size ≤ q → A q := fun q h => by rw [← hAe]; exact Or.inr h
  have hS : va_S A s.heap s.heap [] := va_S.rf
  have hl := lv_entry ([.ref (ad xt)]) (n := 1) (Nat.le_of_ble_eq_true rfl)
  rw [lg_entry_eq]
  generalize (lg_sl ([.ref (ad xt)]) ++ List.replicate (1 - (lg_sl ([.ref (ad xt)])).length) Slot.unset).toArray = ls at hl ⊢
  have hl : lv_has ls 1 [(0, .ref (ad xt))] := hl
  exact kj_X3_beginsPart_e hx hb hown hts hml hE hT hA xt Φ (fun r  H locs ls hz hw hP hD hS => W.zret (v := r) hx hb hr (bl_zn hz) (fun t ht hW => ⟨⟨r, (), rfl, hw, by rw [ht]; exact hP, by rw [hAe]; exact hD⟩, by rw [hAe]; exact hS.F ht⟩) hS.2.2 dX3_beginsPart_40)  _ _ _ hf hP hD hS hl

def wW_X3_put (ak : Nat → ClassId) (ad : Nat → Nat) (hr_ : Nat) (ra : Nat → Nat) (ht : Nat) (pg : Nat) (Rcoded : Int32) (Rtaken : Int32) (Rtoken : Nat) (Rplace : Int32) (Rvalue : Int64) (Rfault : Int32) (Rcode : Nat → Int32) : va_W := [(hr_, .inr (3, rob ad ra (ht) (Rcoded) (pg) (Rtaken) (Rtoken) (Rplace) (Rvalue) (Rfault))), ((ra 2), .inl (ak 0, 1000, .inl (Rcode)))]
def wp_X3_put (xo : Int32) (xa : Int32) (Rcoded : Int32) (Rcode : Nat → Int32) (Φ : Int32 → (Nat → Int32) → Prop) : Prop := (1000 ≤ Rcoded → Φ Rcoded Rcode) ∧ (¬ 1000 ≤ Rcoded → vp_in Rcoded 1000 ∧ Φ (Rcoded + 1) (upd Rcode (Rcoded).toNatClampNeg ((xo + (16 * xa)))))
set_option maxHeartbeats 4000000 in
set_option maxRecDepth 100000 in
theorem kj_X3_put_e {p : Program} {l : Launch} {e : Env} {R : Room} {s : State} {m : MethodId} {args : Array Value} {below : List Frame} {meth : Method} {c : Code} {cells slots : Nat} {Q : State → Prop} {A : Nat → Prop} {D : va_G} {ak : Nat → ClassId} {ad : Nat → Nat} (hx : p.tables.exec = Jvm.exec) (hb : c.code = cX3_put) (hown : s.vm.findClass RX3 = some m.cls) (hts : ∀ w ∈ wsX3_put, w.before args s = true) (hml : c.maxLocals = 3) (hE : EV D ak s) (hT : ST D ak ad A s s.heap) (hA : ∀ q, s.heap.size ≤ q → A q) (hr_ : Nat) (ra : Nat → Nat) (ht : Nat) (pg : Nat) (Rtaken : Int32) (Rtoken : Nat) (Rplace : Int32) (Rvalue : Int64) (Rfault : Int32) (xo : Int32) (xa : Int32)  (Φ : Int32 → (Nat → Int32) → Prop)
    (kR37 : ∀ (Rcoded : Int32) (Rcode : Nat → Int32) (H : Heap) (locs : List Loc) (ls : Array Slot), Φ Rcoded Rcode → va_P D vwCl (wW_X3_put ak ad hr_ ra ht pg Rcoded Rtaken Rtoken Rplace Rvalue Rfault Rcode) H → va_D A (wW_X3_put ak ad hr_ ra ht pg Rcoded Rtaken Rtoken Rplace Rvalue Rfault Rcode) → va_S A s.heap H locs → W p l e R s m args below meth c H locs cells slots Q (F0 m 37 ls []))
    : ∀ (Rcoded : Int32) (Rcode : Nat → Int32) (H : Heap) (locs : List Loc) (ls : Array Slot), wp_X3_put xo xa Rcoded Rcode Φ → va_P D vwCl (wW_X3_put ak ad hr_ ra ht pg Rcoded Rtaken Rtoken Rplace Rvalue Rfault Rcode) H → va_D A (wW_X3_put ak ad hr_ ra ht pg Rcoded Rtaken Rtoken Rplace Rvalue Rfault Rcode) → va_S A s.heap H locs → lv_has ls 3 [(0, .ref hr_), (1, .int (xo)), (2, .int (xa))] → W p l e R s m args below meth c H locs cells slots Q (F0 m 0 ls ([])) := by
  intro Rcoded Rcode H locs ls hw hP hD hS hl
  delta wp_X3_put at hw
  refine lv_aload_n hx hb dX3_put_0 rfl (lv_at hl 0 rfl) ?_
  refine vt_get (D := D) (ci := 3) (v := .int (Rcoded)) (C := RX3) (T := TX3) (N := 11) hx hb hts (fun w h => wm_c (wc_X3 w h)) hown hE.1 hP 0 rfl rfl 4 (by decide) tX3_4 (hts (.fieldLink RX3 51 "WornLines$Reader" "coded" "I") (wm_c hw_424)) (fun _ h9 => h9) rfl dX3_put_1 ?_
  refine lv_aload_n hx hb dX3_put_4 rfl (lv_at hl 0 rfl) ?_
  refine vt_get (D := D) (ci := 3) (v := .ref (ra 2)) (C := RX3) (T := TX3) (N := 11) hx hb hts (fun w h => wm_c (wc_X3 w h)) hown hE.1 hP 0 rfl rfl 3 (by decide) tX3_3 (hts (.fieldLink RX3 18 "WornLines$Reader" "code" "[I") (wm_c hw_288)) (fun _ h9 => h9) rfl dX3_put_5 ?_
  refine va_alen hx hb hE.1 hP 1 0 rfl rfl (v := 1000) rfl dX3_put_8 ?_
  refine lv_icmp_ge (tgt := 37) hx hb dX3_put_9 (by decide) (fun c_1 => ?_) (fun c_1 => ?_)
  · replace hw := hw.1 c_1
    exact kR37 Rcoded Rcode _ _ _ hw hP hD hS
  · replace hw := hw.2 c_1
    refine lv_aload_n hx hb dX3_put_12 rfl (lv_at hl 0 rfl) ?_
    refine vt_get (D := D) (ci := 3) (v := .ref (ra 2)) (C := RX3) (T := TX3) (N := 11) hx hb hts (fun w h => wm_c (wc_X3 w h)) hown hE.1 hP 0 rfl rfl 3 (by decide) tX3_3 (hts (.fieldLink RX3 18 "WornLines$Reader" "code" "[I") (wm_c hw_288)) (fun _ h9 => h9) rfl dX3_put_13 ?_
    refine lv_aload_n hx hb dX3_put_16 rfl (lv_at hl 0 rfl) ?_
    refine vt_get (D := D) (ci := 3) (v := .int (Rcoded)) (C := RX3) (T := TX3) (N := 11) hx hb hts (fun w h => wm_c (wc_X3 w h)) hown hE.1 hP 0 rfl rfl 4 (by decide) tX3_4 (hts (.fieldLink RX3 51 "WornLines$Reader" "coded" "I") (wm_c hw_424)) (fun _ h9 => h9) rfl dX3_put_17 ?_
    refine lv_iload_n hx hb dX3_put_20 rfl (lv_at hl 1 rfl) ?_
    refine lv_bipush (v := 16) hx hb dX3_put_21 (by decide) ?_
    refine lv_iload_n hx hb dX3_put_23 rfl (lv_at hl 2 rfl) ?_
    refine lv_imul hx hb dX3_put_24 ?_
    refine lv_iadd hx hb dX3_put_25 ?_
    obtain ⟨h_2, hw⟩ := hw
    refine va_iast hx hb hE.1 hP hD hS 1 0 rfl rfl (h_2) dX3_put_26 (fun H locs hP hD hS => ?_)
    have hP : va_P D vwCl (wW_X3_put ak ad hr_ ra ht pg Rcoded Rtaken Rtoken Rplace Rvalue Rfault (upd Rcode (Rcoded).toNatClampNeg ((xo + (16 * xa))))) H := hP
    have hD : va_D A (wW_X3_put ak ad hr_ ra ht pg Rcoded Rtaken Rtoken Rplace Rvalue Rfault (upd Rcode (Rcoded).toNatClampNeg ((xo + (16 * xa))))) := hD
    refine lv_aload_n hx hb dX3_put_27 rfl (lv_at hl 0 rfl) ?_
    refine lv_dup hx hb dX3_put_28 rfl ?_
    refine vt_get (D := D) (ci := 3) (v := .int (Rcoded)) (C := RX3) (T := TX3) (N := 11) hx hb hts (fun w h => wm_c (wc_X3 w h)) hown hE.1 hP 0 rfl rfl 4 (by decide) tX3_4 (hts (.fieldLink RX3 51 "WornLines$Reader" "coded" "I") (wm_c hw_424)) (fun _ h9 => h9) rfl dX3_put_29 ?_
    refine lv_iconst (v := 1) hx hb dX3_put_32 (by decide) ?_
    refine lv_iadd hx hb dX3_put_33 ?_
    refine vt_put (D := D) (ci := 3) (v := .int (Rcoded + 1)) (ty := .int) (C := RX3) (T := TX3) (N := 11) hx hb hts (fun w h => wm_c (wc_X3 w h)) tyX3 tyX3_ok nmX3 hown hE.1 hP hD hS 0 rfl rfl 4 (by decide) tX3_4 (hts (.fieldLink RX3 51 "WornLines$Reader" "coded" "I") (wm_c hw_424)) (fun _ h9 => h9) rfl pf_0 (rfl) rfl (Nat.le_of_ble_eq_true rfl) dX3_put_34 (fun H locs hP hD hS => ?_)
    have hP : va_P D vwCl (wW_X3_put ak ad hr_ ra ht pg (Rcoded + 1) Rtaken Rtoken Rplace Rvalue Rfault (upd Rcode (Rcoded).toNatClampNeg ((xo + (16 * xa))))) H := hP
    have hD : va_D A (wW_X3_put ak ad hr_ ra ht pg (Rcoded + 1) Rtaken Rtoken Rplace Rvalue Rfault (upd Rcode (Rcoded).toNatClampNeg ((xo + (16 * xa))))) := hD
    exact kR37 (Rcoded + 1) (upd Rcode (Rcoded).toNatClampNeg ((xo + (16 * xa)))) _ _ _ hw hP hD hS
set_option maxHeartbeats 4000000 in
set_option maxRecDepth 100000 in
theorem c_X3_put (l : Launch) (D : va_G) (ak : Nat → ClassId) (ad : Nat → Nat) (sz : Nat) (hr_ : Nat) (ra : Nat → Nat) (ht : Nat) (pg : Nat) (Rcoded : Int32) (Rtaken : Int32) (Rtoken : Nat) (Rplace : Int32) (Rvalue : Int64) (Rfault : Int32) (Rcode : Nat → Int32) (xo : Int32) (xa : Int32) (Φ : Int32 → (Nat → Int32) → Prop) (hf : wp_X3_put xo xa Rcoded Rcode Φ) : Met l yX3_put wsX3_put ({ frames := 0, cells := 0, slots := 0, locals := 0 }) (cPre D ak ad [.ref hr_, .int (xo), .int (xa)] ((wW_X3_put ak ad hr_ ra ht pg Rcoded Rtaken Rtoken Rplace Rvalue Rfault Rcode)) sz) (cV D (S := (Int32) × (Nat → Int32)) (fun (u : (Int32) × (Nat → Int32)) => Φ u.1 u.2) (fun u => (wW_X3_put ak ad hr_ ra ht pg u.1 Rtaken Rtoken Rplace Rvalue Rfault u.2)) ((wW_X3_put ak ad hr_ ra ht pg Rcoded Rtaken Rtoken Rplace Rvalue Rfault Rcode)) sz) 0 0 (va_A ((wW_X3_put ak ad hr_ ra ht pg Rcoded Rtaken Rtoken Rplace Rvalue Rfault Rcode)) sz) := by
  refine Met.ofW (cc := cX3_put) (maxL := 3) (ret := none) (by decide) rfl ?_
  intro p e s m args below meth c s₁ B hml hv
  obtain ⟨rfl, hsz, hP, hE, hD0, hT⟩ := hv
  have hx := B.exec
  have hb := B.bytes
  have hr := B.returns
  have hts := atoms_spec (ws := wsX3_put) B.pre
  have hown : s.vm.findClass RX3 = some m.cls := findClass_of_methodNamed B.named
  have hlocks := B.notSynchronized
  subst hsz
  have hD := hD0.self (sz := s.heap.size)
  generalize hAe : va_A ((wW_X3_put ak ad hr_ ra ht pg Rcoded Rtaken Rtoken Rplace Rvalue Rfault Rcode)) s.heap.size = A at hD hT ⊢
  have hA : ∀ q : Nat, s.heap.size ≤ q → A q := fun q h => by rw [← hAe]; exact Or.inr h
  have hS : va_S A s.heap s.heap [] := va_S.rf
  have hl := lv_entry ([.ref hr_, .int (xo), .int (xa)]) (n := 3) (Nat.le_of_ble_eq_true rfl)
  rw [lg_entry_eq]
  generalize (lg_sl ([.ref hr_, .int (xo), .int (xa)]) ++ List.replicate (3 - (lg_sl ([.ref hr_, .int (xo), .int (xa)])).length) Slot.unset).toArray = ls at hl ⊢
  have hl : lv_has ls 3 [(0, .ref hr_), (1, .int (xo)), (2, .int (xa))] := hl
  exact kj_X3_put_e hx hb hown hts hml hE hT hA hr_ ra ht pg Rtaken Rtoken Rplace Rvalue Rfault xo xa Φ (fun Rcoded Rcode H locs ls hw hP hD hS => W.vret hx hb hr (fun t ht hW => ⟨⟨(Rcoded, Rcode), rfl, hw, by rw [ht]; exact hP, by rw [hAe]; exact hD⟩, by rw [hAe]; exact hS.F ht⟩) hS.2.2 dX3_put_37) Rcoded Rcode _ _ _ hf hP hD hS hl

def wW_X3_advance (ak : Nat → ClassId) (ad : Nat → Nat) (hr_ : Nat) (ra : Nat → Nat) (ht : Nat) (ta : Nat → Nat) (pg : Nat) (Rcoded : Int32) (Rtaken : Int32) (Rtoken : Nat) (Rplace : Int32) (Rvalue : Int64) (Rfault : Int32) (Tlen : Int32) (Tcnt : Int32) (Ttoks : Nat → Nat) (Tplc : Nat → Int32) (Tvals : Nat → Int64) : va_W := [(hr_, .inr (3, rob ad ra (ht) (Rcoded) (pg) (Rtaken) (Rtoken) (Rplace) (Rvalue) (Rfault))), (ht, .inr (5, tob ta (Tlen) (Tcnt))), ((ta 1), .inl (ak 4, 1001, .inr (.inr (.inr (.inr (tokA ad (Ttoks))))))), ((ta 2), .inl (ak 0, 1001, .inl (Tplc))), ((ta 3), .inl (ak 1, 1001, .inr (.inl (Tvals))))]
def wp_X3_advance (Tcnt : Int32) (Ttoks : Nat → Nat) (Tplc : Nat → Int32) (Tvals : Nat → Int64) (Rtaken : Int32) (Rtoken : Nat) (Rplace : Int32) (Rvalue : Int64) (Φ : Int32 → Nat → Int32 → Int64 → Prop) : Prop := (Tcnt ≤ Rtaken → Φ Rtaken Rtoken Rplace Rvalue) ∧ (¬ Tcnt ≤ Rtaken → vp_in Rtaken 1001 ∧ Ttoks (Rtaken).toNatClampNeg < 31 ∧ vp_in Rtaken 1001 ∧ vp_in Rtaken 1001 ∧ Φ (Rtaken + 1) (Ttoks (Rtaken).toNatClampNeg) (Tplc (Rtaken).toNatClampNeg) (Tvals (Rtaken).toNatClampNeg))
set_option maxHeartbeats 4000000 in
set_option maxRecDepth 100000 in
theorem kj_X3_advance_e {p : Program} {l : Launch} {e : Env} {R : Room} {s : State} {m : MethodId} {args : Array Value} {below : List Frame} {meth : Method} {c : Code} {cells slots : Nat} {Q : State → Prop} {A : Nat → Prop} {D : va_G} {ak : Nat → ClassId} {ad : Nat → Nat} (hx : p.tables.exec = Jvm.exec) (hb : c.code = cX3_advance) (hown : s.vm.findClass RX3 = some m.cls) (hts : ∀ w ∈ wsX3_advance, w.before args s = true) (hml : c.maxLocals = 1) (hE : EV D ak s) (hT : ST D ak ad A s s.heap) (hA : ∀ q, s.heap.size ≤ q → A q) (hr_ : Nat) (ra : Nat → Nat) (ht : Nat) (ta : Nat → Nat) (pg : Nat) (Rcoded : Int32) (Rfault : Int32) (Tlen : Int32) (Tcnt : Int32) (Ttoks : Nat → Nat) (Tplc : Nat → Int32) (Tvals : Nat → Int64)  (Φ : Int32 → Nat → Int32 → Int64 → Prop)
    (kR72 : ∀ (Rtaken : Int32) (Rtoken : Nat) (Rplace : Int32) (Rvalue : Int64) (H : Heap) (locs : List Loc) (ls : Array Slot), Φ Rtaken Rtoken Rplace Rvalue → va_P D vwCl (wW_X3_advance ak ad hr_ ra ht ta pg Rcoded Rtaken Rtoken Rplace Rvalue Rfault Tlen Tcnt Ttoks Tplc Tvals) H → va_D A (wW_X3_advance ak ad hr_ ra ht ta pg Rcoded Rtaken Rtoken Rplace Rvalue Rfault Tlen Tcnt Ttoks Tplc Tvals) → va_S A s.heap H locs → W p l e R s m args below meth c H locs cells slots Q (F0 m 72 ls []))
    : ∀ (Rtaken : Int32) (Rtoken : Nat) (Rplace : Int32) (Rvalue : Int64) (H : Heap) (locs : List Loc) (ls : Array Slot), wp_X3_advance Tcnt Ttoks Tplc Tvals Rtaken Rtoken Rplace Rvalue Φ → va_P D vwCl (wW_X3_advance ak ad hr_ ra ht ta pg Rcoded Rtaken Rtoken Rplace Rvalue Rfault Tlen Tcnt Ttoks Tplc Tvals) H → va_D A (wW_X3_advance ak ad hr_ ra ht ta pg Rcoded Rtaken Rtoken Rplace Rvalue Rfault Tlen Tcnt Ttoks Tplc Tvals) → va_S A s.heap H locs → lv_has ls 1 [(0, .ref hr_)] → W p l e R s m args below meth c H locs cells slots Q (F0 m 0 ls ([])) := by
  intro Rtaken Rtoken Rplace Rvalue H locs ls hw hP hD hS hl
  delta wp_X3_advance at hw
  refine lv_aload_n hx hb dX3_advance_0 rfl (lv_at hl 0 rfl) ?_
  refine vt_get (D := D) (ci := 3) (v := .int (Rtaken)) (C := RX3) (T := TX3) (N := 11) hx hb hts (fun w h => wm_c (wc_X3 w h)) hown hE.1 hP 0 rfl rfl 6 (by decide) tX3_6 (hts (.fieldLink RX3 57 "WornLines$Reader" "taken" "I") (wm_c hw_425)) (fun _ h9 => h9) rfl dX3_advance_1 ?_
  refine lv_aload_n hx hb dX3_advance_4 rfl (lv_at hl 0 rfl) ?_
  refine vt_get (D := D) (ci := 3) (v := .ref ht) (C := RX3) (T := TX3) (N := 11) hx hb hts (fun w h => wm_c (wc_X3 w h)) hown hE.1 hP 0 rfl rfl 0 (by decide) tX3_0 (hts (.fieldLink RX3 31 "WornLines$Reader" "tape" "LWornLines$Tape;") (wm_c hw_291)) (fun _ h9 => h9) rfl dX3_advance_5 ?_
  refine va_get (D := D) (ci := 5) (v := .int (Tcnt)) (C := RX5) (T := TX5) (N := 6) hx hb hts (fun w h => wm_c (wc_X5 w h)) hown hE.1 hP 1 rfl rfl 5 (by decide) (hts (.fieldLink RX3 243 "WornLines$Tape" "count" "I") (wm_c hw_426)) (fun _ h9 => h9) rfl dX3_advance_8 ?_
  refine lv_icmp_ge (tgt := 72) hx hb dX3_advance_11 (by decide) (fun c_1 => ?_) (fun c_1 => ?_)
  · replace hw := hw.1 c_1
    exact kR72 Rtaken Rtoken Rplace Rvalue _ _ _ hw hP hD hS
  · replace hw := hw.2 c_1
    refine lv_aload_n hx hb dX3_advance_14 rfl (lv_at hl 0 rfl) ?_
    refine lv_aload_n hx hb dX3_advance_15 rfl (lv_at hl 0 rfl) ?_
    refine vt_get (D := D) (ci := 3) (v := .ref ht) (C := RX3) (T := TX3) (N := 11) hx hb hts (fun w h => wm_c (wc_X3 w h)) hown hE.1 hP 0 rfl rfl 0 (by decide) tX3_0 (hts (.fieldLink RX3 31 "WornLines$Reader" "tape" "LWornLines$Tape;") (wm_c hw_291)) (fun _ h9 => h9) rfl dX3_advance_16 ?_
    refine vt_get (D := D) (ci := 5) (v := .ref (ta 1)) (C := RX5) (T := TX5) (N := 6) hx hb hts (fun w h => wm_c (wc_X5 w h)) hown hE.1 hP 1 rfl rfl 2 (by decide) tX5_2 (hts (.fieldLink RX3 246 "WornLines$Tape" "tokens" "[LWornLines$Token;") (wm_c hw_427)) (fun _ h9 => h9) rfl dX3_advance_19 ?_
    refine lv_aload_n hx hb dX3_advance_22 rfl (lv_at hl 0 rfl) ?_
    refine vt_get (D := D) (ci := 3) (v := .int (Rtaken)) (C := RX3) (T := TX3) (N := 11) hx hb hts (fun w h => wm_c (wc_X3 w h)) hown hE.1 hP 0 rfl rfl 6 (by decide) tX3_6 (hts (.fieldLink RX3 57 "WornLines$Reader" "taken" "I") (wm_c hw_425)) (fun _ h9 => h9) rfl dX3_advance_23 ?_
    obtain ⟨h_2, hw⟩ := hw
    refine va_aldq hx hb hE.1 hP 2 4 rfl rfl (h_2) dX3_advance_26 ?_
    obtain ⟨h_3, hw⟩ := hw
    refine W.eq (g2 := F0 m 27 ls (.ref (ad (Ttoks (Rtaken).toNatClampNeg)) :: .ref hr_ :: [])) (by rw [tokA_rf h_3]) ?_
    refine vt_put (D := D) (ci := 3) (v := .ref (ad (Ttoks (Rtaken).toNatClampNeg))) (ty := .object "WornLines$Token") (C := RX3) (T := TX3) (N := 11) hx hb hts (fun w h => wm_c (wc_X3 w h)) tyX3 tyX3_ok nmX3 hown hE.1 hP hD hS 0 rfl rfl 7 (by decide) tX3_7 (hts (.fieldLink RX3 28 "WornLines$Reader" "token" "LWornLines$Token;") (wm_c hw_290)) (fun _ h9 => h9) rfl pf_7 (rfl) rfl (Nat.le_of_ble_eq_true rfl) dX3_advance_27 (fun H locs hP hD hS => ?_)
    have hP : va_P D vwCl (wW_X3_advance ak ad hr_ ra ht ta pg Rcoded Rtaken (Ttoks (Rtaken).toNatClampNeg) Rplace Rvalue Rfault Tlen Tcnt Ttoks Tplc Tvals) H := hP
    have hD : va_D A (wW_X3_advance ak ad hr_ ra ht ta pg Rcoded Rtaken (Ttoks (Rtaken).toNatClampNeg) Rplace Rvalue Rfault Tlen Tcnt Ttoks Tplc Tvals) := hD
    refine lv_aload_n hx hb dX3_advance_30 rfl (lv_at hl 0 rfl) ?_
    refine lv_aload_n hx hb dX3_advance_31 rfl (lv_at hl 0 rfl) ?_
    refine vt_get (D := D) (ci := 3) (v := .ref ht) (C := RX3) (T := TX3) (N := 11) hx hb hts (fun w h => wm_c (wc_X3 w h)) hown hE.1 hP 0 rfl rfl 0 (by decide) tX3_0 (hts (.fieldLink RX3 31 "WornLines$Reader" "tape" "LWornLines$Tape;") (wm_c hw_291)) (fun _ h9 => h9) rfl dX3_advance_32 ?_
    refine vt_get (D := D) (ci := 5) (v := .ref (ta 2)) (C := RX5) (T := TX5) (N := 6) hx hb hts (fun w h => wm_c (wc_X5 w h)) hown hE.1 hP 1 rfl rfl 3 (by decide) tX5_3 (hts (.fieldLink RX3 250 "WornLines$Tape" "places" "[I") (wm_c hw_428)) (fun _ h9 => h9) rfl dX3_advance_35 ?_
    refine lv_aload_n hx hb dX3_advance_38 rfl (lv_at hl 0 rfl) ?_
    refine vt_get (D := D) (ci := 3) (v := .int (Rtaken)) (C := RX3) (T := TX3) (N := 11) hx hb hts (fun w h => wm_c (wc_X3 w h)) hown hE.1 hP 0 rfl rfl 6 (by decide) tX3_6 (hts (.fieldLink RX3 57 "WornLines$Reader" "taken" "I") (wm_c hw_425)) (fun _ h9 => h9) rfl dX3_advance_39 ?_
    obtain ⟨h_4, hw⟩ := hw
    refine va_iald hx hb hE.1 hP 3 0 rfl rfl (h_4) dX3_advance_42 ?_
    refine vt_put (D := D) (ci := 3) (v := .int (Tplc (Rtaken).toNatClampNeg)) (ty := .int) (C := RX3) (T := TX3) (N := 11) hx hb hts (fun w h => wm_c (wc_X3 w h)) tyX3 tyX3_ok nmX3 hown hE.1 hP hD hS 0 rfl rfl 8 (by decide) tX3_8 (hts (.fieldLink RX3 253 "WornLines$Reader" "place" "I") (wm_c hw_429)) (fun _ h9 => h9) rfl pf_0 (rfl) rfl (Nat.le_of_ble_eq_true rfl) dX3_advance_43 (fun H locs hP hD hS => ?_)
    have hP : va_P D vwCl (wW_X3_advance ak ad hr_ ra ht ta pg Rcoded Rtaken (Ttoks (Rtaken).toNatClampNeg) (Tplc (Rtaken).toNatClampNeg) Rvalue Rfault Tlen Tcnt Ttoks Tplc Tvals) H := hP
    have hD : va_D A (wW_X3_advance ak ad hr_ ra ht ta pg Rcoded Rtaken (Ttoks (Rtaken).toNatClampNeg) (Tplc (Rtaken).toNatClampNeg) Rvalue Rfault Tlen Tcnt Ttoks Tplc Tvals) := hD
    refine lv_aload_n hx hb dX3_advance_46 rfl (lv_at hl 0 rfl) ?_
    refine lv_aload_n hx hb dX3_advance_47 rfl (lv_at hl 0 rfl) ?_
    refine vt_get (D := D) (ci := 3) (v := .ref ht) (C := RX3) (T := TX3) (N := 11) hx hb hts (fun w h => wm_c (wc_X3 w h)) hown hE.1 hP 0 rfl rfl 0 (by decide) tX3_0 (hts (.fieldLink RX3 31 "WornLines$Reader" "tape" "LWornLines$Tape;") (wm_c hw_291)) (fun _ h9 => h9) rfl dX3_advance_48 ?_
    refine vt_get (D := D) (ci := 5) (v := .ref (ta 3)) (C := RX5) (T := TX5) (N := 6) hx hb hts (fun w h => wm_c (wc_X5 w h)) hown hE.1 hP 1 rfl rfl 4 (by decide) tX5_4 (hts (.fieldLink RX3 256 "WornLines$Tape" "values" "[J") (wm_c hw_430)) (fun _ h9 => h9) rfl dX3_advance_51 ?_
    refine lv_aload_n hx hb dX3_advance_54 rfl (lv_at hl 0 rfl) ?_
    refine vt_get (D := D) (ci := 3) (v := .int (Rtaken)) (C := RX3) (T := TX3) (N := 11) hx hb hts (fun w h => wm_c (wc_X3 w h)) hown hE.1 hP 0 rfl rfl 6 (by decide) tX3_6 (hts (.fieldLink RX3 57 "WornLines$Reader" "taken" "I") (wm_c hw_425)) (fun _ h9 => h9) rfl dX3_advance_55 ?_
    obtain ⟨h_5, hw⟩ := hw
    refine va_lald hx hb hE.1 hP 4 1 rfl rfl (h_5) dX3_advance_58 ?_
    refine vt_put (D := D) (ci := 3) (v := .long (Tvals (Rtaken).toNatClampNeg)) (ty := .long) (C := RX3) (T := TX3) (N := 11) hx hb hts (fun w h => wm_c (wc_X3 w h)) tyX3 tyX3_ok nmX3 hown hE.1 hP hD hS 0 rfl rfl 9 (by decide) tX3_9 (hts (.fieldLink RX3 224 "WornLines$Reader" "value" "J") (wm_c hw_431)) (fun _ h9 => h9) rfl pf_1 (rfl) rfl (Nat.le_of_ble_eq_true rfl) dX3_advance_59 (fun H locs hP hD hS => ?_)
    have hP : va_P D vwCl (wW_X3_advance ak ad hr_ ra ht ta pg Rcoded Rtaken (Ttoks (Rtaken).toNatClampNeg) (Tplc (Rtaken).toNatClampNeg) (Tvals (Rtaken).toNatClampNeg) Rfault Tlen Tcnt Ttoks Tplc Tvals) H := hP
    have hD : va_D A (wW_X3_advance ak ad hr_ ra ht ta pg Rcoded Rtaken (Ttoks (Rtaken).toNatClampNeg) (Tplc (Rtaken).toNatClampNeg) (Tvals (Rtaken).toNatClampNeg) Rfault Tlen Tcnt Ttoks Tplc Tvals) := hD
    refine lv_aload_n hx hb dX3_advance_62 rfl (lv_at hl 0 rfl) ?_
    refine lv_dup hx hb dX3_advance_63 rfl ?_
    refine vt_get (D := D) (ci := 3) (v := .int (Rtaken)) (C := RX3) (T := TX3) (N := 11) hx hb hts (fun w h => wm_c (wc_X3 w h)) hown hE.1 hP 0 rfl rfl 6 (by decide) tX3_6 (hts (.fieldLink RX3 57 "WornLines$Reader" "taken" "I") (wm_c hw_425)) (fun _ h9 => h9) rfl dX3_advance_64 ?_
    refine lv_iconst (v := 1) hx hb dX3_advance_67 (by decide) ?_
    refine lv_iadd hx hb dX3_advance_68 ?_
    refine vt_put (D := D) (ci := 3) (v := .int (Rtaken + 1)) (ty := .int) (C := RX3) (T := TX3) (N := 11) hx hb hts (fun w h => wm_c (wc_X3 w h)) tyX3 tyX3_ok nmX3 hown hE.1 hP hD hS 0 rfl rfl 6 (by decide) tX3_6 (hts (.fieldLink RX3 57 "WornLines$Reader" "taken" "I") (wm_c hw_425)) (fun _ h9 => h9) rfl pf_0 (rfl) rfl (Nat.le_of_ble_eq_true rfl) dX3_advance_69 (fun H locs hP hD hS => ?_)
    have hP : va_P D vwCl (wW_X3_advance ak ad hr_ ra ht ta pg Rcoded (Rtaken + 1) (Ttoks (Rtaken).toNatClampNeg) (Tplc (Rtaken).toNatClampNeg) (Tvals (Rtaken).toNatClampNeg) Rfault Tlen Tcnt Ttoks Tplc Tvals) H := hP
    have hD : va_D A (wW_X3_advance ak ad hr_ ra ht ta pg Rcoded (Rtaken + 1) (Ttoks (Rtaken).toNatClampNeg) (Tplc (Rtaken).toNatClampNeg) (Tvals (Rtaken).toNatClampNeg) Rfault Tlen Tcnt Ttoks Tplc Tvals) := hD
    exact kR72 (Rtaken + 1) (Ttoks (Rtaken).toNatClampNeg) (Tplc (Rtaken).toNatClampNeg) (Tvals (Rtaken).toNatClampNeg) _ _ _ hw hP hD hS
set_option maxHeartbeats 4000000 in
set_option maxRecDepth 100000 in
theorem c_X3_advance (l : Launch) (D : va_G) (ak : Nat → ClassId) (ad : Nat → Nat) (sz : Nat) (hr_ : Nat) (ra : Nat → Nat) (ht : Nat) (ta : Nat → Nat) (pg : Nat) (Rcoded : Int32) (Rtaken : Int32) (Rtoken : Nat) (Rplace : Int32) (Rvalue : Int64) (Rfault : Int32) (Tlen : Int32) (Tcnt : Int32) (Ttoks : Nat → Nat) (Tplc : Nat → Int32) (Tvals : Nat → Int64) (Φ : Int32 → Nat → Int32 → Int64 → Prop) (hf : wp_X3_advance Tcnt Ttoks Tplc Tvals Rtaken Rtoken Rplace Rvalue Φ) : Met l yX3_advance wsX3_advance ({ frames := 0, cells := 0, slots := 0, locals := 0 }) (cPre D ak ad [.ref hr_] ((wW_X3_advance ak ad hr_ ra ht ta pg Rcoded Rtaken Rtoken Rplace Rvalue Rfault Tlen Tcnt Ttoks Tplc Tvals)) sz) (cV D (S := (Int32) × (Nat) × (Int32) × (Int64)) (fun (u : (Int32) × (Nat) × (Int32) × (Int64)) => Φ u.1 u.2.1 u.2.2.1 u.2.2.2) (fun u => (wW_X3_advance ak ad hr_ ra ht ta pg Rcoded u.1 u.2.1 u.2.2.1 u.2.2.2 Rfault Tlen Tcnt Ttoks Tplc Tvals)) ((wW_X3_advance ak ad hr_ ra ht ta pg Rcoded Rtaken Rtoken Rplace Rvalue Rfault Tlen Tcnt Ttoks Tplc Tvals)) sz) 0 0 (va_A ((wW_X3_advance ak ad hr_ ra ht ta pg Rcoded Rtaken Rtoken Rplace Rvalue Rfault Tlen Tcnt Ttoks Tplc Tvals)) sz) := by
  refine Met.ofW (cc := cX3_advance) (maxL := 1) (ret := none) (by decide) rfl ?_
  intro p e s m args below meth c s₁ B hml hv
  obtain ⟨rfl, hsz, hP, hE, hD0, hT⟩ := hv
  have hx := B.exec
  have hb := B.bytes
  have hr := B.returns
  have hts := atoms_spec (ws := wsX3_advance) B.pre
  have hown : s.vm.findClass RX3 = some m.cls := findClass_of_methodNamed B.named
  have hlocks := B.notSynchronized
  subst hsz
  have hD := hD0.self (sz := s.heap.size)
  generalize hAe : va_A ((wW_X3_advance ak ad hr_ ra ht ta pg Rcoded Rtaken Rtoken Rplace Rvalue Rfault Tlen Tcnt Ttoks Tplc Tvals)) s.heap.size = A at hD hT ⊢
  have hA : ∀ q : Nat, s.heap.size ≤ q → A q := fun q h => by rw [← hAe]; exact Or.inr h
  have hS : va_S A s.heap s.heap [] := va_S.rf
  have hl := lv_entry ([.ref hr_]) (n := 1) (Nat.le_of_ble_eq_true rfl)
  rw [lg_entry_eq]
  generalize (lg_sl ([.ref hr_]) ++ List.replicate (1 - (lg_sl ([.ref hr_])).length) Slot.unset).toArray = ls at hl ⊢
  have hl : lv_has ls 1 [(0, .ref hr_)] := hl
  exact kj_X3_advance_e hx hb hown hts hml hE hT hA hr_ ra ht ta pg Rcoded Rfault Tlen Tcnt Ttoks Tplc Tvals Φ (fun Rtaken Rtoken Rplace Rvalue H locs ls hw hP hD hS => W.vret hx hb hr (fun t ht hW => ⟨⟨(Rtaken, Rtoken, Rplace, Rvalue), rfl, hw, by rw [ht]; exact hP, by rw [hAe]; exact hD⟩, by rw [hAe]; exact hS.F ht⟩) hS.2.2 dX3_advance_72) Rtaken Rtoken Rplace Rvalue _ _ _ hf hP hD hS hl

def wW_X3_fail (ak : Nat → ClassId) (ad : Nat → Nat) (hr_ : Nat) (ra : Nat → Nat) (ht : Nat) (pg : Nat) (Rcoded : Int32) (Rtaken : Int32) (Rtoken : Nat) (Rplace : Int32) (Rvalue : Int64) (Rfault : Int32) : va_W := [(hr_, .inr (3, rob ad ra (ht) (Rcoded) (pg) (Rtaken) (Rtoken) (Rplace) (Rvalue) (Rfault)))]
def wp_X3_fail (Rplace : Int32) (xk : Int32) (Rfault : Int32) (Φ : Int32 → Prop) : Prop := (¬ Rfault = 0 → Φ Rfault) ∧ (Rfault = 0 → Φ (xk + (16 * Rplace)))
set_option maxHeartbeats 4000000 in
set_option maxRecDepth 100000 in
theorem kj_X3_fail_e {p : Program} {l : Launch} {e : Env} {R : Room} {s : State} {m : MethodId} {args : Array Value} {below : List Frame} {meth : Method} {c : Code} {cells slots : Nat} {Q : State → Prop} {A : Nat → Prop} {D : va_G} {ak : Nat → ClassId} {ad : Nat → Nat} (hx : p.tables.exec = Jvm.exec) (hb : c.code = cX3_fail) (hown : s.vm.findClass RX3 = some m.cls) (hts : ∀ w ∈ wsX3_fail, w.before args s = true) (hml : c.maxLocals = 2) (hE : EV D ak s) (hT : ST D ak ad A s s.heap) (hA : ∀ q, s.heap.size ≤ q → A q) (hr_ : Nat) (ra : Nat → Nat) (ht : Nat) (pg : Nat) (Rcoded : Int32) (Rtaken : Int32) (Rtoken : Nat) (Rplace : Int32) (Rvalue : Int64) (xk : Int32)  (Φ : Int32 → Prop)
    (kR20 : ∀ (Rfault : Int32) (H : Heap) (locs : List Loc) (ls : Array Slot), Φ Rfault → va_P D vwCl (wW_X3_fail ak ad hr_ ra ht pg Rcoded Rtaken Rtoken Rplace Rvalue Rfault) H → va_D A (wW_X3_fail ak ad hr_ ra ht pg Rcoded Rtaken Rtoken Rplace Rvalue Rfault) → va_S A s.heap H locs → W p l e R s m args below meth c H locs cells slots Q (F0 m 20 ls []))
    : ∀ (Rfault : Int32) (H : Heap) (locs : List Loc) (ls : Array Slot), wp_X3_fail Rplace xk Rfault Φ → va_P D vwCl (wW_X3_fail ak ad hr_ ra ht pg Rcoded Rtaken Rtoken Rplace Rvalue Rfault) H → va_D A (wW_X3_fail ak ad hr_ ra ht pg Rcoded Rtaken Rtoken Rplace Rvalue Rfault) → va_S A s.heap H locs → lv_has ls 2 [(0, .ref hr_), (1, .int (xk))] → W p l e R s m args below meth c H locs cells slots Q (F0 m 0 ls ([])) := by
  intro Rfault H locs ls hw hP hD hS hl
  delta wp_X3_fail at hw
  refine lv_aload_n hx hb dX3_fail_0 rfl (lv_at hl 0 rfl) ?_
  refine va_get (D := D) (ci := 3) (v := .int (Rfault)) (C := RX3) (T := TX3) (N := 11) hx hb hts (fun w h => wm_c (wc_X3 w h)) hown hE.1 hP 0 rfl rfl 10 (by decide) (hts (.fieldLink RX3 54 "WornLines$Reader" "fault" "I") (wm_c hw_432)) (fun _ h9 => h9) rfl dX3_fail_1 ?_
  refine lv_if_ne (tgt := 20) hx hb dX3_fail_4 (by decide) (fun c_1 => ?_) (fun c_1 => ?_)
  · replace hw := hw.1 c_1
    exact kR20 Rfault _ _ _ hw hP hD hS
  · replace hw := hw.2 c_1
    refine lv_aload_n hx hb dX3_fail_7 rfl (lv_at hl 0 rfl) ?_
    refine lv_iload_n hx hb dX3_fail_8 rfl (lv_at hl 1 rfl) ?_
    refine lv_bipush (v := 16) hx hb dX3_fail_9 (by decide) ?_
    refine lv_aload_n hx hb dX3_fail_11 rfl (lv_at hl 0 rfl) ?_
    refine vt_get (D := D) (ci := 3) (v := .int (Rplace)) (C := RX3) (T := TX3) (N := 11) hx hb hts (fun w h => wm_c (wc_X3 w h)) hown hE.1 hP 0 rfl rfl 8 (by decide) tX3_8 (hts (.fieldLink RX3 253 "WornLines$Reader" "place" "I") (wm_c hw_429)) (fun _ h9 => h9) rfl dX3_fail_12 ?_
    refine lv_imul hx hb dX3_fail_15 ?_
    refine lv_iadd hx hb dX3_fail_16 ?_
    refine va_put (D := D) (ci := 3) (v := .int (xk + (16 * Rplace))) (ty := .int) (C := RX3) (T := TX3) (N := 11) hx hb hts (fun w h => wm_c (wc_X3 w h)) tyX3 tyX3_ok nmX3 hown hE.1 hP hD hS 0 rfl rfl 10 (by decide) (hts (.fieldLink RX3 54 "WornLines$Reader" "fault" "I") (wm_c hw_432)) (fun _ h9 => h9) rfl pf_0 (rfl) rfl (Nat.le_of_ble_eq_true rfl) dX3_fail_17 (fun H locs hP hD hS => ?_)
    have hP : va_P D vwCl (wW_X3_fail ak ad hr_ ra ht pg Rcoded Rtaken Rtoken Rplace Rvalue (xk + (16 * Rplace))) H := hP
    have hD : va_D A (wW_X3_fail ak ad hr_ ra ht pg Rcoded Rtaken Rtoken Rplace Rvalue (xk + (16 * Rplace))) := hD
    exact kR20 (xk + (16 * Rplace)) _ _ _ hw hP hD hS
set_option maxHeartbeats 4000000 in
set_option maxRecDepth 100000 in
theorem c_X3_fail (l : Launch) (D : va_G) (ak : Nat → ClassId) (ad : Nat → Nat) (sz : Nat) (hr_ : Nat) (ra : Nat → Nat) (ht : Nat) (pg : Nat) (Rcoded : Int32) (Rtaken : Int32) (Rtoken : Nat) (Rplace : Int32) (Rvalue : Int64) (Rfault : Int32) (xk : Int32) (Φ : Int32 → Prop) (hf : wp_X3_fail Rplace xk Rfault Φ) : Met l yX3_fail wsX3_fail ({ frames := 0, cells := 0, slots := 0, locals := 0 }) (cPre D ak ad [.ref hr_, .int (xk)] ((wW_X3_fail ak ad hr_ ra ht pg Rcoded Rtaken Rtoken Rplace Rvalue Rfault)) sz) (cV D (S := (Int32)) (fun (u : (Int32)) => Φ u) (fun u => (wW_X3_fail ak ad hr_ ra ht pg Rcoded Rtaken Rtoken Rplace Rvalue u)) ((wW_X3_fail ak ad hr_ ra ht pg Rcoded Rtaken Rtoken Rplace Rvalue Rfault)) sz) 0 0 (va_A ((wW_X3_fail ak ad hr_ ra ht pg Rcoded Rtaken Rtoken Rplace Rvalue Rfault)) sz) := by
  refine Met.ofW (cc := cX3_fail) (maxL := 2) (ret := none) (by decide) rfl ?_
  intro p e s m args below meth c s₁ B hml hv
  obtain ⟨rfl, hsz, hP, hE, hD0, hT⟩ := hv
  have hx := B.exec
  have hb := B.bytes
  have hr := B.returns
  have hts := atoms_spec (ws := wsX3_fail) B.pre
  have hown : s.vm.findClass RX3 = some m.cls := findClass_of_methodNamed B.named
  have hlocks := B.notSynchronized
  subst hsz
  have hD := hD0.self (sz := s.heap.size)
  generalize hAe : va_A ((wW_X3_fail ak ad hr_ ra ht pg Rcoded Rtaken Rtoken Rplace Rvalue Rfault)) s.heap.size = A at hD hT ⊢
  have hA : ∀ q : Nat, s.heap.size ≤ q → A q := fun q h => by rw [← hAe]; exact Or.inr h
  have hS : va_S A s.heap s.heap [] := va_S.rf
  have hl := lv_entry ([.ref hr_, .int (xk)]) (n := 2) (Nat.le_of_ble_eq_true rfl)
  rw [lg_entry_eq]
  generalize (lg_sl ([.ref hr_, .int (xk)]) ++ List.replicate (2 - (lg_sl ([.ref hr_, .int (xk)])).length) Slot.unset).toArray = ls at hl ⊢
  have hl : lv_has ls 2 [(0, .ref hr_), (1, .int (xk))] := hl
  exact kj_X3_fail_e hx hb hown hts hml hE hT hA hr_ ra ht pg Rcoded Rtaken Rtoken Rplace Rvalue xk Φ (fun Rfault H locs ls hw hP hD hS => W.vret hx hb hr (fun t ht hW => ⟨⟨Rfault, rfl, hw, by rw [ht]; exact hP, by rw [hAe]; exact hD⟩, by rw [hAe]; exact hS.F ht⟩) hS.2.2 dX3_fail_20) Rfault _ _ _ hf hP hD hS hl

def wW_X3_expect (ak : Nat → ClassId) (ad : Nat → Nat) (hr_ : Nat) (ra : Nat → Nat) (ht : Nat) (ta : Nat → Nat) (pg : Nat) (Rcoded : Int32) (Rtaken : Int32) (Rtoken : Nat) (Rplace : Int32) (Rvalue : Int64) (Rfault : Int32) (Tlen : Int32) (Tcnt : Int32) (Ttoks : Nat → Nat) (Tplc : Nat → Int32) (Tvals : Nat → Int64) : va_W := [(hr_, .inr (3, rob ad ra (ht) (Rcoded) (pg) (Rtaken) (Rtoken) (Rplace) (Rvalue) (Rfault))), (ht, .inr (5, tob ta (Tlen) (Tcnt))), ((ta 1), .inl (ak 4, 1001, .inr (.inr (.inr (.inr (tokA ad (Ttoks))))))), ((ta 2), .inl (ak 0, 1001, .inl (Tplc))), ((ta 3), .inl (ak 1, 1001, .inr (.inl (Tvals))))]
def wp_X3_expect (Tcnt : Int32) (Ttoks : Nat → Nat) (Tplc : Nat → Int32) (Tvals : Nat → Int64) (xt : Nat) (Rtaken : Int32) (Rtoken : Nat) (Rplace : Int32) (Rvalue : Int64) (Rfault : Int32) (Φ : Int32 → Nat → Int32 → Int64 → Int32 → Prop) : Prop := Rtoken < 31 ∧ xt < 31 ∧ (Rtoken = xt → wp_X3_advance Tcnt Ttoks Tplc Tvals Rtaken Rtoken Rplace Rvalue (fun Rtaken_5 Rtoken_6 Rplace_7 Rvalue_8 => Φ Rtaken_5 Rtoken_6 Rplace_7 Rvalue_8 Rfault)) ∧ (¬ Rtoken = xt → wp_X3_fail Rplace 1 Rfault (fun Rfault_11 => wp_X3_advance Tcnt Ttoks Tplc Tvals Rtaken Rtoken Rplace Rvalue (fun Rtaken_14 Rtoken_15 Rplace_16 Rvalue_17 => Φ Rtaken_14 Rtoken_15 Rplace_16 Rvalue_17 Rfault_11)))
set_option maxHeartbeats 4000000 in
set_option maxRecDepth 100000 in
theorem kj_X3_expect_e {p : Program} {l : Launch} {e : Env} {R : Room} {s : State} {m : MethodId} {args : Array Value} {below : List Frame} {meth : Method} {c : Code} {cells slots : Nat} {Q : State → Prop} {A : Nat → Prop} {D : va_G} {ak : Nat → ClassId} {ad : Nat → Nat} (hx : p.tables.exec = Jvm.exec) (hb : c.code = cX3_expect) (hown : s.vm.findClass RX3 = some m.cls) (hts : ∀ w ∈ wsX3_expect, w.before args s = true) (hml : c.maxLocals = 2) (hE : EV D ak s) (hT : ST D ak ad A s s.heap) (hA : ∀ q, s.heap.size ≤ q → A q) (hRf : 1 ≤ R.frames) (hRl : 21 ≤ R.locals) (hRc : cells ≤ R.cells ∧ slots ≤ R.slots) (hr_ : Nat) (ra : Nat → Nat) (ht : Nat) (ta : Nat → Nat) (pg : Nat) (Rcoded : Int32) (Tlen : Int32) (Tcnt : Int32) (Ttoks : Nat → Nat) (Tplc : Nat → Int32) (Tvals : Nat → Int64) (xt : Nat)  (Φ : Int32 → Nat → Int32 → Int64 → Int32 → Prop)
    (kR17 : ∀ (Rtaken : Int32) (Rtoken : Nat) (Rplace : Int32) (Rvalue : Int64) (Rfault : Int32) (H : Heap) (locs : List Loc) (ls : Array Slot), Φ Rtaken Rtoken Rplace Rvalue Rfault → va_P D vwCl (wW_X3_expect ak ad hr_ ra ht ta pg Rcoded Rtaken Rtoken Rplace Rvalue Rfault Tlen Tcnt Ttoks Tplc Tvals) H → va_D A (wW_X3_expect ak ad hr_ ra ht ta pg Rcoded Rtaken Rtoken Rplace Rvalue Rfault Tlen Tcnt Ttoks Tplc Tvals) → va_S A s.heap H locs → W p l e R s m args below meth c H locs cells slots Q (F0 m 17 ls []))
    : ∀ (Rtaken : Int32) (Rtoken : Nat) (Rplace : Int32) (Rvalue : Int64) (Rfault : Int32) (H : Heap) (locs : List Loc) (ls : Array Slot), wp_X3_expect Tcnt Ttoks Tplc Tvals xt Rtaken Rtoken Rplace Rvalue Rfault Φ → va_P D vwCl (wW_X3_expect ak ad hr_ ra ht ta pg Rcoded Rtaken Rtoken Rplace Rvalue Rfault Tlen Tcnt Ttoks Tplc Tvals) H → va_D A (wW_X3_expect ak ad hr_ ra ht ta pg Rcoded Rtaken Rtoken Rplace Rvalue Rfault Tlen Tcnt Ttoks Tplc Tvals) → va_S A s.heap H locs → lv_has ls 2 [(0, .ref hr_), (1, .ref (ad xt))] → W p l e R s m args below meth c H locs cells slots Q (F0 m 0 ls ([])) := by
  intro Rtaken Rtoken Rplace Rvalue Rfault H locs ls hw hP hD hS hl
  delta wp_X3_expect at hw
  refine lv_aload_n hx hb dX3_expect_0 rfl (lv_at hl 0 rfl) ?_
  refine vt_get (D := D) (ci := 3) (v := .ref (ad Rtoken)) (C := RX3) (T := TX3) (N := 11) hx hb hts (fun w h => wm_c (wc_X3 w h)) hown hE.1 hP 0 rfl rfl 7 (by decide) tX3_7 (hts (.fieldLink RX3 28 "WornLines$Reader" "token" "LWornLines$Token;") (wm_c hw_290)) (fun _ h9 => h9) rfl dX3_expect_1 ?_
  refine lv_aload_n hx hb dX3_expect_4 rfl (lv_at hl 1 rfl) ?_
  obtain ⟨h_1, hw⟩ := hw
  obtain ⟨h_2, hw⟩ := hw
  refine W.eq (g2 := F0 m 5 ls (va_rf (some (ad xt)) :: va_rf (some (ad Rtoken)) :: [])) rfl ?_
  refine lv_acmp_eq (tgt := 13) hx hb dX3_expect_5 (by decide) (fun c_3 => ?_) (fun c_3 => ?_)
  · replace hw := hw.1 (tok_inj hT h_1 h_2 c_3)
    refine lv_aload_n hx hb dX3_expect_13 rfl (lv_at hl 0 rfl) ?_
    refine kc_v (wc := (wW_X3_advance ak ad hr_ ra ht ta pg Rcoded Rtaken Rtoken Rplace Rvalue Rfault Tlen Tcnt Ttoks Tplc Tvals)) (wr := []) hP hD hS hA [0, 1, 2, 3, 4] [] rfl rfl (by decide) (by decide) (va_runV (As := []) (rest := []) ⟨hx, hb, hml, hown, hts⟩ (c_X3_advance l D ak ad _ hr_ ra ht ta pg Rcoded Rtaken Rtoken Rplace Rvalue Rfault Tlen Tcnt Ttoks Tplc Tvals _ hw) (cwV 0 hts gX3_expect_X3_advance rfl rfl rfl hv_X3_advance ⟨(Nat.le_trans (Nat.le_of_ble_eq_true rfl) hRf), (Nat.le_trans (Nat.le_of_ble_eq_true rfl) hRl)⟩) (kc_preV (As := []) (wc := (wW_X3_advance ak ad hr_ ra ht ta pg Rcoded Rtaken Rtoken Rplace Rvalue Rfault Tlen Tcnt Ttoks Tplc Tvals)) hE hT hP hD hS hA [0, 1, 2, 3, 4] (by decide) rfl rfl 0 3 rfl rfl rfl) rfl rfl hl.1 rfl (lv_room (Nat.le_of_ble_eq_true rfl)) dX3_expect_14 ⟨hRc.1, hRc.2⟩) (fun u_4 H locs hw hP hD hS => ?_)
    obtain ⟨Rtaken_5, Rtoken_6, Rplace_7, Rvalue_8⟩ := u_4
    try dsimp -zeta only at hw
    have hP : va_P D vwCl (wW_X3_expect ak ad hr_ ra ht ta pg Rcoded Rtaken_5 Rtoken_6 Rplace_7 Rvalue_8 Rfault Tlen Tcnt Ttoks Tplc Tvals) H := hP.sub [0, 1, 2, 3, 4] rfl
    have hD : va_D A (wW_X3_expect ak ad hr_ ra ht ta pg Rcoded Rtaken_5 Rtoken_6 Rplace_7 Rvalue_8 Rfault Tlen Tcnt Ttoks Tplc Tvals) := hD.sub [0, 1, 2, 3, 4] (by decide) rfl
    exact kR17 Rtaken_5 Rtoken_6 Rplace_7 Rvalue_8 Rfault _ _ _ hw hP hD hS
  · replace hw := hw.2 (fun h9 => c_3 (by rw [h9]))
    refine lv_aload_n hx hb dX3_expect_8 rfl (lv_at hl 0 rfl) ?_
    refine lv_iconst (v := 1) hx hb dX3_expect_9 (by decide) ?_
    refine kc_v (wc := (wW_X3_fail ak ad hr_ ra ht pg Rcoded Rtaken Rtoken Rplace Rvalue Rfault)) (wr := [(ht, .inr (5, tob ta (Tlen) (Tcnt))), ((ta 1), .inl (ak 4, 1001, .inr (.inr (.inr (.inr (tokA ad (Ttoks))))))), ((ta 2), .inl (ak 0, 1001, .inl (Tplc))), ((ta 3), .inl (ak 1, 1001, .inr (.inl (Tvals))))]) hP hD hS hA [0] [1, 2, 3, 4] rfl rfl (by decide) (by decide) (va_runV (As := [.int (1)]) (rest := []) ⟨hx, hb, hml, hown, hts⟩ (c_X3_fail l D ak ad _ hr_ ra ht pg Rcoded Rtaken Rtoken Rplace Rvalue Rfault 1 _ hw) (cwV 1 hts gX3_expect_X3_fail rfl rfl rfl hv_X3_fail ⟨(Nat.le_trans (Nat.le_of_ble_eq_true rfl) hRf), (Nat.le_trans (Nat.le_of_ble_eq_true rfl) hRl)⟩) (kc_preV (As := [.int (1)]) (wc := (wW_X3_fail ak ad hr_ ra ht pg Rcoded Rtaken Rtoken Rplace Rvalue Rfault)) hE hT hP hD hS hA [0] (by decide) rfl rfl 0 3 rfl rfl rfl) rfl rfl hl.1 rfl (lv_room (Nat.le_of_ble_eq_true rfl)) dX3_expect_10 ⟨hRc.1, hRc.2⟩) (fun Rfault_11 H locs hw hP hD hS => ?_)
    try dsimp -zeta only at hw
    have hP : va_P D vwCl (wW_X3_expect ak ad hr_ ra ht ta pg Rcoded Rtaken Rtoken Rplace Rvalue Rfault_11 Tlen Tcnt Ttoks Tplc Tvals) H := hP.sub [4, 0, 1, 2, 3] rfl
    have hD : va_D A (wW_X3_expect ak ad hr_ ra ht ta pg Rcoded Rtaken Rtoken Rplace Rvalue Rfault_11 Tlen Tcnt Ttoks Tplc Tvals) := hD.sub [4, 0, 1, 2, 3] (by decide) rfl
    refine lv_aload_n hx hb dX3_expect_13 rfl (lv_at hl 0 rfl) ?_
    refine kc_v (wc := (wW_X3_advance ak ad hr_ ra ht ta pg Rcoded Rtaken Rtoken Rplace Rvalue Rfault_11 Tlen Tcnt Ttoks Tplc Tvals)) (wr := []) hP hD hS hA [0, 1, 2, 3, 4] [] rfl rfl (by decide) (by decide) (va_runV (As := []) (rest := []) ⟨hx, hb, hml, hown, hts⟩ (c_X3_advance l D ak ad _ hr_ ra ht ta pg Rcoded Rtaken Rtoken Rplace Rvalue Rfault_11 Tlen Tcnt Ttoks Tplc Tvals _ hw) (cwV 0 hts gX3_expect_X3_advance rfl rfl rfl hv_X3_advance ⟨(Nat.le_trans (Nat.le_of_ble_eq_true rfl) hRf), (Nat.le_trans (Nat.le_of_ble_eq_true rfl) hRl)⟩) (kc_preV (As := []) (wc := (wW_X3_advance ak ad hr_ ra ht ta pg Rcoded Rtaken Rtoken Rplace Rvalue Rfault_11 Tlen Tcnt Ttoks Tplc Tvals)) hE hT hP hD hS hA [0, 1, 2, 3, 4] (by decide) rfl rfl 0 3 rfl rfl rfl) rfl rfl hl.1 rfl (lv_room (Nat.le_of_ble_eq_true rfl)) dX3_expect_14 ⟨hRc.1, hRc.2⟩) (fun u_13 H locs hw hP hD hS => ?_)
    obtain ⟨Rtaken_14, Rtoken_15, Rplace_16, Rvalue_17⟩ := u_13
    try dsimp -zeta only at hw
    have hP : va_P D vwCl (wW_X3_expect ak ad hr_ ra ht ta pg Rcoded Rtaken_14 Rtoken_15 Rplace_16 Rvalue_17 Rfault_11 Tlen Tcnt Ttoks Tplc Tvals) H := hP.sub [0, 1, 2, 3, 4] rfl
    have hD : va_D A (wW_X3_expect ak ad hr_ ra ht ta pg Rcoded Rtaken_14 Rtoken_15 Rplace_16 Rvalue_17 Rfault_11 Tlen Tcnt Ttoks Tplc Tvals) := hD.sub [0, 1, 2, 3, 4] (by decide) rfl
    exact kR17 Rtaken_14 Rtoken_15 Rplace_16 Rvalue_17 Rfault_11 _ _ _ hw hP hD hS
set_option maxHeartbeats 4000000 in
set_option maxRecDepth 100000 in
theorem c_X3_expect (l : Launch) (D : va_G) (ak : Nat → ClassId) (ad : Nat → Nat) (sz : Nat) (hr_ : Nat) (ra : Nat → Nat) (ht : Nat) (ta : Nat → Nat) (pg : Nat) (Rcoded : Int32) (Rtaken : Int32) (Rtoken : Nat) (Rplace : Int32) (Rvalue : Int64) (Rfault : Int32) (Tlen : Int32) (Tcnt : Int32) (Ttoks : Nat → Nat) (Tplc : Nat → Int32) (Tvals : Nat → Int64) (xt : Nat) (Φ : Int32 → Nat → Int32 → Int64 → Int32 → Prop) (hf : wp_X3_expect Tcnt Ttoks Tplc Tvals xt Rtaken Rtoken Rplace Rvalue Rfault Φ) : Met l yX3_expect wsX3_expect ({ frames := 1, cells := 0, slots := 0, locals := 21 }) (cPre D ak ad [.ref hr_, .ref (ad xt)] ((wW_X3_expect ak ad hr_ ra ht ta pg Rcoded Rtaken Rtoken Rplace Rvalue Rfault Tlen Tcnt Ttoks Tplc Tvals)) sz) (cV D (S := (Int32) × (Nat) × (Int32) × (Int64) × (Int32)) (fun (u : (Int32) × (Nat) × (Int32) × (Int64) × (Int32)) => Φ u.1 u.2.1 u.2.2.1 u.2.2.2.1 u.2.2.2.2) (fun u => (wW_X3_expect ak ad hr_ ra ht ta pg Rcoded u.1 u.2.1 u.2.2.1 u.2.2.2.1 u.2.2.2.2 Tlen Tcnt Ttoks Tplc Tvals)) ((wW_X3_expect ak ad hr_ ra ht ta pg Rcoded Rtaken Rtoken Rplace Rvalue Rfault Tlen Tcnt Ttoks Tplc Tvals)) sz) 0 0 (va_A ((wW_X3_expect ak ad hr_ ra ht ta pg Rcoded Rtaken Rtoken Rplace Rvalue Rfault Tlen Tcnt Ttoks Tplc Tvals)) sz) := by
  refine Met.ofW (cc := cX3_expect) (maxL := 2) (ret := none) (by decide) rfl ?_
  intro p e s m args below meth c s₁ B hml hv
  obtain ⟨rfl, hsz, hP, hE, hD0, hT⟩ := hv
  have hx := B.exec
  have hb := B.bytes
  have hr := B.returns
  have hts := atoms_spec (ws := wsX3_expect) B.pre
  have hown : s.vm.findClass RX3 = some m.cls := findClass_of_methodNamed B.named
  have hlocks := B.notSynchronized
  subst hsz
  have hD := hD0.self (sz := s.heap.size)
  generalize hAe : va_A ((wW_X3_expect ak ad hr_ ra ht ta pg Rcoded Rtaken Rtoken Rplace Rvalue Rfault Tlen Tcnt Ttoks Tplc Tvals)) s.heap.size = A at hD hT ⊢
  have hA : ∀ q : Nat, s.heap.size ≤ q → A q := fun q h => by rw [← hAe]; exact Or.inr h
  have hS : va_S A s.heap s.heap [] := va_S.rf
  have hl := lv_entry ([.ref hr_, .ref (ad xt)]) (n := 2) (Nat.le_of_ble_eq_true rfl)
  rw [lg_entry_eq]
  generalize (lg_sl ([.ref hr_, .ref (ad xt)]) ++ List.replicate (2 - (lg_sl ([.ref hr_, .ref (ad xt)])).length) Slot.unset).toArray = ls at hl ⊢
  have hl : lv_has ls 2 [(0, .ref hr_), (1, .ref (ad xt))] := hl
  exact kj_X3_expect_e hx hb hown hts hml hE hT hA (Nat.le_of_ble_eq_true rfl) (Nat.le_of_ble_eq_true rfl) ⟨Nat.le_of_ble_eq_true rfl, Nat.le_of_ble_eq_true rfl⟩ hr_ ra ht ta pg Rcoded Tlen Tcnt Ttoks Tplc Tvals xt Φ (fun Rtaken Rtoken Rplace Rvalue Rfault H locs ls hw hP hD hS => W.vret hx hb hr (fun t ht hW => ⟨⟨(Rtaken, Rtoken, Rplace, Rvalue, Rfault), rfl, hw, by rw [ht]; exact hP, by rw [hAe]; exact hD⟩, by rw [hAe]; exact hS.F ht⟩) hS.2.2 dX3_expect_17) Rtaken Rtoken Rplace Rvalue Rfault _ _ _ hf hP hD hS hl

def wW_X3_numberHere (ak : Nat → ClassId) (ad : Nat → Nat) (hr_ : Nat) (ra : Nat → Nat) (ht : Nat) (pg : Nat) (Rcoded : Int32) (Rtaken : Int32) (Rtoken : Nat) (Rplace : Int32) (Rvalue : Int64) (Rfault : Int32) : va_W := [(hr_, .inr (3, rob ad ra (ht) (Rcoded) (pg) (Rtaken) (Rtoken) (Rplace) (Rvalue) (Rfault)))]
def wp_X3_numberHere (Rtoken : Nat) (Rplace : Int32) (Rvalue : Int64) (xl : Int32) (xg : Int32) (Rfault : Int32) (Φ : Int32 → Int32 → Prop) : Prop := Rtoken < 31 ∧ (Rtoken = 2 → ((lg_cmp Rvalue xl.toInt64) < 0 → wp_X3_fail Rplace 4 Rfault (fun Rfault_5 => Φ xl Rfault_5)) ∧ (¬ (lg_cmp Rvalue xl.toInt64) < 0 → ((lg_cmp Rvalue xg.toInt64) ≤ 0 → Φ Rvalue.toInt32 Rfault) ∧ (¬ (lg_cmp Rvalue xg.toInt64) ≤ 0 → wp_X3_fail Rplace 4 Rfault (fun Rfault_9 => Φ xl Rfault_9)))) ∧ (¬ Rtoken = 2 → wp_X3_fail Rplace 1 Rfault (fun Rfault_12 => Φ xl Rfault_12))
set_option maxHeartbeats 4000000 in
set_option maxRecDepth 100000 in
theorem kj_X3_numberHere_e {p : Program} {l : Launch} {e : Env} {R : Room} {s : State} {m : MethodId} {args : Array Value} {below : List Frame} {meth : Method} {c : Code} {cells slots : Nat} {Q : State → Prop} {A : Nat → Prop} {D : va_G} {ak : Nat → ClassId} {ad : Nat → Nat} (hx : p.tables.exec = Jvm.exec) (hb : c.code = cX3_numberHere) (hown : s.vm.findClass RX3 = some m.cls) (hts : ∀ w ∈ wsX3_numberHere, w.before args s = true) (hml : c.maxLocals = 3) (hE : EV D ak s) (hT : ST D ak ad A s s.heap) (hA : ∀ q, s.heap.size ≤ q → A q) (hRf : 1 ≤ R.frames) (hRl : 21 ≤ R.locals) (hRc : cells ≤ R.cells ∧ slots ≤ R.slots) (hr_ : Nat) (ra : Nat → Nat) (ht : Nat) (pg : Nat) (Rcoded : Int32) (Rtaken : Int32) (Rtoken : Nat) (Rplace : Int32) (Rvalue : Int64) (xl : Int32) (xg : Int32)  (Φ : Int32 → Int32 → Prop)
    (kR16 : ∀ (r : Int32) (Rfault : Int32) (H : Heap) (locs : List Loc) (ls : Array Slot), Φ r Rfault → va_P D vwCl (wW_X3_numberHere ak ad hr_ ra ht pg Rcoded Rtaken Rtoken Rplace Rvalue Rfault) H → va_D A (wW_X3_numberHere ak ad hr_ ra ht pg Rcoded Rtaken Rtoken Rplace Rvalue Rfault) → va_S A s.heap H locs → W p l e R s m args below meth c H locs cells slots Q (F0 m 16 ls [.int r]))
    (kR43 : ∀ (r : Int32) (Rfault : Int32) (H : Heap) (locs : List Loc) (ls : Array Slot), Φ r Rfault → va_P D vwCl (wW_X3_numberHere ak ad hr_ ra ht pg Rcoded Rtaken Rtoken Rplace Rvalue Rfault) H → va_D A (wW_X3_numberHere ak ad hr_ ra ht pg Rcoded Rtaken Rtoken Rplace Rvalue Rfault) → va_S A s.heap H locs → W p l e R s m args below meth c H locs cells slots Q (F0 m 43 ls [.int r]))
    (kR49 : ∀ (r : Int32) (Rfault : Int32) (H : Heap) (locs : List Loc) (ls : Array Slot), Φ r Rfault → va_P D vwCl (wW_X3_numberHere ak ad hr_ ra ht pg Rcoded Rtaken Rtoken Rplace Rvalue Rfault) H → va_D A (wW_X3_numberHere ak ad hr_ ra ht pg Rcoded Rtaken Rtoken Rplace Rvalue Rfault) → va_S A s.heap H locs → W p l e R s m args below meth c H locs cells slots Q (F0 m 49 ls [.int r]))
    : ∀ (Rfault : Int32) (H : Heap) (locs : List Loc) (ls : Array Slot), wp_X3_numberHere Rtoken Rplace Rvalue xl xg Rfault Φ → va_P D vwCl (wW_X3_numberHere ak ad hr_ ra ht pg Rcoded Rtaken Rtoken Rplace Rvalue Rfault) H → va_D A (wW_X3_numberHere ak ad hr_ ra ht pg Rcoded Rtaken Rtoken Rplace Rvalue Rfault) → va_S A s.heap H locs → lv_has ls 3 [(0, .ref hr_), (1, .int (xl)), (2, .int (xg))] → W p l e R s m args below meth c H locs cells slots Q (F0 m 0 ls ([])) := by
  intro Rfault H locs ls hw hP hD hS hl
  delta wp_X3_numberHere at hw
  refine lv_aload_n hx hb dX3_numberHere_0 rfl (lv_at hl 0 rfl) ?_
  refine vt_get (D := D) (ci := 3) (v := .ref (ad Rtoken)) (C := RX3) (T := TX3) (N := 11) hx hb hts (fun w h => wm_c (wc_X3 w h)) hown hE.1 hP 0 rfl rfl 7 (by decide) tX3_7 (hts (.fieldLink RX3 28 "WornLines$Reader" "token" "LWornLines$Token;") (wm_c hw_290)) (fun _ h9 => h9) rfl dX3_numberHere_1 ?_
  refine va_gets hx hb (hT.1 2 (by decide)).1 hS hown (hts (.fieldLink RX3 228 "WornLines$Token" "A_NUMBER" "LWornLines$Token;") (wm_c hw_419)) (fun _ h9 => h9) dX3_numberHere_4 ?_
  obtain ⟨h_1, hw⟩ := hw
  refine W.eq (g2 := F0 m 7 ls (va_rf (some (ad 2)) :: va_rf (some (ad Rtoken)) :: [])) rfl ?_
  refine lv_acmp_eq (tgt := 17) hx hb dX3_numberHere_7 (by decide) (fun c_2 => ?_) (fun c_2 => ?_)
  · replace hw := hw.1 (tok_inj hT h_1 (by decide) c_2)
    refine lv_aload_n hx hb dX3_numberHere_17 rfl (lv_at hl 0 rfl) ?_
    refine vt_get (D := D) (ci := 3) (v := .long (Rvalue)) (C := RX3) (T := TX3) (N := 11) hx hb hts (fun w h => wm_c (wc_X3 w h)) hown hE.1 hP 0 rfl rfl 9 (by decide) tX3_9 (hts (.fieldLink RX3 224 "WornLines$Reader" "value" "J") (wm_c hw_431)) (fun _ h9 => h9) rfl dX3_numberHere_18 ?_
    refine lv_iload_n hx hb dX3_numberHere_21 rfl (lv_at hl 1 rfl) ?_
    refine lv_i2l (v := xl.toInt64) hx hb dX3_numberHere_22 rfl ?_
    refine W.lcmp hx hb dX3_numberHere_23 ?_
    refine lv_if_lt (tgt := 37) hx hb dX3_numberHere_24 (by decide) (fun c_3 => ?_) (fun c_3 => ?_)
    · replace hw := hw.1 c_3
      refine lv_aload_n hx hb dX3_numberHere_37 rfl (lv_at hl 0 rfl) ?_
      refine lv_iconst (v := 4) hx hb dX3_numberHere_38 (by decide) ?_
      refine kc_v (wc := (wW_X3_fail ak ad hr_ ra ht pg Rcoded Rtaken Rtoken Rplace Rvalue Rfault)) (wr := []) hP hD hS hA [0] [] rfl rfl (by decide) (by decide) (va_runV (As := [.int (4)]) (rest := []) ⟨hx, hb, hml, hown, hts⟩ (c_X3_fail l D ak ad _ hr_ ra ht pg Rcoded Rtaken Rtoken Rplace Rvalue Rfault 4 _ hw) (cwV 1 hts gX3_numberHere_X3_fail rfl rfl rfl hv_X3_fail ⟨(Nat.le_trans (Nat.le_of_ble_eq_true rfl) hRf), (Nat.le_trans (Nat.le_of_ble_eq_true rfl) hRl)⟩) (kc_preV (As := [.int (4)]) (wc := (wW_X3_fail ak ad hr_ ra ht pg Rcoded Rtaken Rtoken Rplace Rvalue Rfault)) hE hT hP hD hS hA [0] (by decide) rfl rfl 0 3 rfl rfl rfl) rfl rfl hl.1 rfl (lv_room (Nat.le_of_ble_eq_true rfl)) dX3_numberHere_39 ⟨hRc.1, hRc.2⟩) (fun Rfault_5 H locs hw hP hD hS => ?_)
      try dsimp -zeta only at hw
      have hP : va_P D vwCl (wW_X3_numberHere ak ad hr_ ra ht pg Rcoded Rtaken Rtoken Rplace Rvalue Rfault_5) H := hP.sub [0] rfl
      have hD : va_D A (wW_X3_numberHere ak ad hr_ ra ht pg Rcoded Rtaken Rtoken Rplace Rvalue Rfault_5) := hD.sub [0] (by decide) rfl
      refine lv_iload_n hx hb dX3_numberHere_42 rfl (lv_at hl 1 rfl) ?_
      exact kR43 xl Rfault_5 _ _ _ hw hP hD hS
    · replace hw := hw.2 c_3
      refine lv_aload_n hx hb dX3_numberHere_27 rfl (lv_at hl 0 rfl) ?_
      refine vt_get (D := D) (ci := 3) (v := .long (Rvalue)) (C := RX3) (T := TX3) (N := 11) hx hb hts (fun w h => wm_c (wc_X3 w h)) hown hE.1 hP 0 rfl rfl 9 (by decide) tX3_9 (hts (.fieldLink RX3 224 "WornLines$Reader" "value" "J") (wm_c hw_431)) (fun _ h9 => h9) rfl dX3_numberHere_28 ?_
      refine lv_iload_n hx hb dX3_numberHere_31 rfl (lv_at hl 2 rfl) ?_
      refine lv_i2l (v := xg.toInt64) hx hb dX3_numberHere_32 rfl ?_
      refine W.lcmp hx hb dX3_numberHere_33 ?_
      refine lv_if_le (tgt := 44) hx hb dX3_numberHere_34 (by decide) (fun c_7 => ?_) (fun c_7 => ?_)
      · replace hw := hw.1 c_7
        refine lv_aload_n hx hb dX3_numberHere_44 rfl (lv_at hl 0 rfl) ?_
        refine vt_get (D := D) (ci := 3) (v := .long (Rvalue)) (C := RX3) (T := TX3) (N := 11) hx hb hts (fun w h => wm_c (wc_X3 w h)) hown hE.1 hP 0 rfl rfl 9 (by decide) tX3_9 (hts (.fieldLink RX3 224 "WornLines$Reader" "value" "J") (wm_c hw_431)) (fun _ h9 => h9) rfl dX3_numberHere_45 ?_
        refine lv_l2i (v := Rvalue.toInt32) hx hb dX3_numberHere_48 rfl ?_
        exact kR49 Rvalue.toInt32 Rfault _ _ _ hw hP hD hS
      · replace hw := hw.2 c_7
        refine lv_aload_n hx hb dX3_numberHere_37 rfl (lv_at hl 0 rfl) ?_
        refine lv_iconst (v := 4) hx hb dX3_numberHere_38 (by decide) ?_
        refine kc_v (wc := (wW_X3_fail ak ad hr_ ra ht pg Rcoded Rtaken Rtoken Rplace Rvalue Rfault)) (wr := []) hP hD hS hA [0] [] rfl rfl (by decide) (by decide) (va_runV (As := [.int (4)]) (rest := []) ⟨hx, hb, hml, hown, hts⟩ (c_X3_fail l D ak ad _ hr_ ra ht pg Rcoded Rtaken Rtoken Rplace Rvalue Rfault 4 _ hw) (cwV 1 hts gX3_numberHere_X3_fail rfl rfl rfl hv_X3_fail ⟨(Nat.le_trans (Nat.le_of_ble_eq_true rfl) hRf), (Nat.le_trans (Nat.le_of_ble_eq_true rfl) hRl)⟩) (kc_preV (As := [.int (4)]) (wc := (wW_X3_fail ak ad hr_ ra ht pg Rcoded Rtaken Rtoken Rplace Rvalue Rfault)) hE hT hP hD hS hA [0] (by decide) rfl rfl 0 3 rfl rfl rfl) rfl rfl hl.1 rfl (lv_room (Nat.le_of_ble_eq_true rfl)) dX3_numberHere_39 ⟨hRc.1, hRc.2⟩) (fun Rfault_9 H locs hw hP hD hS => ?_)
        try dsimp -zeta only at hw
        have hP : va_P D vwCl (wW_X3_numberHere ak ad hr_ ra ht pg Rcoded Rtaken Rtoken Rplace Rvalue Rfault_9) H := hP.sub [0] rfl
        have hD : va_D A (wW_X3_numberHere ak ad hr_ ra ht pg Rcoded Rtaken Rtoken Rplace Rvalue Rfault_9) := hD.sub [0] (by decide) rfl
        refine lv_iload_n hx hb dX3_numberHere_42 rfl (lv_at hl 1 rfl) ?_
        exact kR43 xl Rfault_9 _ _ _ hw hP hD hS
  · replace hw := hw.2 (fun h9 => c_2 (by rw [h9]))
    refine lv_aload_n hx hb dX3_numberHere_10 rfl (lv_at hl 0 rfl) ?_
    refine lv_iconst (v := 1) hx hb dX3_numberHere_11 (by decide) ?_
    refine kc_v (wc := (wW_X3_fail ak ad hr_ ra ht pg Rcoded Rtaken Rtoken Rplace Rvalue Rfault)) (wr := []) hP hD hS hA [0] [] rfl rfl (by decide) (by decide) (va_runV (As := [.int (1)]) (rest := []) ⟨hx, hb, hml, hown, hts⟩ (c_X3_fail l D ak ad _ hr_ ra ht pg Rcoded Rtaken Rtoken Rplace Rvalue Rfault 1 _ hw) (cwV 1 hts gX3_numberHere_X3_fail rfl rfl rfl hv_X3_fail ⟨(Nat.le_trans (Nat.le_of_ble_eq_true rfl) hRf), (Nat.le_trans (Nat.le_of_ble_eq_true rfl) hRl)⟩) (kc_preV (As := [.int (1)]) (wc := (wW_X3_fail ak ad hr_ ra ht pg Rcoded Rtaken Rtoken Rplace Rvalue Rfault)) hE hT hP hD hS hA [0] (by decide) rfl rfl 0 3 rfl rfl rfl) rfl rfl hl.1 rfl (lv_room (Nat.le_of_ble_eq_true rfl)) dX3_numberHere_12 ⟨hRc.1, hRc.2⟩) (fun Rfault_12 H locs hw hP hD hS => ?_)
    try dsimp -zeta only at hw
    have hP : va_P D vwCl (wW_X3_numberHere ak ad hr_ ra ht pg Rcoded Rtaken Rtoken Rplace Rvalue Rfault_12) H := hP.sub [0] rfl
    have hD : va_D A (wW_X3_numberHere ak ad hr_ ra ht pg Rcoded Rtaken Rtoken Rplace Rvalue Rfault_12) := hD.sub [0] (by decide) rfl
    refine lv_iload_n hx hb dX3_numberHere_15 rfl (lv_at hl 1 rfl) ?_
    exact kR16 xl Rfault_12 _ _ _ hw hP hD hS
set_option maxHeartbeats 4000000 in
set_option maxRecDepth 100000 in
theorem c_X3_numberHere (l : Launch) (D : va_G) (ak : Nat → ClassId) (ad : Nat → Nat) (sz : Nat) (hr_ : Nat) (ra : Nat → Nat) (ht : Nat) (pg : Nat) (Rcoded : Int32) (Rtaken : Int32) (Rtoken : Nat) (Rplace : Int32) (Rvalue : Int64) (Rfault : Int32) (xl : Int32) (xg : Int32) (Φ : Int32 → Int32 → Prop) (hf : wp_X3_numberHere Rtoken Rplace Rvalue xl xg Rfault Φ) : Met l yX3_numberHere wsX3_numberHere ({ frames := 1, cells := 0, slots := 0, locals := 21 }) (cPre D ak ad [.ref hr_, .int (xl), .int (xg)] ((wW_X3_numberHere ak ad hr_ ra ht pg Rcoded Rtaken Rtoken Rplace Rvalue Rfault)) sz) (cI D (S := (Int32)) (fun (r : Int32) (u : (Int32)) => Φ r u) (fun u => (wW_X3_numberHere ak ad hr_ ra ht pg Rcoded Rtaken Rtoken Rplace Rvalue u)) ((wW_X3_numberHere ak ad hr_ ra ht pg Rcoded Rtaken Rtoken Rplace Rvalue Rfault)) sz) 0 0 (va_A ((wW_X3_numberHere ak ad hr_ ra ht pg Rcoded Rtaken Rtoken Rplace Rvalue Rfault)) sz) := by
  refine Met.ofW (cc := cX3_numberHere) (maxL := 3) (ret := (some .int)) (by decide) rfl ?_
  intro p e s m args below meth c s₁ B hml hv
  obtain ⟨rfl, hsz, hP, hE, hD0, hT⟩ := hv
  have hx := B.exec
  have hb := B.bytes
  have hr := B.returns
  have hts := atoms_spec (ws := wsX3_numberHere) B.pre
  have hown : s.vm.findClass RX3 = some m.cls := findClass_of_methodNamed B.named
  have hlocks := B.notSynchronized
  subst hsz
  have hD := hD0.self (sz := s.heap.size)
  generalize hAe : va_A ((wW_X3_numberHere ak ad hr_ ra ht pg Rcoded Rtaken Rtoken Rplace Rvalue Rfault)) s.heap.size = A at hD hT ⊢
  have hA : ∀ q : Nat, s.heap.size ≤ q → A q := fun q h => by rw [← hAe]; exact Or.inr h
  have hS : va_S A s.heap s.heap [] := va_S.rf
  have hl := lv_entry ([.ref hr_, .int (xl), .int (xg)]) (n := 3) (Nat.le_of_ble_eq_true rfl)
  rw [lg_entry_eq]
  generalize (lg_sl ([.ref hr_, .int (xl), .int (xg)]) ++ List.replicate (3 - (lg_sl ([.ref hr_, .int (xl), .int (xg)])).length) Slot.unset).toArray = ls at hl ⊢
  have hl : lv_has ls 3 [(0, .ref hr_), (1, .int (xl)), (2, .int (xg))] := hl
  exact kj_X3_numberHere_e hx hb hown hts hml hE hT hA (Nat.le_of_ble_eq_true rfl) (Nat.le_of_ble_eq_true rfl) ⟨Nat.le_of_ble_eq_true rfl, Nat.le_of_ble_eq_true rfl⟩ hr_ ra ht pg Rcoded Rtaken Rtoken Rplace Rvalue xl xg Φ (fun r Rfault H locs ls hw hP hD hS => W.iret (v := r) hx hb hr (fun t ht hW => ⟨⟨r, Rfault, rfl, hw, by rw [ht]; exact hP, by rw [hAe]; exact hD⟩, by rw [hAe]; exact hS.F ht⟩) hS.2.2 dX3_numberHere_16) (fun r Rfault H locs ls hw hP hD hS => W.iret (v := r) hx hb hr (fun t ht hW => ⟨⟨r, Rfault, rfl, hw, by rw [ht]; exact hP, by rw [hAe]; exact hD⟩, by rw [hAe]; exact hS.F ht⟩) hS.2.2 dX3_numberHere_43) (fun r Rfault H locs ls hw hP hD hS => W.iret (v := r) hx hb hr (fun t ht hW => ⟨⟨r, Rfault, rfl, hw, by rw [ht]; exact hP, by rw [hAe]; exact hD⟩, by rw [hAe]; exact hS.F ht⟩) hS.2.2 dX3_numberHere_49) Rfault _ _ _ hf hP hD hS hl

def wW_X3_takeNumber (ak : Nat → ClassId) (ad : Nat → Nat) (hr_ : Nat) (ra : Nat → Nat) (ht : Nat) (ta : Nat → Nat) (pg : Nat) (Rcoded : Int32) (Rtaken : Int32) (Rtoken : Nat) (Rplace : Int32) (Rvalue : Int64) (Rfault : Int32) (Tlen : Int32) (Tcnt : Int32) (Ttoks : Nat → Nat) (Tplc : Nat → Int32) (Tvals : Nat → Int64) : va_W := [(hr_, .inr (3, rob ad ra (ht) (Rcoded) (pg) (Rtaken) (Rtoken) (Rplace) (Rvalue) (Rfault))), (ht, .inr (5, tob ta (Tlen) (Tcnt))), ((ta 1), .inl (ak 4, 1001, .inr (.inr (.inr (.inr (tokA ad (Ttoks))))))), ((ta 2), .inl (ak 0, 1001, .inl (Tplc))), ((ta 3), .inl (ak 1, 1001, .inr (.inl (Tvals))))]
def wp_X3_takeNumber (Tcnt : Int32) (Ttoks : Nat → Nat) (Tplc : Nat → Int32) (Tvals : Nat → Int64) (xl : Int32) (xg : Int32) (Rtaken : Int32) (Rtoken : Nat) (Rplace : Int32) (Rvalue : Int64) (Rfault : Int32) (Φ : Int32 → Int32 → Nat → Int32 → Int64 → Int32 → Prop) : Prop := wp_X3_numberHere Rtoken Rplace Rvalue xl xg Rfault (fun r_3 Rfault_2 => wp_X3_advance Tcnt Ttoks Tplc Tvals Rtaken Rtoken Rplace Rvalue (fun Rtaken_5 Rtoken_6 Rplace_7 Rvalue_8 => Φ r_3 Rtaken_5 Rtoken_6 Rplace_7 Rvalue_8 Rfault_2))
set_option maxHeartbeats 4000000 in
set_option maxRecDepth 100000 in
theorem kj_X3_takeNumber_e {p : Program} {l : Launch} {e : Env} {R : Room} {s : State} {m : MethodId} {args : Array Value} {below : List Frame} {meth : Method} {c : Code} {cells slots : Nat} {Q : State → Prop} {A : Nat → Prop} {D : va_G} {ak : Nat → ClassId} {ad : Nat → Nat} (hx : p.tables.exec = Jvm.exec) (hb : c.code = cX3_takeNumber) (hown : s.vm.findClass RX3 = some m.cls) (hts : ∀ w ∈ wsX3_takeNumber, w.before args s = true) (hml : c.maxLocals = 4) (hE : EV D ak s) (hT : ST D ak ad A s s.heap) (hA : ∀ q, s.heap.size ≤ q → A q) (hRf : 2 ≤ R.frames) (hRl : 43 ≤ R.locals) (hRc : cells ≤ R.cells ∧ slots ≤ R.slots) (hr_ : Nat) (ra : Nat → Nat) (ht : Nat) (ta : Nat → Nat) (pg : Nat) (Rcoded : Int32) (Tlen : Int32) (Tcnt : Int32) (Ttoks : Nat → Nat) (Tplc : Nat → Int32) (Tvals : Nat → Int64) (xl : Int32) (xg : Int32)  (Φ : Int32 → Int32 → Nat → Int32 → Int64 → Int32 → Prop)
    (kR12 : ∀ (r : Int32) (Rtaken : Int32) (Rtoken : Nat) (Rplace : Int32) (Rvalue : Int64) (Rfault : Int32) (H : Heap) (locs : List Loc) (ls : Array Slot), Φ r Rtaken Rtoken Rplace Rvalue Rfault → va_P D vwCl (wW_X3_takeNumber ak ad hr_ ra ht ta pg Rcoded Rtaken Rtoken Rplace Rvalue Rfault Tlen Tcnt Ttoks Tplc Tvals) H → va_D A (wW_X3_takeNumber ak ad hr_ ra ht ta pg Rcoded Rtaken Rtoken Rplace Rvalue Rfault Tlen Tcnt Ttoks Tplc Tvals) → va_S A s.heap H locs → W p l e R s m args below meth c H locs cells slots Q (F0 m 12 ls [.int r]))
    : ∀ (Rtaken : Int32) (Rtoken : Nat) (Rplace : Int32) (Rvalue : Int64) (Rfault : Int32) (H : Heap) (locs : List Loc) (ls : Array Slot), wp_X3_takeNumber Tcnt Ttoks Tplc Tvals xl xg Rtaken Rtoken Rplace Rvalue Rfault Φ → va_P D vwCl (wW_X3_takeNumber ak ad hr_ ra ht ta pg Rcoded Rtaken Rtoken Rplace Rvalue Rfault Tlen Tcnt Ttoks Tplc Tvals) H → va_D A (wW_X3_takeNumber ak ad hr_ ra ht ta pg Rcoded Rtaken Rtoken Rplace Rvalue Rfault Tlen Tcnt Ttoks Tplc Tvals) → va_S A s.heap H locs → lv_has ls 4 [(0, .ref hr_), (1, .int (xl)), (2, .int (xg))] → W p l e R s m args below meth c H locs cells slots Q (F0 m 0 ls ([])) := by
  intro Rtaken Rtoken Rplace Rvalue Rfault H locs ls hw hP hD hS hl
  delta wp_X3_takeNumber at hw
  refine lv_aload_n hx hb dX3_takeNumber_0 rfl (lv_at hl 0 rfl) ?_
  refine lv_iload_n hx hb dX3_takeNumber_1 rfl (lv_at hl 1 rfl) ?_
  refine lv_iload_n hx hb dX3_takeNumber_2 rfl (lv_at hl 2 rfl) ?_
  refine kc_i (wc := (wW_X3_numberHere ak ad hr_ ra ht pg Rcoded Rtaken Rtoken Rplace Rvalue Rfault)) (wr := [(ht, .inr (5, tob ta (Tlen) (Tcnt))), ((ta 1), .inl (ak 4, 1001, .inr (.inr (.inr (.inr (tokA ad (Ttoks))))))), ((ta 2), .inl (ak 0, 1001, .inl (Tplc))), ((ta 3), .inl (ak 1, 1001, .inr (.inl (Tvals))))]) hP hD hS hA [0] [1, 2, 3, 4] rfl rfl (by decide) (by decide) (va_runV (As := [.int (xl), .int (xg)]) (rest := []) ⟨hx, hb, hml, hown, hts⟩ (c_X3_numberHere l D ak ad _ hr_ ra ht pg Rcoded Rtaken Rtoken Rplace Rvalue Rfault xl xg _ hw) (cwV 2 hts gX3_takeNumber_X3_numberHere rfl rfl rfl hv_X3_numberHere ⟨(Nat.le_trans (Nat.le_of_ble_eq_true rfl) hRf), (Nat.le_trans (Nat.le_of_ble_eq_true rfl) hRl)⟩) (kc_preV (As := [.int (xl), .int (xg)]) (wc := (wW_X3_numberHere ak ad hr_ ra ht pg Rcoded Rtaken Rtoken Rplace Rvalue Rfault)) hE hT hP hD hS hA [0] (by decide) rfl rfl 0 3 rfl rfl rfl) rfl rfl hl.1 rfl (lv_room (Nat.le_of_ble_eq_true rfl)) dX3_takeNumber_3 ⟨hRc.1, hRc.2⟩) (fun r_3 Rfault_2 H locs hw hP hD hS => ?_)
  try dsimp -zeta only at hw
  have hP : va_P D vwCl (wW_X3_takeNumber ak ad hr_ ra ht ta pg Rcoded Rtaken Rtoken Rplace Rvalue Rfault_2 Tlen Tcnt Ttoks Tplc Tvals) H := hP.sub [4, 0, 1, 2, 3] rfl
  have hD : va_D A (wW_X3_takeNumber ak ad hr_ ra ht ta pg Rcoded Rtaken Rtoken Rplace Rvalue Rfault_2 Tlen Tcnt Ttoks Tplc Tvals) := hD.sub [4, 0, 1, 2, 3] (by decide) rfl
  refine lv_istore_n (lv' := [(3, .int (r_3)), (0, .ref hr_), (1, .int (xl)), (2, .int (xg))]) hx hb dX3_takeNumber_6 rfl hl (by decide) rfl (fun ls hl => ?_)
  refine lv_aload_n hx hb dX3_takeNumber_7 rfl (lv_at hl 1 rfl) ?_
  refine kc_v (wc := (wW_X3_advance ak ad hr_ ra ht ta pg Rcoded Rtaken Rtoken Rplace Rvalue Rfault_2 Tlen Tcnt Ttoks Tplc Tvals)) (wr := []) hP hD hS hA [0, 1, 2, 3, 4] [] rfl rfl (by decide) (by decide) (va_runV (As := []) (rest := []) ⟨hx, hb, hml, hown, hts⟩ (c_X3_advance l D ak ad _ hr_ ra ht ta pg Rcoded Rtaken Rtoken Rplace Rvalue Rfault_2 Tlen Tcnt Ttoks Tplc Tvals _ hw) (cwV 0 hts gX3_takeNumber_X3_advance rfl rfl rfl hv_X3_advance ⟨(Nat.le_trans (Nat.le_of_ble_eq_true rfl) hRf), (Nat.le_trans (Nat.le_of_ble_eq_true rfl) hRl)⟩) (kc_preV (As := []) (wc := (wW_X3_advance ak ad hr_ ra ht ta pg Rcoded Rtaken Rtoken Rplace Rvalue Rfault_2 Tlen Tcnt Ttoks Tplc Tvals)) hE hT hP hD hS hA [0, 1, 2, 3, 4] (by decide) rfl rfl 0 3 rfl rfl rfl) rfl rfl hl.1 rfl (lv_room (Nat.le_of_ble_eq_true rfl)) dX3_takeNumber_8 ⟨hRc.1, hRc.2⟩) (fun u_4 H locs hw hP hD hS => ?_)
  obtain ⟨Rtaken_5, Rtoken_6, Rplace_7, Rvalue_8⟩ := u_4
  try dsimp -zeta only at hw
  have hP : va_P D vwCl (wW_X3_takeNumber ak ad hr_ ra ht ta pg Rcoded Rtaken_5 Rtoken_6 Rplace_7 Rvalue_8 Rfault_2 Tlen Tcnt Ttoks Tplc Tvals) H := hP.sub [0, 1, 2, 3, 4] rfl
  have hD : va_D A (wW_X3_takeNumber ak ad hr_ ra ht ta pg Rcoded Rtaken_5 Rtoken_6 Rplace_7 Rvalue_8 Rfault_2 Tlen Tcnt Ttoks Tplc Tvals) := hD.sub [0, 1, 2, 3, 4] (by decide) rfl
  refine lv_iload_n hx hb dX3_takeNumber_11 rfl (lv_at hl 0 rfl) ?_
  exact kR12 r_3 Rtaken_5 Rtoken_6 Rplace_7 Rvalue_8 Rfault_2 _ _ _ hw hP hD hS
set_option maxHeartbeats 4000000 in
set_option maxRecDepth 100000 in
theorem c_X3_takeNumber (l : Launch) (D : va_G) (ak : Nat → ClassId) (ad : Nat → Nat) (sz : Nat) (hr_ : Nat) (ra : Nat → Nat) (ht : Nat) (ta : Nat → Nat) (pg : Nat) (Rcoded : Int32) (Rtaken : Int32) (Rtoken : Nat) (Rplace : Int32) (Rvalue : Int64) (Rfault : Int32) (Tlen : Int32) (Tcnt : Int32) (Ttoks : Nat → Nat) (Tplc : Nat → Int32) (Tvals : Nat → Int64) (xl : Int32) (xg : Int32) (Φ : Int32 → Int32 → Nat → Int32 → Int64 → Int32 → Prop) (hf : wp_X3_takeNumber Tcnt Ttoks Tplc Tvals xl xg Rtaken Rtoken Rplace Rvalue Rfault Φ) : Met l yX3_takeNumber wsX3_takeNumber ({ frames := 2, cells := 0, slots := 0, locals := 43 }) (cPre D ak ad [.ref hr_, .int (xl), .int (xg)] ((wW_X3_takeNumber ak ad hr_ ra ht ta pg Rcoded Rtaken Rtoken Rplace Rvalue Rfault Tlen Tcnt Ttoks Tplc Tvals)) sz) (cI D (S := (Int32) × (Nat) × (Int32) × (Int64) × (Int32)) (fun (r : Int32) (u : (Int32) × (Nat) × (Int32) × (Int64) × (Int32)) => Φ r u.1 u.2.1 u.2.2.1 u.2.2.2.1 u.2.2.2.2) (fun u => (wW_X3_takeNumber ak ad hr_ ra ht ta pg Rcoded u.1 u.2.1 u.2.2.1 u.2.2.2.1 u.2.2.2.2 Tlen Tcnt Ttoks Tplc Tvals)) ((wW_X3_takeNumber ak ad hr_ ra ht ta pg Rcoded Rtaken Rtoken Rplace Rvalue Rfault Tlen Tcnt Ttoks Tplc Tvals)) sz) 0 0 (va_A ((wW_X3_takeNumber ak ad hr_ ra ht ta pg Rcoded Rtaken Rtoken Rplace Rvalue Rfault Tlen Tcnt Ttoks Tplc Tvals)) sz) := by
  refine Met.ofW (cc := cX3_takeNumber) (maxL := 4) (ret := (some .int)) (by decide) rfl ?_
  intro p e s m args below meth c s₁ B hml hv
  obtain ⟨rfl, hsz, hP, hE, hD0, hT⟩ := hv
  have hx := B.exec
  have hb := B.bytes
  have hr := B.returns
  have hts := atoms_spec (ws := wsX3_takeNumber) B.pre
  have hown : s.vm.findClass RX3 = some m.cls := findClass_of_methodNamed B.named
  have hlocks := B.notSynchronized
  subst hsz
  have hD := hD0.self (sz := s.heap.size)
  generalize hAe : va_A ((wW_X3_takeNumber ak ad hr_ ra ht ta pg Rcoded Rtaken Rtoken Rplace Rvalue Rfault Tlen Tcnt Ttoks Tplc Tvals)) s.heap.size = A at hD hT ⊢
  have hA : ∀ q : Nat, s.heap.size ≤ q → A q := fun q h => by rw [← hAe]; exact Or.inr h
  have hS : va_S A s.heap s.heap [] := va_S.rf
  have hl := lv_entry ([.ref hr_, .int (xl), .int (xg)]) (n := 4) (Nat.le_of_ble_eq_true rfl)
  rw [lg_entry_eq]
  generalize (lg_sl ([.ref hr_, .int (xl), .int (xg)]) ++ List.replicate (4 - (lg_sl ([.ref hr_, .int (xl), .int (xg)])).length) Slot.unset).toArray = ls at hl ⊢
  have hl : lv_has ls 4 [(0, .ref hr_), (1, .int (xl)), (2, .int (xg))] := hl
  exact kj_X3_takeNumber_e hx hb hown hts hml hE hT hA (Nat.le_of_ble_eq_true rfl) (Nat.le_of_ble_eq_true rfl) ⟨Nat.le_of_ble_eq_true rfl, Nat.le_of_ble_eq_true rfl⟩ hr_ ra ht ta pg Rcoded Tlen Tcnt Ttoks Tplc Tvals xl xg Φ (fun r Rtaken Rtoken Rplace Rvalue Rfault H locs ls hw hP hD hS => W.iret (v := r) hx hb hr (fun t ht hW => ⟨⟨r, (Rtaken, Rtoken, Rplace, Rvalue, Rfault), rfl, hw, by rw [ht]; exact hP, by rw [hAe]; exact hD⟩, by rw [hAe]; exact hS.F ht⟩) hS.2.2 dX3_takeNumber_12) Rtaken Rtoken Rplace Rvalue Rfault _ _ _ hf hP hD hS hl

def wW_X3_find (ak : Nat → ClassId) (ad : Nat → Nat) (hr_ : Nat) (ra : Nat → Nat) (ht : Nat) (pg : Nat) (na : Nat) (nl : Nat) (Rcoded : Int32) (Rtaken : Int32) (Rtoken : Nat) (Rplace : Int32) (Rvalue : Int64) (Rfault : Int32) (An : Nat → Int64) : va_W := [(hr_, .inr (3, rob ad ra (ht) (Rcoded) (pg) (Rtaken) (Rtoken) (Rplace) (Rvalue) (Rfault))), (na, .inl (ak 1, nl, .inr (.inl (An))))]
def lb_X3_find_2 (Rvalue : Int64) (An : Nat → Int64) (nl : Nat) (xc : Int32)  (Φ : Int32 → Prop) (back : Int32 → Prop) (l3 : Int32) : Prop := (xc ≤ l3 → Φ (-1) ) ∧ (¬ xc ≤ l3 → ((nI nl) ≤ l3 → Φ (-1) ) ∧ (¬ (nI nl) ≤ l3 → vp_in l3 nl ∧ (¬ (lg_cmp (An (l3).toNatClampNeg) Rvalue) = 0 → back (l3 + 1)) ∧ ((lg_cmp (An (l3).toNatClampNeg) Rvalue) = 0 → Φ l3 )))
def lf_X3_find_2 (Rvalue : Int64) (An : Nat → Int64) (nl : Nat) (xc : Int32)  (Φ : Int32 → Prop) : Nat → Int32 → Prop
  | 0, _ => False
  | n_ + 1, l3 => lb_X3_find_2 Rvalue An nl xc  Φ (lf_X3_find_2 Rvalue An nl xc  Φ n_) l3
theorem li_X3_find_2 (Rvalue : Int64) (An : Nat → Int64) (nl : Nat) (xc : Int32)  (Φ : Int32 → Prop) (Inv : Int32 → Prop) (mu : Int32 → Nat) (hs : ∀ (back : Int32 → Prop) (l3 : Int32), Inv l3 → (∀ (l3' : Int32), Inv l3' → mu l3' < mu l3 → back l3') → lb_X3_find_2 Rvalue An nl xc  Φ back l3) : ∀ (n_ : Nat) (l3 : Int32), Inv l3 → mu l3 < n_ → lf_X3_find_2 Rvalue An nl xc  Φ n_ l3 := by
  intro n_
  induction n_ with
  | zero => intro l3 _ h; exact absurd h (Nat.not_lt_zero _)
  | succ n_ ih => intro l3 hI hm; exact hs _ l3 hI (fun l3' h1 h2 => ih l3' h1 (by omega))
set_option maxHeartbeats 4000000 in
set_option maxRecDepth 100000 in
theorem lp_X3_find_2 {p : Program} {l : Launch} {e : Env} {R : Room} {s : State} {m : MethodId} {args : Array Value} {below : List Frame} {meth : Method} {c : Code} {cells slots : Nat} {Q : State → Prop} {A : Nat → Prop} {D : va_G} {ak : Nat → ClassId} {ad : Nat → Nat} (hx : p.tables.exec = Jvm.exec) (hb : c.code = cX3_find) (hown : s.vm.findClass RX3 = some m.cls) (hts : ∀ w ∈ wsX3_find, w.before args s = true) (hml : c.maxLocals = 4) (hE : EV D ak s) (hT : ST D ak ad A s s.heap) (hA : ∀ q, s.heap.size ≤ q → A q) (hr_ : Nat) (ra : Nat → Nat) (ht : Nat) (pg : Nat) (na : Nat) (nl : Nat) (Rcoded : Int32) (Rtaken : Int32) (Rtoken : Nat) (Rplace : Int32) (Rvalue : Int64) (Rfault : Int32) (An : Nat → Int64) (xc : Int32)  (Φ : Int32 → Prop)
    (kR25 : ∀ (r : Int32)  (H : Heap) (locs : List Loc) (ls : Array Slot), Φ r  → va_P D vwCl (wW_X3_find ak ad hr_ ra ht pg na nl Rcoded Rtaken Rtoken Rplace Rvalue Rfault An) H → va_D A (wW_X3_find ak ad hr_ ra ht pg na nl Rcoded Rtaken Rtoken Rplace Rvalue Rfault An) → va_S A s.heap H locs → W p l e R s m args below meth c H locs cells slots Q (F0 m 25 ls [.int r]))
    (kR33 : ∀ (r : Int32)  (H : Heap) (locs : List Loc) (ls : Array Slot), Φ r  → va_P D vwCl (wW_X3_find ak ad hr_ ra ht pg na nl Rcoded Rtaken Rtoken Rplace Rvalue Rfault An) H → va_D A (wW_X3_find ak ad hr_ ra ht pg na nl Rcoded Rtaken Rtoken Rplace Rvalue Rfault An) → va_S A s.heap H locs → W p l e R s m args below meth c H locs cells slots Q (F0 m 33 ls [.int r]))
    : ∀ (n_ : Nat) (l3 : Int32) (H : Heap) (locs : List Loc) (ls : Array Slot), lf_X3_find_2 Rvalue An nl xc  Φ n_ l3 → va_P D vwCl (wW_X3_find ak ad hr_ ra ht pg na nl Rcoded Rtaken Rtoken Rplace Rvalue Rfault An) H → va_D A (wW_X3_find ak ad hr_ ra ht pg na nl Rcoded Rtaken Rtoken Rplace Rvalue Rfault An) → va_S A s.heap H locs → lv_has ls 4 [(0, .ref hr_), (1, .ref na), (2, .int (xc)), (3, .int (l3))] → W p l e R s m args below meth c H locs cells slots Q (F0 m 2 ls ([])) := by
  intro n_
  induction n_ with
  | zero =>
    intro l3 H locs ls hw
    exact hw.elim
  | succ n_ ih =>
    intro l3 H locs ls hw hP hD hS hl
    have hw : lb_X3_find_2 Rvalue An nl xc  Φ (lf_X3_find_2 Rvalue An nl xc  Φ n_) l3 := hw
    delta lb_X3_find_2 at hw
    refine lv_iload_n hx hb dX3_find_2 rfl (lv_at hl 3 rfl) ?_
    refine lv_iload_n hx hb dX3_find_3 rfl (lv_at hl 2 rfl) ?_
    refine lv_icmp_ge (tgt := 32) hx hb dX3_find_4 (by decide) (fun c_1 => ?_) (fun c_1 => ?_)
    · replace hw := hw.1 c_1
      refine lv_iconst (v := (-1)) hx hb dX3_find_32 (by decide) ?_
      exact kR33 (-1)  _ _ _ hw hP hD hS
    · replace hw := hw.2 c_1
      refine lv_iload_n hx hb dX3_find_7 rfl (lv_at hl 3 rfl) ?_
      refine lv_aload_n hx hb dX3_find_8 rfl (lv_at hl 1 rfl) ?_
      refine va_alen hx hb hE.1 hP 1 1 rfl rfl (v := nI nl) rfl dX3_find_9 ?_
      refine lv_icmp_ge (tgt := 32) hx hb dX3_find_10 (by decide) (fun c_2 => ?_) (fun c_2 => ?_)
      · replace hw := hw.1 c_2
        refine lv_iconst (v := (-1)) hx hb dX3_find_32 (by decide) ?_
        exact kR33 (-1)  _ _ _ hw hP hD hS
      · replace hw := hw.2 c_2
        refine lv_aload_n hx hb dX3_find_13 rfl (lv_at hl 1 rfl) ?_
        refine lv_iload_n hx hb dX3_find_14 rfl (lv_at hl 3 rfl) ?_
        obtain ⟨h_3, hw⟩ := hw
        refine va_lald hx hb hE.1 hP 1 1 rfl rfl (h_3) dX3_find_15 ?_
        refine lv_aload_n hx hb dX3_find_16 rfl (lv_at hl 0 rfl) ?_
        refine vt_get (D := D) (ci := 3) (v := .long (Rvalue)) (C := RX3) (T := TX3) (N := 11) hx hb hts (fun w h => wm_c (wc_X3 w h)) hown hE.1 hP 0 rfl rfl 9 (by decide) tX3_9 (hts (.fieldLink RX3 224 "WornLines$Reader" "value" "J") (wm_c hw_431)) (fun _ h9 => h9) rfl dX3_find_17 ?_
        refine W.lcmp hx hb dX3_find_20 ?_
        refine lv_if_ne (tgt := 26) hx hb dX3_find_21 (by decide) (fun c_4 => ?_) (fun c_4 => ?_)
        · replace hw := hw.1 c_4
          refine lv_iinc (v := (l3 + 1)) (lv' := [(3, .int (l3 + 1)), (0, .ref hr_), (1, .ref na), (2, .int (xc))]) hx hb dX3_find_26 hl (k := 3) rfl (rfl) (by decide) rfl (fun ls hl => ?_)
          refine lv_goto (tgt := 2) hx hb dX3_find_29 (by decide) ?_
          exact ih (l3 + 1) _ _ _ hw hP hD hS (lv_sub hl [1, 2, 3, 0] rfl)
        · replace hw := hw.2 c_4
          refine lv_iload_n hx hb dX3_find_24 rfl (lv_at hl 3 rfl) ?_
          exact kR25 l3  _ _ _ hw hP hD hS

def wp_X3_find (Rvalue : Int64) (An : Nat → Int64) (nl : Nat) (xc : Int32)  (Φ : Int32 → Prop) : Prop := (∃ n_, lf_X3_find_2 Rvalue An nl xc  Φ n_ 0)
set_option maxHeartbeats 4000000 in
set_option maxRecDepth 100000 in
theorem kj_X3_find_e {p : Program} {l : Launch} {e : Env} {R : Room} {s : State} {m : MethodId} {args : Array Value} {below : List Frame} {meth : Method} {c : Code} {cells slots : Nat} {Q : State → Prop} {A : Nat → Prop} {D : va_G} {ak : Nat → ClassId} {ad : Nat → Nat} (hx : p.tables.exec = Jvm.exec) (hb : c.code = cX3_find) (hown : s.vm.findClass RX3 = some m.cls) (hts : ∀ w ∈ wsX3_find, w.before args s = true) (hml : c.maxLocals = 4) (hE : EV D ak s) (hT : ST D ak ad A s s.heap) (hA : ∀ q, s.heap.size ≤ q → A q) (hr_ : Nat) (ra : Nat → Nat) (ht : Nat) (pg : Nat) (na : Nat) (nl : Nat) (Rcoded : Int32) (Rtaken : Int32) (Rtoken : Nat) (Rplace : Int32) (Rvalue : Int64) (Rfault : Int32) (An : Nat → Int64) (xc : Int32)  (Φ : Int32 → Prop)
    (kR25 : ∀ (r : Int32)  (H : Heap) (locs : List Loc) (ls : Array Slot), Φ r  → va_P D vwCl (wW_X3_find ak ad hr_ ra ht pg na nl Rcoded Rtaken Rtoken Rplace Rvalue Rfault An) H → va_D A (wW_X3_find ak ad hr_ ra ht pg na nl Rcoded Rtaken Rtoken Rplace Rvalue Rfault An) → va_S A s.heap H locs → W p l e R s m args below meth c H locs cells slots Q (F0 m 25 ls [.int r]))
    (kR33 : ∀ (r : Int32)  (H : Heap) (locs : List Loc) (ls : Array Slot), Φ r  → va_P D vwCl (wW_X3_find ak ad hr_ ra ht pg na nl Rcoded Rtaken Rtoken Rplace Rvalue Rfault An) H → va_D A (wW_X3_find ak ad hr_ ra ht pg na nl Rcoded Rtaken Rtoken Rplace Rvalue Rfault An) → va_S A s.heap H locs → W p l e R s m args below meth c H locs cells slots Q (F0 m 33 ls [.int r]))
    : ∀  (H : Heap) (locs : List Loc) (ls : Array Slot), wp_X3_find Rvalue An nl xc  Φ → va_P D vwCl (wW_X3_find ak ad hr_ ra ht pg na nl Rcoded Rtaken Rtoken Rplace Rvalue Rfault An) H → va_D A (wW_X3_find ak ad hr_ ra ht pg na nl Rcoded Rtaken Rtoken Rplace Rvalue Rfault An) → va_S A s.heap H locs → lv_has ls 4 [(0, .ref hr_), (1, .ref na), (2, .int (xc))] → W p l e R s m args below meth c H locs cells slots Q (F0 m 0 ls ([])) := by
  intro  H locs ls hw hP hD hS hl
  delta wp_X3_find at hw
  refine lv_iconst (v := 0) hx hb dX3_find_0 (by decide) ?_
  refine lv_istore_n (lv' := [(3, .int (0)), (0, .ref hr_), (1, .ref na), (2, .int (xc))]) hx hb dX3_find_1 rfl hl (by decide) rfl (fun ls hl => ?_)
  obtain ⟨n1_, hw⟩ := hw
  exact lp_X3_find_2 hx hb hown hts hml hE hT hA hr_ ra ht pg na nl Rcoded Rtaken Rtoken Rplace Rvalue Rfault An xc  Φ  kR25 kR33 n1_ 0 _ _ _ hw hP hD hS (lv_sub hl [1, 2, 3, 0] rfl)
set_option maxHeartbeats 4000000 in
set_option maxRecDepth 100000 in
theorem c_X3_find (l : Launch) (D : va_G) (ak : Nat → ClassId) (ad : Nat → Nat) (sz : Nat) (hr_ : Nat) (ra : Nat → Nat) (ht : Nat) (pg : Nat) (na : Nat) (nl : Nat) (Rcoded : Int32) (Rtaken : Int32) (Rtoken : Nat) (Rplace : Int32) (Rvalue : Int64) (Rfault : Int32) (An : Nat → Int64) (xc : Int32) (Φ : Int32 → Prop) (hf : wp_X3_find Rvalue An nl xc Φ) : Met l yX3_find wsX3_find ({ frames := 0, cells := 0, slots := 0, locals := 0 }) (cPre D ak ad [.ref hr_, .ref na, .int (xc)] ((wW_X3_find ak ad hr_ ra ht pg na nl Rcoded Rtaken Rtoken Rplace Rvalue Rfault An)) sz) (cI D (S := Unit) (fun (r : Int32) (u : Unit) => Φ r ) (fun u => (wW_X3_find ak ad hr_ ra ht pg na nl Rcoded Rtaken Rtoken Rplace Rvalue Rfault An)) ((wW_X3_find ak ad hr_ ra ht pg na nl Rcoded Rtaken Rtoken Rplace Rvalue Rfault An)) sz) 0 0 (va_A ((wW_X3_find ak ad hr_ ra ht pg na nl Rcoded Rtaken Rtoken Rplace Rvalue Rfault An)) sz) := by
  refine Met.ofW (cc := cX3_find) (maxL := 4) (ret := (some .int)) (by decide) rfl ?_
  intro p e s m args below meth c s₁ B hml hv
  obtain ⟨rfl, hsz, hP, hE, hD0, hT⟩ := hv
  have hx := B.exec
  have hb := B.bytes
  have hr := B.returns
  have hts := atoms_spec (ws := wsX3_find) B.pre
  have hown : s.vm.findClass RX3 = some m.cls := findClass_of_methodNamed B.named
  have hlocks := B.notSynchronized
  subst hsz
  have hD := hD0.self (sz := s.heap.size)
  generalize hAe : va_A ((wW_X3_find ak ad hr_ ra ht pg na nl Rcoded Rtaken Rtoken Rplace Rvalue Rfault An)) s.heap.size = A at hD hT ⊢
  have hA : ∀ q : Nat, s.heap.size ≤ q → A q := fun q h => by rw [← hAe]; exact Or.inr h
  have hS : va_S A s.heap s.heap [] := va_S.rf
  have hl := lv_entry ([.ref hr_, .ref na, .int (xc)]) (n := 4) (Nat.le_of_ble_eq_true rfl)
  rw [lg_entry_eq]
  generalize (lg_sl ([.ref hr_, .ref na, .int (xc)]) ++ List.replicate (4 - (lg_sl ([.ref hr_, .ref na, .int (xc)])).length) Slot.unset).toArray = ls at hl ⊢
  have hl : lv_has ls 4 [(0, .ref hr_), (1, .ref na), (2, .int (xc))] := hl
  exact kj_X3_find_e hx hb hown hts hml hE hT hA hr_ ra ht pg na nl Rcoded Rtaken Rtoken Rplace Rvalue Rfault An xc Φ (fun r  H locs ls hw hP hD hS => W.iret (v := r) hx hb hr (fun t ht hW => ⟨⟨r, (), rfl, hw, by rw [ht]; exact hP, by rw [hAe]; exact hD⟩, by rw [hAe]; exact hS.F ht⟩) hS.2.2 dX3_find_25) (fun r  H locs ls hw hP hD hS => W.iret (v := r) hx hb hr (fun t ht hW => ⟨⟨r, (), rfl, hw, by rw [ht]; exact hP, by rw [hAe]; exact hD⟩, by rw [hAe]; exact hS.F ht⟩) hS.2.2 dX3_find_33)  _ _ _ hf hP hD hS hl

def wW_X3_takeNewName (ak : Nat → ClassId) (ad : Nat → Nat) (hr_ : Nat) (ra : Nat → Nat) (ht : Nat) (ta : Nat → Nat) (pg : Nat) (pa : Nat → Nat) (Rcoded : Int32) (Rtaken : Int32) (Rtoken : Nat) (Rplace : Int32) (Rvalue : Int64) (Rfault : Int32) (Rsn : Nat → Int64) (Rcn : Nat → Int64) (Tlen : Int32) (Tcnt : Int32) (Ttoks : Nat → Nat) (Tplc : Nat → Int32) (Tvals : Nat → Int64) (Pst : Int32) (Pce : Int32) (Pgi : Int32) (Pln : Int32) : va_W := [(hr_, .inr (3, rob ad ra (ht) (Rcoded) (pg) (Rtaken) (Rtoken) (Rplace) (Rvalue) (Rfault))), ((ra 0), .inl (ak 1, 4, .inr (.inl (Rsn)))), ((ra 1), .inl (ak 1, 6, .inr (.inl (Rcn)))), (ht, .inr (5, tob ta (Tlen) (Tcnt))), ((ta 1), .inl (ak 4, 1001, .inr (.inr (.inr (.inr (tokA ad (Ttoks))))))), ((ta 2), .inl (ak 0, 1001, .inl (Tplc))), ((ta 3), .inl (ak 1, 1001, .inr (.inl (Tvals)))), (pg, .inr (2, pob pa (Pst) (Pce) (Pgi) (Pln)))]
def wp_X3_takeNewName (Rsn : Nat → Int64) (Rcn : Nat → Int64) (Tcnt : Int32) (Ttoks : Nat → Nat) (Tplc : Nat → Int32) (Tvals : Nat → Int64) (Pst : Int32) (Pce : Int32) (Rtaken : Int32) (Rtoken : Nat) (Rplace : Int32) (Rvalue : Int64) (Rfault : Int32) (Φ : Int64 → Int32 → Nat → Int32 → Int64 → Int32 → Prop) : Prop := Rtoken < 31 ∧ (Rtoken = 3 → wp_X3_find Rvalue Rsn 4 Pst (fun r_4 => (¬ r_4 = (-1) → wp_X3_fail Rplace 3 Rfault (fun Rfault_7 => wp_X3_advance Tcnt Ttoks Tplc Tvals Rtaken Rtoken Rplace Rvalue (fun Rtaken_10 Rtoken_11 Rplace_12 Rvalue_13 => Φ Rvalue Rtaken_10 Rtoken_11 Rplace_12 Rvalue_13 Rfault_7))) ∧ (r_4 = (-1) → wp_X3_find Rvalue Rcn 6 Pce (fun r_16 => (r_16 = (-1) → wp_X3_advance Tcnt Ttoks Tplc Tvals Rtaken Rtoken Rplace Rvalue (fun Rtaken_19 Rtoken_20 Rplace_21 Rvalue_22 => Φ Rvalue Rtaken_19 Rtoken_20 Rplace_21 Rvalue_22 Rfault)) ∧ (¬ r_16 = (-1) → wp_X3_fail Rplace 3 Rfault (fun Rfault_25 => wp_X3_advance Tcnt Ttoks Tplc Tvals Rtaken Rtoken Rplace Rvalue (fun Rtaken_28 Rtoken_29 Rplace_30 Rvalue_31 => Φ Rvalue Rtaken_28 Rtoken_29 Rplace_30 Rvalue_31 Rfault_25))))))) ∧ (¬ Rtoken = 3 → wp_X3_fail Rplace 1 Rfault (fun Rfault_34 => wp_X3_advance Tcnt Ttoks Tplc Tvals Rtaken Rtoken Rplace Rvalue (fun Rtaken_37 Rtoken_38 Rplace_39 Rvalue_40 => Φ Rvalue Rtaken_37 Rtoken_38 Rplace_39 Rvalue_40 Rfault_34)))
set_option maxHeartbeats 4000000 in
set_option maxRecDepth 100000 in
theorem kj_X3_takeNewName_e {p : Program} {l : Launch} {e : Env} {R : Room} {s : State} {m : MethodId} {args : Array Value} {below : List Frame} {meth : Method} {c : Code} {cells slots : Nat} {Q : State → Prop} {A : Nat → Prop} {D : va_G} {ak : Nat → ClassId} {ad : Nat → Nat} (hx : p.tables.exec = Jvm.exec) (hb : c.code = cX3_takeNewName) (hown : s.vm.findClass RX3 = some m.cls) (hts : ∀ w ∈ wsX3_takeNewName, w.before args s = true) (hml : c.maxLocals = 3) (hE : EV D ak s) (hT : ST D ak ad A s s.heap) (hA : ∀ q, s.heap.size ≤ q → A q) (hRf : 1 ≤ R.frames) (hRl : 23 ≤ R.locals) (hRc : cells ≤ R.cells ∧ slots ≤ R.slots) (hr_ : Nat) (ra : Nat → Nat) (ht : Nat) (ta : Nat → Nat) (pg : Nat) (pa : Nat → Nat) (Rcoded : Int32) (Rsn : Nat → Int64) (Rcn : Nat → Int64) (Tlen : Int32) (Tcnt : Int32) (Ttoks : Nat → Nat) (Tplc : Nat → Int32) (Tvals : Nat → Int64) (Pst : Int32) (Pce : Int32) (Pgi : Int32) (Pln : Int32)  (Φ : Int64 → Int32 → Nat → Int32 → Int64 → Int32 → Prop)
    (kR71 : ∀ (r : Int64) (Rtaken : Int32) (Rtoken : Nat) (Rplace : Int32) (Rvalue : Int64) (Rfault : Int32) (H : Heap) (locs : List Loc) (ls : Array Slot), Φ r Rtaken Rtoken Rplace Rvalue Rfault → va_P D vwCl (wW_X3_takeNewName ak ad hr_ ra ht ta pg pa Rcoded Rtaken Rtoken Rplace Rvalue Rfault Rsn Rcn Tlen Tcnt Ttoks Tplc Tvals Pst Pce Pgi Pln) H → va_D A (wW_X3_takeNewName ak ad hr_ ra ht ta pg pa Rcoded Rtaken Rtoken Rplace Rvalue Rfault Rsn Rcn Tlen Tcnt Ttoks Tplc Tvals Pst Pce Pgi Pln) → va_S A s.heap H locs → W p l e R s m args below meth c H locs cells slots Q (F0 m 71 ls [.long r]))
    : ∀ (Rtaken : Int32) (Rtoken : Nat) (Rplace : Int32) (Rvalue : Int64) (Rfault : Int32) (H : Heap) (locs : List Loc) (ls : Array Slot), wp_X3_takeNewName Rsn Rcn Tcnt Ttoks Tplc Tvals Pst Pce Rtaken Rtoken Rplace Rvalue Rfault Φ → va_P D vwCl (wW_X3_takeNewName ak ad hr_ ra ht ta pg pa Rcoded Rtaken Rtoken Rplace Rvalue Rfault Rsn Rcn Tlen Tcnt Ttoks Tplc Tvals Pst Pce Pgi Pln) H → va_D A (wW_X3_takeNewName ak ad hr_ ra ht ta pg pa Rcoded Rtaken Rtoken Rplace Rvalue Rfault Rsn Rcn Tlen Tcnt Ttoks Tplc Tvals Pst Pce Pgi Pln) → va_S A s.heap H locs → lv_has ls 3 [(0, .ref hr_)] → W p l e R s m args below meth c H locs cells slots Q (F0 m 0 ls ([])) := by
  intro Rtaken Rtoken Rplace Rvalue Rfault H locs ls hw hP hD hS hl
  delta wp_X3_takeNewName at hw
  refine lv_aload_n hx hb dX3_takeNewName_0 rfl (lv_at hl 0 rfl) ?_
  refine vt_get (D := D) (ci := 3) (v := .long (Rvalue)) (C := RX3) (T := TX3) (N := 11) hx hb hts (fun w h => wm_c (wc_X3 w h)) hown hE.1 hP 0 rfl rfl 9 (by decide) tX3_9 (hts (.fieldLink RX3 224 "WornLines$Reader" "value" "J") (wm_c hw_431)) (fun _ h9 => h9) rfl dX3_takeNewName_1 ?_
  refine lv_lstore_n (lv' := [(1, .long (Rvalue)), (0, .ref hr_)]) hx hb dX3_takeNewName_4 rfl hl (by decide) rfl (fun ls hl => ?_)
  refine lv_aload_n hx hb dX3_takeNewName_5 rfl (lv_at hl 1 rfl) ?_
  refine vt_get (D := D) (ci := 3) (v := .ref (ad Rtoken)) (C := RX3) (T := TX3) (N := 11) hx hb hts (fun w h => wm_c (wc_X3 w h)) hown hE.1 hP 0 rfl rfl 7 (by decide) tX3_7 (hts (.fieldLink RX3 28 "WornLines$Reader" "token" "LWornLines$Token;") (wm_c hw_290)) (fun _ h9 => h9) rfl dX3_takeNewName_6 ?_
  refine va_gets hx hb (hT.1 3 (by decide)).1 hS hown (hts (.fieldLink RX3 217 "WornLines$Token" "A_NAME" "LWornLines$Token;") (wm_c hw_420)) (fun _ h9 => h9) dX3_takeNewName_9 ?_
  obtain ⟨h_1, hw⟩ := hw
  refine W.eq (g2 := F0 m 12 ls (va_rf (some (ad 3)) :: va_rf (some (ad Rtoken)) :: [])) rfl ?_
  refine lv_acmp_eq (tgt := 23) hx hb dX3_takeNewName_12 (by decide) (fun c_2 => ?_) (fun c_2 => ?_)
  · replace hw := hw.1 (tok_inj hT h_1 (by decide) c_2)
    refine lv_aload_n hx hb dX3_takeNewName_23 rfl (lv_at hl 1 rfl) ?_
    refine lv_aload_n hx hb dX3_takeNewName_24 rfl (lv_at hl 1 rfl) ?_
    refine vt_get (D := D) (ci := 3) (v := .ref (ra 0)) (C := RX3) (T := TX3) (N := 11) hx hb hts (fun w h => wm_c (wc_X3 w h)) hown hE.1 hP 0 rfl rfl 1 (by decide) tX3_1 (hts (.fieldLink RX3 9 "WornLines$Reader" "stuffNames" "[J") (wm_c hw_286)) (fun _ h9 => h9) rfl dX3_takeNewName_25 ?_
    refine lv_aload_n hx hb dX3_takeNewName_28 rfl (lv_at hl 1 rfl) ?_
    refine vt_get (D := D) (ci := 3) (v := .ref pg) (C := RX3) (T := TX3) (N := 11) hx hb hts (fun w h => wm_c (wc_X3 w h)) hown hE.1 hP 0 rfl rfl 5 (by decide) tX3_5 (hts (.fieldLink RX3 35 "WornLines$Reader" "told" "LWornLines$Programme;") (wm_c hw_292)) (fun _ h9 => h9) rfl dX3_takeNewName_29 ?_
    refine vt_get (D := D) (ci := 2) (v := .int (Pst)) (C := RX2) (T := TX2) (N := 17) hx hb hts (fun w h => wm_c (wc_X2 w h)) hown hE.1 hP 7 rfl rfl 0 (by decide) tX2_0 (hts (.fieldLink RX3 105 "WornLines$Programme" "stuffs" "I") (wm_c hw_433)) (fun _ h9 => h9) rfl dX3_takeNewName_32 ?_
    refine kc_i (wc := (wW_X3_find ak ad hr_ ra ht pg (ra 0) 4 Rcoded Rtaken Rtoken Rplace Rvalue Rfault Rsn)) (wr := [((ra 1), .inl (ak 1, 6, .inr (.inl (Rcn)))), (ht, .inr (5, tob ta (Tlen) (Tcnt))), ((ta 1), .inl (ak 4, 1001, .inr (.inr (.inr (.inr (tokA ad (Ttoks))))))), ((ta 2), .inl (ak 0, 1001, .inl (Tplc))), ((ta 3), .inl (ak 1, 1001, .inr (.inl (Tvals)))), (pg, .inr (2, pob pa (Pst) (Pce) (Pgi) (Pln)))]) hP hD hS hA [0, 1] [2, 3, 4, 5, 6, 7] rfl rfl (by decide) (by decide) (va_runV (As := [.ref (ra 0), .int (Pst)]) (rest := []) ⟨hx, hb, hml, hown, hts⟩ (c_X3_find l D ak ad _ hr_ ra ht pg (ra 0) 4 Rcoded Rtaken Rtoken Rplace Rvalue Rfault Rsn Pst _ hw) (cwV 2 hts gX3_takeNewName_X3_find rfl rfl rfl hv_X3_find ⟨(Nat.le_trans (Nat.le_of_ble_eq_true rfl) hRf), (Nat.le_trans (Nat.le_of_ble_eq_true rfl) hRl)⟩) (kc_preV (As := [.ref (ra 0), .int (Pst)]) (wc := (wW_X3_find ak ad hr_ ra ht pg (ra 0) 4 Rcoded Rtaken Rtoken Rplace Rvalue Rfault Rsn)) hE hT hP hD hS hA [0, 1] (by decide) rfl rfl 0 3 rfl rfl rfl) rfl rfl hl.1 rfl (lv_room (Nat.le_of_ble_eq_true rfl)) dX3_takeNewName_35 ⟨hRc.1, hRc.2⟩) (fun r_4 u_3 H locs hw hP hD hS => ?_)
    try dsimp -zeta only at hw
    have hP : va_P D vwCl (wW_X3_takeNewName ak ad hr_ ra ht ta pg pa Rcoded Rtaken Rtoken Rplace Rvalue Rfault Rsn Rcn Tlen Tcnt Ttoks Tplc Tvals Pst Pce Pgi Pln) H := hP.sub [6, 7, 0, 1, 2, 3, 4, 5] rfl
    have hD : va_D A (wW_X3_takeNewName ak ad hr_ ra ht ta pg pa Rcoded Rtaken Rtoken Rplace Rvalue Rfault Rsn Rcn Tlen Tcnt Ttoks Tplc Tvals Pst Pce Pgi Pln) := hD.sub [6, 7, 0, 1, 2, 3, 4, 5] (by decide) rfl
    refine lv_iconst (v := (-1)) hx hb dX3_takeNewName_38 (by decide) ?_
    refine lv_icmp_ne (tgt := 61) hx hb dX3_takeNewName_39 (by decide) (fun c_5 => ?_) (fun c_5 => ?_)
    · replace hw := hw.1 c_5
      refine lv_aload_n hx hb dX3_takeNewName_61 rfl (lv_at hl 1 rfl) ?_
      refine lv_iconst (v := 3) hx hb dX3_takeNewName_62 (by decide) ?_
      refine kc_v (wc := (wW_X3_fail ak ad hr_ ra ht pg Rcoded Rtaken Rtoken Rplace Rvalue Rfault)) (wr := [((ra 0), .inl (ak 1, 4, .inr (.inl (Rsn)))), ((ra 1), .inl (ak 1, 6, .inr (.inl (Rcn)))), (ht, .inr (5, tob ta (Tlen) (Tcnt))), ((ta 1), .inl (ak 4, 1001, .inr (.inr (.inr (.inr (tokA ad (Ttoks))))))), ((ta 2), .inl (ak 0, 1001, .inl (Tplc))), ((ta 3), .inl (ak 1, 1001, .inr (.inl (Tvals)))), (pg, .inr (2, pob pa (Pst) (Pce) (Pgi) (Pln)))]) hP hD hS hA [0] [1, 2, 3, 4, 5, 6, 7] rfl rfl (by decide) (by decide) (va_runV (As := [.int (3)]) (rest := []) ⟨hx, hb, hml, hown, hts⟩ (c_X3_fail l D ak ad _ hr_ ra ht pg Rcoded Rtaken Rtoken Rplace Rvalue Rfault 3 _ hw) (cwV 1 hts gX3_takeNewName_X3_fail rfl rfl rfl hv_X3_fail ⟨(Nat.le_trans (Nat.le_of_ble_eq_true rfl) hRf), (Nat.le_trans (Nat.le_of_ble_eq_true rfl) hRl)⟩) (kc_preV (As := [.int (3)]) (wc := (wW_X3_fail ak ad hr_ ra ht pg Rcoded Rtaken Rtoken Rplace Rvalue Rfault)) hE hT hP hD hS hA [0] (by decide) rfl rfl 0 3 rfl rfl rfl) rfl rfl hl.1 rfl (lv_room (Nat.le_of_ble_eq_true rfl)) dX3_takeNewName_63 ⟨hRc.1, hRc.2⟩) (fun Rfault_7 H locs hw hP hD hS => ?_)
      try dsimp -zeta only at hw
      have hP : va_P D vwCl (wW_X3_takeNewName ak ad hr_ ra ht ta pg pa Rcoded Rtaken Rtoken Rplace Rvalue Rfault_7 Rsn Rcn Tlen Tcnt Ttoks Tplc Tvals Pst Pce Pgi Pln) H := hP.sub [7, 0, 1, 2, 3, 4, 5, 6] rfl
      have hD : va_D A (wW_X3_takeNewName ak ad hr_ ra ht ta pg pa Rcoded Rtaken Rtoken Rplace Rvalue Rfault_7 Rsn Rcn Tlen Tcnt Ttoks Tplc Tvals Pst Pce Pgi Pln) := hD.sub [7, 0, 1, 2, 3, 4, 5, 6] (by decide) rfl
      refine lv_aload_n hx hb dX3_takeNewName_66 rfl (lv_at hl 1 rfl) ?_
      refine kc_v (wc := (wW_X3_advance ak ad hr_ ra ht ta pg Rcoded Rtaken Rtoken Rplace Rvalue Rfault_7 Tlen Tcnt Ttoks Tplc Tvals)) (wr := [((ra 0), .inl (ak 1, 4, .inr (.inl (Rsn)))), ((ra 1), .inl (ak 1, 6, .inr (.inl (Rcn)))), (pg, .inr (2, pob pa (Pst) (Pce) (Pgi) (Pln)))]) hP hD hS hA [0, 3, 4, 5, 6] [1, 2, 7] rfl rfl (by decide) (by decide) (va_runV (As := []) (rest := []) ⟨hx, hb, hml, hown, hts⟩ (c_X3_advance l D ak ad _ hr_ ra ht ta pg Rcoded Rtaken Rtoken Rplace Rvalue Rfault_7 Tlen Tcnt Ttoks Tplc Tvals _ hw) (cwV 0 hts gX3_takeNewName_X3_advance rfl rfl rfl hv_X3_advance ⟨(Nat.le_trans (Nat.le_of_ble_eq_true rfl) hRf), (Nat.le_trans (Nat.le_of_ble_eq_true rfl) hRl)⟩) (kc_preV (As := []) (wc := (wW_X3_advance ak ad hr_ ra ht ta pg Rcoded Rtaken Rtoken Rplace Rvalue Rfault_7 Tlen Tcnt Ttoks Tplc Tvals)) hE hT hP hD hS hA [0, 3, 4, 5, 6] (by decide) rfl rfl 0 3 rfl rfl rfl) rfl rfl hl.1 rfl (lv_room (Nat.le_of_ble_eq_true rfl)) dX3_takeNewName_67 ⟨hRc.1, hRc.2⟩) (fun u_9 H locs hw hP hD hS => ?_)
      obtain ⟨Rtaken_10, Rtoken_11, Rplace_12, Rvalue_13⟩ := u_9
      try dsimp -zeta only at hw
      have hP : va_P D vwCl (wW_X3_takeNewName ak ad hr_ ra ht ta pg pa Rcoded Rtaken_10 Rtoken_11 Rplace_12 Rvalue_13 Rfault_7 Rsn Rcn Tlen Tcnt Ttoks Tplc Tvals Pst Pce Pgi Pln) H := hP.sub [3, 0, 1, 4, 5, 6, 7, 2] rfl
      have hD : va_D A (wW_X3_takeNewName ak ad hr_ ra ht ta pg pa Rcoded Rtaken_10 Rtoken_11 Rplace_12 Rvalue_13 Rfault_7 Rsn Rcn Tlen Tcnt Ttoks Tplc Tvals Pst Pce Pgi Pln) := hD.sub [3, 0, 1, 4, 5, 6, 7, 2] (by decide) rfl
      refine lv_lload_n hx hb dX3_takeNewName_70 rfl (lv_at hl 0 rfl) ?_
      exact kR71 Rvalue Rtaken_10 Rtoken_11 Rplace_12 Rvalue_13 Rfault_7 _ _ _ hw hP hD hS
    · replace hw := hw.2 c_5
      refine lv_aload_n hx hb dX3_takeNewName_42 rfl (lv_at hl 1 rfl) ?_
      refine lv_aload_n hx hb dX3_takeNewName_43 rfl (lv_at hl 1 rfl) ?_
      refine vt_get (D := D) (ci := 3) (v := .ref (ra 1)) (C := RX3) (T := TX3) (N := 11) hx hb hts (fun w h => wm_c (wc_X3 w h)) hown hE.1 hP 0 rfl rfl 2 (by decide) tX3_2 (hts (.fieldLink RX3 15 "WornLines$Reader" "cellNames" "[J") (wm_c hw_287)) (fun _ h9 => h9) rfl dX3_takeNewName_44 ?_
      refine lv_aload_n hx hb dX3_takeNewName_47 rfl (lv_at hl 1 rfl) ?_
      refine vt_get (D := D) (ci := 3) (v := .ref pg) (C := RX3) (T := TX3) (N := 11) hx hb hts (fun w h => wm_c (wc_X3 w h)) hown hE.1 hP 0 rfl rfl 5 (by decide) tX3_5 (hts (.fieldLink RX3 35 "WornLines$Reader" "told" "LWornLines$Programme;") (wm_c hw_292)) (fun _ h9 => h9) rfl dX3_takeNewName_48 ?_
      refine vt_get (D := D) (ci := 2) (v := .int (Pce)) (C := RX2) (T := TX2) (N := 17) hx hb hts (fun w h => wm_c (wc_X2 w h)) hown hE.1 hP 7 rfl rfl 3 (by decide) tX2_3 (hts (.fieldLink RX3 128 "WornLines$Programme" "cells" "I") (wm_c hw_434)) (fun _ h9 => h9) rfl dX3_takeNewName_51 ?_
      refine kc_i (wc := (wW_X3_find ak ad hr_ ra ht pg (ra 1) 6 Rcoded Rtaken Rtoken Rplace Rvalue Rfault Rcn)) (wr := [((ra 0), .inl (ak 1, 4, .inr (.inl (Rsn)))), (ht, .inr (5, tob ta (Tlen) (Tcnt))), ((ta 1), .inl (ak 4, 1001, .inr (.inr (.inr (.inr (tokA ad (Ttoks))))))), ((ta 2), .inl (ak 0, 1001, .inl (Tplc))), ((ta 3), .inl (ak 1, 1001, .inr (.inl (Tvals)))), (pg, .inr (2, pob pa (Pst) (Pce) (Pgi) (Pln)))]) hP hD hS hA [0, 2] [1, 3, 4, 5, 6, 7] rfl rfl (by decide) (by decide) (va_runV (As := [.ref (ra 1), .int (Pce)]) (rest := []) ⟨hx, hb, hml, hown, hts⟩ (c_X3_find l D ak ad _ hr_ ra ht pg (ra 1) 6 Rcoded Rtaken Rtoken Rplace Rvalue Rfault Rcn Pce _ hw) (cwV 2 hts gX3_takeNewName_X3_find rfl rfl rfl hv_X3_find ⟨(Nat.le_trans (Nat.le_of_ble_eq_true rfl) hRf), (Nat.le_trans (Nat.le_of_ble_eq_true rfl) hRl)⟩) (kc_preV (As := [.ref (ra 1), .int (Pce)]) (wc := (wW_X3_find ak ad hr_ ra ht pg (ra 1) 6 Rcoded Rtaken Rtoken Rplace Rvalue Rfault Rcn)) hE hT hP hD hS hA [0, 2] (by decide) rfl rfl 0 3 rfl rfl rfl) rfl rfl hl.1 rfl (lv_room (Nat.le_of_ble_eq_true rfl)) dX3_takeNewName_54 ⟨hRc.1, hRc.2⟩) (fun r_16 u_15 H locs hw hP hD hS => ?_)
      try dsimp -zeta only at hw
      have hP : va_P D vwCl (wW_X3_takeNewName ak ad hr_ ra ht ta pg pa Rcoded Rtaken Rtoken Rplace Rvalue Rfault Rsn Rcn Tlen Tcnt Ttoks Tplc Tvals Pst Pce Pgi Pln) H := hP.sub [6, 0, 7, 1, 2, 3, 4, 5] rfl
      have hD : va_D A (wW_X3_takeNewName ak ad hr_ ra ht ta pg pa Rcoded Rtaken Rtoken Rplace Rvalue Rfault Rsn Rcn Tlen Tcnt Ttoks Tplc Tvals Pst Pce Pgi Pln) := hD.sub [6, 0, 7, 1, 2, 3, 4, 5] (by decide) rfl
      refine lv_iconst (v := (-1)) hx hb dX3_takeNewName_57 (by decide) ?_
      refine lv_icmp_eq (tgt := 66) hx hb dX3_takeNewName_58 (by decide) (fun c_17 => ?_) (fun c_17 => ?_)
      · replace hw := hw.1 c_17
        refine lv_aload_n hx hb dX3_takeNewName_66 rfl (lv_at hl 1 rfl) ?_
        refine kc_v (wc := (wW_X3_advance ak ad hr_ ra ht ta pg Rcoded Rtaken Rtoken Rplace Rvalue Rfault Tlen Tcnt Ttoks Tplc Tvals)) (wr := [((ra 0), .inl (ak 1, 4, .inr (.inl (Rsn)))), ((ra 1), .inl (ak 1, 6, .inr (.inl (Rcn)))), (pg, .inr (2, pob pa (Pst) (Pce) (Pgi) (Pln)))]) hP hD hS hA [0, 3, 4, 5, 6] [1, 2, 7] rfl rfl (by decide) (by decide) (va_runV (As := []) (rest := []) ⟨hx, hb, hml, hown, hts⟩ (c_X3_advance l D ak ad _ hr_ ra ht ta pg Rcoded Rtaken Rtoken Rplace Rvalue Rfault Tlen Tcnt Ttoks Tplc Tvals _ hw) (cwV 0 hts gX3_takeNewName_X3_advance rfl rfl rfl hv_X3_advance ⟨(Nat.le_trans (Nat.le_of_ble_eq_true rfl) hRf), (Nat.le_trans (Nat.le_of_ble_eq_true rfl) hRl)⟩) (kc_preV (As := []) (wc := (wW_X3_advance ak ad hr_ ra ht ta pg Rcoded Rtaken Rtoken Rplace Rvalue Rfault Tlen Tcnt Ttoks Tplc Tvals)) hE hT hP hD hS hA [0, 3, 4, 5, 6] (by decide) rfl rfl 0 3 rfl rfl rfl) rfl rfl hl.1 rfl (lv_room (Nat.le_of_ble_eq_true rfl)) dX3_takeNewName_67 ⟨hRc.1, hRc.2⟩) (fun u_18 H locs hw hP hD hS => ?_)
        obtain ⟨Rtaken_19, Rtoken_20, Rplace_21, Rvalue_22⟩ := u_18
        try dsimp -zeta only at hw
        have hP : va_P D vwCl (wW_X3_takeNewName ak ad hr_ ra ht ta pg pa Rcoded Rtaken_19 Rtoken_20 Rplace_21 Rvalue_22 Rfault Rsn Rcn Tlen Tcnt Ttoks Tplc Tvals Pst Pce Pgi Pln) H := hP.sub [3, 0, 1, 4, 5, 6, 7, 2] rfl
        have hD : va_D A (wW_X3_takeNewName ak ad hr_ ra ht ta pg pa Rcoded Rtaken_19 Rtoken_20 Rplace_21 Rvalue_22 Rfault Rsn Rcn Tlen Tcnt Ttoks Tplc Tvals Pst Pce Pgi Pln) := hD.sub [3, 0, 1, 4, 5, 6, 7, 2] (by decide) rfl
        refine lv_lload_n hx hb dX3_takeNewName_70 rfl (lv_at hl 0 rfl) ?_
        exact kR71 Rvalue Rtaken_19 Rtoken_20 Rplace_21 Rvalue_22 Rfault _ _ _ hw hP hD hS
      · replace hw := hw.2 c_17
        refine lv_aload_n hx hb dX3_takeNewName_61 rfl (lv_at hl 1 rfl) ?_
        refine lv_iconst (v := 3) hx hb dX3_takeNewName_62 (by decide) ?_
        refine kc_v (wc := (wW_X3_fail ak ad hr_ ra ht pg Rcoded Rtaken Rtoken Rplace Rvalue Rfault)) (wr := [((ra 0), .inl (ak 1, 4, .inr (.inl (Rsn)))), ((ra 1), .inl (ak 1, 6, .inr (.inl (Rcn)))), (ht, .inr (5, tob ta (Tlen) (Tcnt))), ((ta 1), .inl (ak 4, 1001, .inr (.inr (.inr (.inr (tokA ad (Ttoks))))))), ((ta 2), .inl (ak 0, 1001, .inl (Tplc))), ((ta 3), .inl (ak 1, 1001, .inr (.inl (Tvals)))), (pg, .inr (2, pob pa (Pst) (Pce) (Pgi) (Pln)))]) hP hD hS hA [0] [1, 2, 3, 4, 5, 6, 7] rfl rfl (by decide) (by decide) (va_runV (As := [.int (3)]) (rest := []) ⟨hx, hb, hml, hown, hts⟩ (c_X3_fail l D ak ad _ hr_ ra ht pg Rcoded Rtaken Rtoken Rplace Rvalue Rfault 3 _ hw) (cwV 1 hts gX3_takeNewName_X3_fail rfl rfl rfl hv_X3_fail ⟨(Nat.le_trans (Nat.le_of_ble_eq_true rfl) hRf), (Nat.le_trans (Nat.le_of_ble_eq_true rfl) hRl)⟩) (kc_preV (As := [.int (3)]) (wc := (wW_X3_fail ak ad hr_ ra ht pg Rcoded Rtaken Rtoken Rplace Rvalue Rfault)) hE hT hP hD hS hA [0] (by decide) rfl rfl 0 3 rfl rfl rfl) rfl rfl hl.1 rfl (lv_room (Nat.le_of_ble_eq_true rfl)) dX3_takeNewName_63 ⟨hRc.1, hRc.2⟩) (fun Rfault_25 H locs hw hP hD hS => ?_)
        try dsimp -zeta only at hw
        have hP : va_P D vwCl (wW_X3_takeNewName ak ad hr_ ra ht ta pg pa Rcoded Rtaken Rtoken Rplace Rvalue Rfault_25 Rsn Rcn Tlen Tcnt Ttoks Tplc Tvals Pst Pce Pgi Pln) H := hP.sub [7, 0, 1, 2, 3, 4, 5, 6] rfl
        have hD : va_D A (wW_X3_takeNewName ak ad hr_ ra ht ta pg pa Rcoded Rtaken Rtoken Rplace Rvalue Rfault_25 Rsn Rcn Tlen Tcnt Ttoks Tplc Tvals Pst Pce Pgi Pln) := hD.sub [7, 0, 1, 2, 3, 4, 5, 6] (by decide) rfl
        refine lv_aload_n hx hb dX3_takeNewName_66 rfl (lv_at hl 1 rfl) ?_
        refine kc_v (wc := (wW_X3_advance ak ad hr_ ra ht ta pg Rcoded Rtaken Rtoken Rplace Rvalue Rfault_25 Tlen Tcnt Ttoks Tplc Tvals)) (wr := [((ra 0), .inl (ak 1, 4, .inr (.inl (Rsn)))), ((ra 1), .inl (ak 1, 6, .inr (.inl (Rcn)))), (pg, .inr (2, pob pa (Pst) (Pce) (Pgi) (Pln)))]) hP hD hS hA [0, 3, 4, 5, 6] [1, 2, 7] rfl rfl (by decide) (by decide) (va_runV (As := []) (rest := []) ⟨hx, hb, hml, hown, hts⟩ (c_X3_advance l D ak ad _ hr_ ra ht ta pg Rcoded Rtaken Rtoken Rplace Rvalue Rfault_25 Tlen Tcnt Ttoks Tplc Tvals _ hw) (cwV 0 hts gX3_takeNewName_X3_advance rfl rfl rfl hv_X3_advance ⟨(Nat.le_trans (Nat.le_of_ble_eq_true rfl) hRf), (Nat.le_trans (Nat.le_of_ble_eq_true rfl) hRl)⟩) (kc_preV (As := []) (wc := (wW_X3_advance ak ad hr_ ra ht ta pg Rcoded Rtaken Rtoken Rplace Rvalue Rfault_25 Tlen Tcnt Ttoks Tplc Tvals)) hE hT hP hD hS hA [0, 3, 4, 5, 6] (by decide) rfl rfl 0 3 rfl rfl rfl) rfl rfl hl.1 rfl (lv_room (Nat.le_of_ble_eq_true rfl)) dX3_takeNewName_67 ⟨hRc.1, hRc.2⟩) (fun u_27 H locs hw hP hD hS => ?_)
        obtain ⟨Rtaken_28, Rtoken_29, Rplace_30, Rvalue_31⟩ := u_27
        try dsimp -zeta only at hw
        have hP : va_P D vwCl (wW_X3_takeNewName ak ad hr_ ra ht ta pg pa Rcoded Rtaken_28 Rtoken_29 Rplace_30 Rvalue_31 Rfault_25 Rsn Rcn Tlen Tcnt Ttoks Tplc Tvals Pst Pce Pgi Pln) H := hP.sub [3, 0, 1, 4, 5, 6, 7, 2] rfl
        have hD : va_D A (wW_X3_takeNewName ak ad hr_ ra ht ta pg pa Rcoded Rtaken_28 Rtoken_29 Rplace_30 Rvalue_31 Rfault_25 Rsn Rcn Tlen Tcnt Ttoks Tplc Tvals Pst Pce Pgi Pln) := hD.sub [3, 0, 1, 4, 5, 6, 7, 2] (by decide) rfl
        refine lv_lload_n hx hb dX3_takeNewName_70 rfl (lv_at hl 0 rfl) ?_
        exact kR71 Rvalue Rtaken_28 Rtoken_29 Rplace_30 Rvalue_31 Rfault_25 _ _ _ hw hP hD hS
  · replace hw := hw.2 (fun h9 => c_2 (by rw [h9]))
    refine lv_aload_n hx hb dX3_takeNewName_15 rfl (lv_at hl 1 rfl) ?_
    refine lv_iconst (v := 1) hx hb dX3_takeNewName_16 (by decide) ?_
    refine kc_v (wc := (wW_X3_fail ak ad hr_ ra ht pg Rcoded Rtaken Rtoken Rplace Rvalue Rfault)) (wr := [((ra 0), .inl (ak 1, 4, .inr (.inl (Rsn)))), ((ra 1), .inl (ak 1, 6, .inr (.inl (Rcn)))), (ht, .inr (5, tob ta (Tlen) (Tcnt))), ((ta 1), .inl (ak 4, 1001, .inr (.inr (.inr (.inr (tokA ad (Ttoks))))))), ((ta 2), .inl (ak 0, 1001, .inl (Tplc))), ((ta 3), .inl (ak 1, 1001, .inr (.inl (Tvals)))), (pg, .inr (2, pob pa (Pst) (Pce) (Pgi) (Pln)))]) hP hD hS hA [0] [1, 2, 3, 4, 5, 6, 7] rfl rfl (by decide) (by decide) (va_runV (As := [.int (1)]) (rest := []) ⟨hx, hb, hml, hown, hts⟩ (c_X3_fail l D ak ad _ hr_ ra ht pg Rcoded Rtaken Rtoken Rplace Rvalue Rfault 1 _ hw) (cwV 1 hts gX3_takeNewName_X3_fail rfl rfl rfl hv_X3_fail ⟨(Nat.le_trans (Nat.le_of_ble_eq_true rfl) hRf), (Nat.le_trans (Nat.le_of_ble_eq_true rfl) hRl)⟩) (kc_preV (As := [.int (1)]) (wc := (wW_X3_fail ak ad hr_ ra ht pg Rcoded Rtaken Rtoken Rplace Rvalue Rfault)) hE hT hP hD hS hA [0] (by decide) rfl rfl 0 3 rfl rfl rfl) rfl rfl hl.1 rfl (lv_room (Nat.le_of_ble_eq_true rfl)) dX3_takeNewName_17 ⟨hRc.1, hRc.2⟩) (fun Rfault_34 H locs hw hP hD hS => ?_)
    try dsimp -zeta only at hw
    have hP : va_P D vwCl (wW_X3_takeNewName ak ad hr_ ra ht ta pg pa Rcoded Rtaken Rtoken Rplace Rvalue Rfault_34 Rsn Rcn Tlen Tcnt Ttoks Tplc Tvals Pst Pce Pgi Pln) H := hP.sub [7, 0, 1, 2, 3, 4, 5, 6] rfl
    have hD : va_D A (wW_X3_takeNewName ak ad hr_ ra ht ta pg pa Rcoded Rtaken Rtoken Rplace Rvalue Rfault_34 Rsn Rcn Tlen Tcnt Ttoks Tplc Tvals Pst Pce Pgi Pln) := hD.sub [7, 0, 1, 2, 3, 4, 5, 6] (by decide) rfl
    refine lv_goto (tgt := 66) hx hb dX3_takeNewName_20 (by decide) ?_
    refine lv_aload_n hx hb dX3_takeNewName_66 rfl (lv_at hl 1 rfl) ?_
    refine kc_v (wc := (wW_X3_advance ak ad hr_ ra ht ta pg Rcoded Rtaken Rtoken Rplace Rvalue Rfault_34 Tlen Tcnt Ttoks Tplc Tvals)) (wr := [((ra 0), .inl (ak 1, 4, .inr (.inl (Rsn)))), ((ra 1), .inl (ak 1, 6, .inr (.inl (Rcn)))), (pg, .inr (2, pob pa (Pst) (Pce) (Pgi) (Pln)))]) hP hD hS hA [0, 3, 4, 5, 6] [1, 2, 7] rfl rfl (by decide) (by decide) (va_runV (As := []) (rest := []) ⟨hx, hb, hml, hown, hts⟩ (c_X3_advance l D ak ad _ hr_ ra ht ta pg Rcoded Rtaken Rtoken Rplace Rvalue Rfault_34 Tlen Tcnt Ttoks Tplc Tvals _ hw) (cwV 0 hts gX3_takeNewName_X3_advance rfl rfl rfl hv_X3_advance ⟨(Nat.le_trans (Nat.le_of_ble_eq_true rfl) hRf), (Nat.le_trans (Nat.le_of_ble_eq_true rfl) hRl)⟩) (kc_preV (As := []) (wc := (wW_X3_advance ak ad hr_ ra ht ta pg Rcoded Rtaken Rtoken Rplace Rvalue Rfault_34 Tlen Tcnt Ttoks Tplc Tvals)) hE hT hP hD hS hA [0, 3, 4, 5, 6] (by decide) rfl rfl 0 3 rfl rfl rfl) rfl rfl hl.1 rfl (lv_room (Nat.le_of_ble_eq_true rfl)) dX3_takeNewName_67 ⟨hRc.1, hRc.2⟩) (fun u_36 H locs hw hP hD hS => ?_)
    obtain ⟨Rtaken_37, Rtoken_38, Rplace_39, Rvalue_40⟩ := u_36
    try dsimp -zeta only at hw
    have hP : va_P D vwCl (wW_X3_takeNewName ak ad hr_ ra ht ta pg pa Rcoded Rtaken_37 Rtoken_38 Rplace_39 Rvalue_40 Rfault_34 Rsn Rcn Tlen Tcnt Ttoks Tplc Tvals Pst Pce Pgi Pln) H := hP.sub [3, 0, 1, 4, 5, 6, 7, 2] rfl
    have hD : va_D A (wW_X3_takeNewName ak ad hr_ ra ht ta pg pa Rcoded Rtaken_37 Rtoken_38 Rplace_39 Rvalue_40 Rfault_34 Rsn Rcn Tlen Tcnt Ttoks Tplc Tvals Pst Pce Pgi Pln) := hD.sub [3, 0, 1, 4, 5, 6, 7, 2] (by decide) rfl
    refine lv_lload_n hx hb dX3_takeNewName_70 rfl (lv_at hl 0 rfl) ?_
    exact kR71 Rvalue Rtaken_37 Rtoken_38 Rplace_39 Rvalue_40 Rfault_34 _ _ _ hw hP hD hS
set_option maxHeartbeats 4000000 in
set_option maxRecDepth 100000 in
theorem c_X3_takeNewName (l : Launch) (D : va_G) (ak : Nat → ClassId) (ad : Nat → Nat) (sz : Nat) (hr_ : Nat) (ra : Nat → Nat) (ht : Nat) (ta : Nat → Nat) (pg : Nat) (pa : Nat → Nat) (Rcoded : Int32) (Rtaken : Int32) (Rtoken : Nat) (Rplace : Int32) (Rvalue : Int64) (Rfault : Int32) (Rsn : Nat → Int64) (Rcn : Nat → Int64) (Tlen : Int32) (Tcnt : Int32) (Ttoks : Nat → Nat) (Tplc : Nat → Int32) (Tvals : Nat → Int64) (Pst : Int32) (Pce : Int32) (Pgi : Int32) (Pln : Int32) (Φ : Int64 → Int32 → Nat → Int32 → Int64 → Int32 → Prop) (hf : wp_X3_takeNewName Rsn Rcn Tcnt Ttoks Tplc Tvals Pst Pce Rtaken Rtoken Rplace Rvalue Rfault Φ) : Met l yX3_takeNewName wsX3_takeNewName ({ frames := 1, cells := 0, slots := 0, locals := 23 }) (cPre D ak ad [.ref hr_] ((wW_X3_takeNewName ak ad hr_ ra ht ta pg pa Rcoded Rtaken Rtoken Rplace Rvalue Rfault Rsn Rcn Tlen Tcnt Ttoks Tplc Tvals Pst Pce Pgi Pln)) sz) (cL D (S := (Int32) × (Nat) × (Int32) × (Int64) × (Int32)) (fun (r : Int64) (u : (Int32) × (Nat) × (Int32) × (Int64) × (Int32)) => Φ r u.1 u.2.1 u.2.2.1 u.2.2.2.1 u.2.2.2.2) (fun u => (wW_X3_takeNewName ak ad hr_ ra ht ta pg pa Rcoded u.1 u.2.1 u.2.2.1 u.2.2.2.1 u.2.2.2.2 Rsn Rcn Tlen Tcnt Ttoks Tplc Tvals Pst Pce Pgi Pln)) ((wW_X3_takeNewName ak ad hr_ ra ht ta pg pa Rcoded Rtaken Rtoken Rplace Rvalue Rfault Rsn Rcn Tlen Tcnt Ttoks Tplc Tvals Pst Pce Pgi Pln)) sz) 0 0 (va_A ((wW_X3_takeNewName ak ad hr_ ra ht ta pg pa Rcoded Rtaken Rtoken Rplace Rvalue Rfault Rsn Rcn Tlen Tcnt Ttoks Tplc Tvals Pst Pce Pgi Pln)) sz) := by
  refine Met.ofW (cc := cX3_takeNewName) (maxL := 3) (ret := (some .long)) (by decide) rfl ?_
  intro p e s m args below meth c s₁ B hml hv
  obtain ⟨rfl, hsz, hP, hE, hD0, hT⟩ := hv
  have hx := B.exec
  have hb := B.bytes
  have hr := B.returns
  have hts := atoms_spec (ws := wsX3_takeNewName) B.pre
  have hown : s.vm.findClass RX3 = some m.cls := findClass_of_methodNamed B.named
  have hlocks := B.notSynchronized
  subst hsz
  have hD := hD0.self (sz := s.heap.size)
  generalize hAe : va_A ((wW_X3_takeNewName ak ad hr_ ra ht ta pg pa Rcoded Rtaken Rtoken Rplace Rvalue Rfault Rsn Rcn Tlen Tcnt Ttoks Tplc Tvals Pst Pce Pgi Pln)) s.heap.size = A at hD hT ⊢
  have hA : ∀ q : Nat, s.heap.size ≤ q → A q := fun q h => by rw [← hAe]; exact Or.inr h
  have hS : va_S A s.heap s.heap [] := va_S.rf
  have hl := lv_entry ([.ref hr_]) (n := 3) (Nat.le_of_ble_eq_true rfl)
  rw [lg_entry_eq]
  generalize (lg_sl ([.ref hr_]) ++ List.replicate (3 - (lg_sl ([.ref hr_])).length) Slot.unset).toArray = ls at hl ⊢
  have hl : lv_has ls 3 [(0, .ref hr_)] := hl
  exact kj_X3_takeNewName_e hx hb hown hts hml hE hT hA (Nat.le_of_ble_eq_true rfl) (Nat.le_of_ble_eq_true rfl) ⟨Nat.le_of_ble_eq_true rfl, Nat.le_of_ble_eq_true rfl⟩ hr_ ra ht ta pg pa Rcoded Rsn Rcn Tlen Tcnt Ttoks Tplc Tvals Pst Pce Pgi Pln Φ (fun r Rtaken Rtoken Rplace Rvalue Rfault H locs ls hw hP hD hS => W.lret (v := r) hx hb hr (fun t ht hW => ⟨⟨r, (Rtaken, Rtoken, Rplace, Rvalue, Rfault), rfl, hw, by rw [ht]; exact hP, by rw [hAe]; exact hD⟩, by rw [hAe]; exact hS.F ht⟩) hS.2.2 dX3_takeNewName_71) Rtaken Rtoken Rplace Rvalue Rfault _ _ _ hf hP hD hS hl

def wW_X3_toldHere (ak : Nat → ClassId) (ad : Nat → Nat) (hr_ : Nat) (ra : Nat → Nat) (ht : Nat) (pg : Nat) (na : Nat) (nl : Nat) (Rcoded : Int32) (Rtaken : Int32) (Rtoken : Nat) (Rplace : Int32) (Rvalue : Int64) (Rfault : Int32) (An : Nat → Int64) : va_W := [(hr_, .inr (3, rob ad ra (ht) (Rcoded) (pg) (Rtaken) (Rtoken) (Rplace) (Rvalue) (Rfault))), (na, .inl (ak 1, nl, .inr (.inl (An))))]
def wp_X3_toldHere (Rtoken : Nat) (Rplace : Int32) (Rvalue : Int64) (An : Nat → Int64) (nl : Nat) (xc : Int32) (Rfault : Int32) (Φ : Int32 → Int32 → Prop) : Prop := Rtoken < 31 ∧ (Rtoken = 3 → wp_X3_find Rvalue An nl xc (fun r_4 => (¬ r_4 = (-1) → Φ r_4 Rfault) ∧ (r_4 = (-1) → wp_X3_fail Rplace 2 Rfault (fun Rfault_7 => Φ 0 Rfault_7)))) ∧ (¬ Rtoken = 3 → wp_X3_fail Rplace 1 Rfault (fun Rfault_10 => Φ 0 Rfault_10))
set_option maxHeartbeats 4000000 in
set_option maxRecDepth 100000 in
theorem kj_X3_toldHere_e {p : Program} {l : Launch} {e : Env} {R : Room} {s : State} {m : MethodId} {args : Array Value} {below : List Frame} {meth : Method} {c : Code} {cells slots : Nat} {Q : State → Prop} {A : Nat → Prop} {D : va_G} {ak : Nat → ClassId} {ad : Nat → Nat} (hx : p.tables.exec = Jvm.exec) (hb : c.code = cX3_toldHere) (hown : s.vm.findClass RX3 = some m.cls) (hts : ∀ w ∈ wsX3_toldHere, w.before args s = true) (hml : c.maxLocals = 4) (hE : EV D ak s) (hT : ST D ak ad A s s.heap) (hA : ∀ q, s.heap.size ≤ q → A q) (hRf : 1 ≤ R.frames) (hRl : 23 ≤ R.locals) (hRc : cells ≤ R.cells ∧ slots ≤ R.slots) (hr_ : Nat) (ra : Nat → Nat) (ht : Nat) (pg : Nat) (na : Nat) (nl : Nat) (Rcoded : Int32) (Rtaken : Int32) (Rtoken : Nat) (Rplace : Int32) (Rvalue : Int64) (An : Nat → Int64) (xc : Int32)  (Φ : Int32 → Int32 → Prop)
    (kR16 : ∀ (r : Int32) (Rfault : Int32) (H : Heap) (locs : List Loc) (ls : Array Slot), Φ r Rfault → va_P D vwCl (wW_X3_toldHere ak ad hr_ ra ht pg na nl Rcoded Rtaken Rtoken Rplace Rvalue Rfault An) H → va_D A (wW_X3_toldHere ak ad hr_ ra ht pg na nl Rcoded Rtaken Rtoken Rplace Rvalue Rfault An) → va_S A s.heap H locs → W p l e R s m args below meth c H locs cells slots Q (F0 m 16 ls [.int r]))
    (kR35 : ∀ (r : Int32) (Rfault : Int32) (H : Heap) (locs : List Loc) (ls : Array Slot), Φ r Rfault → va_P D vwCl (wW_X3_toldHere ak ad hr_ ra ht pg na nl Rcoded Rtaken Rtoken Rplace Rvalue Rfault An) H → va_D A (wW_X3_toldHere ak ad hr_ ra ht pg na nl Rcoded Rtaken Rtoken Rplace Rvalue Rfault An) → va_S A s.heap H locs → W p l e R s m args below meth c H locs cells slots Q (F0 m 35 ls [.int r]))
    (kR37 : ∀ (r : Int32) (Rfault : Int32) (H : Heap) (locs : List Loc) (ls : Array Slot), Φ r Rfault → va_P D vwCl (wW_X3_toldHere ak ad hr_ ra ht pg na nl Rcoded Rtaken Rtoken Rplace Rvalue Rfault An) H → va_D A (wW_X3_toldHere ak ad hr_ ra ht pg na nl Rcoded Rtaken Rtoken Rplace Rvalue Rfault An) → va_S A s.heap H locs → W p l e R s m args below meth c H locs cells slots Q (F0 m 37 ls [.int r]))
    : ∀ (Rfault : Int32) (H : Heap) (locs : List Loc) (ls : Array Slot), wp_X3_toldHere Rtoken Rplace Rvalue An nl xc Rfault Φ → va_P D vwCl (wW_X3_toldHere ak ad hr_ ra ht pg na nl Rcoded Rtaken Rtoken Rplace Rvalue Rfault An) H → va_D A (wW_X3_toldHere ak ad hr_ ra ht pg na nl Rcoded Rtaken Rtoken Rplace Rvalue Rfault An) → va_S A s.heap H locs → lv_has ls 4 [(0, .ref hr_), (1, .ref na), (2, .int (xc))] → W p l e R s m args below meth c H locs cells slots Q (F0 m 0 ls ([])) := by
  intro Rfault H locs ls hw hP hD hS hl
  delta wp_X3_toldHere at hw
  refine lv_aload_n hx hb dX3_toldHere_0 rfl (lv_at hl 0 rfl) ?_
  refine vt_get (D := D) (ci := 3) (v := .ref (ad Rtoken)) (C := RX3) (T := TX3) (N := 11) hx hb hts (fun w h => wm_c (wc_X3 w h)) hown hE.1 hP 0 rfl rfl 7 (by decide) tX3_7 (hts (.fieldLink RX3 28 "WornLines$Reader" "token" "LWornLines$Token;") (wm_c hw_290)) (fun _ h9 => h9) rfl dX3_toldHere_1 ?_
  refine va_gets hx hb (hT.1 3 (by decide)).1 hS hown (hts (.fieldLink RX3 217 "WornLines$Token" "A_NAME" "LWornLines$Token;") (wm_c hw_420)) (fun _ h9 => h9) dX3_toldHere_4 ?_
  obtain ⟨h_1, hw⟩ := hw
  refine W.eq (g2 := F0 m 7 ls (va_rf (some (ad 3)) :: va_rf (some (ad Rtoken)) :: [])) rfl ?_
  refine lv_acmp_eq (tgt := 17) hx hb dX3_toldHere_7 (by decide) (fun c_2 => ?_) (fun c_2 => ?_)
  · replace hw := hw.1 (tok_inj hT h_1 (by decide) c_2)
    refine lv_aload_n hx hb dX3_toldHere_17 rfl (lv_at hl 0 rfl) ?_
    refine lv_aload_n hx hb dX3_toldHere_18 rfl (lv_at hl 1 rfl) ?_
    refine lv_iload_n hx hb dX3_toldHere_19 rfl (lv_at hl 2 rfl) ?_
    refine kc_i (wc := (wW_X3_find ak ad hr_ ra ht pg na nl Rcoded Rtaken Rtoken Rplace Rvalue Rfault An)) (wr := []) hP hD hS hA [0, 1] [] rfl rfl (by decide) (by decide) (va_runV (As := [.ref na, .int (xc)]) (rest := []) ⟨hx, hb, hml, hown, hts⟩ (c_X3_find l D ak ad _ hr_ ra ht pg na nl Rcoded Rtaken Rtoken Rplace Rvalue Rfault An xc _ hw) (cwV 2 hts gX3_toldHere_X3_find rfl rfl rfl hv_X3_find ⟨(Nat.le_trans (Nat.le_of_ble_eq_true rfl) hRf), (Nat.le_trans (Nat.le_of_ble_eq_true rfl) hRl)⟩) (kc_preV (As := [.ref na, .int (xc)]) (wc := (wW_X3_find ak ad hr_ ra ht pg na nl Rcoded Rtaken Rtoken Rplace Rvalue Rfault An)) hE hT hP hD hS hA [0, 1] (by decide) rfl rfl 0 3 rfl rfl rfl) rfl rfl hl.1 rfl (lv_room (Nat.le_of_ble_eq_true rfl)) dX3_toldHere_20 ⟨hRc.1, hRc.2⟩) (fun r_4 u_3 H locs hw hP hD hS => ?_)
    try dsimp -zeta only at hw
    have hP : va_P D vwCl (wW_X3_toldHere ak ad hr_ ra ht pg na nl Rcoded Rtaken Rtoken Rplace Rvalue Rfault An) H := hP.sub [0, 1] rfl
    have hD : va_D A (wW_X3_toldHere ak ad hr_ ra ht pg na nl Rcoded Rtaken Rtoken Rplace Rvalue Rfault An) := hD.sub [0, 1] (by decide) rfl
    refine lv_istore_n (lv' := [(3, .int (r_4)), (0, .ref hr_), (1, .ref na), (2, .int (xc))]) hx hb dX3_toldHere_23 rfl hl (by decide) rfl (fun ls hl => ?_)
    refine lv_iload_n hx hb dX3_toldHere_24 rfl (lv_at hl 0 rfl) ?_
    refine lv_iconst (v := (-1)) hx hb dX3_toldHere_25 (by decide) ?_
    refine lv_icmp_ne (tgt := 36) hx hb dX3_toldHere_26 (by decide) (fun c_5 => ?_) (fun c_5 => ?_)
    · replace hw := hw.1 c_5
      refine lv_iload_n hx hb dX3_toldHere_36 rfl (lv_at hl 0 rfl) ?_
      exact kR37 r_4 Rfault _ _ _ hw hP hD hS
    · replace hw := hw.2 c_5
      refine lv_aload_n hx hb dX3_toldHere_29 rfl (lv_at hl 1 rfl) ?_
      refine lv_iconst (v := 2) hx hb dX3_toldHere_30 (by decide) ?_
      refine kc_v (wc := (wW_X3_fail ak ad hr_ ra ht pg Rcoded Rtaken Rtoken Rplace Rvalue Rfault)) (wr := [(na, .inl (ak 1, nl, .inr (.inl (An))))]) hP hD hS hA [0] [1] rfl rfl (by decide) (by decide) (va_runV (As := [.int (2)]) (rest := []) ⟨hx, hb, hml, hown, hts⟩ (c_X3_fail l D ak ad _ hr_ ra ht pg Rcoded Rtaken Rtoken Rplace Rvalue Rfault 2 _ hw) (cwV 1 hts gX3_toldHere_X3_fail rfl rfl rfl hv_X3_fail ⟨(Nat.le_trans (Nat.le_of_ble_eq_true rfl) hRf), (Nat.le_trans (Nat.le_of_ble_eq_true rfl) hRl)⟩) (kc_preV (As := [.int (2)]) (wc := (wW_X3_fail ak ad hr_ ra ht pg Rcoded Rtaken Rtoken Rplace Rvalue Rfault)) hE hT hP hD hS hA [0] (by decide) rfl rfl 0 3 rfl rfl rfl) rfl rfl hl.1 rfl (lv_room (Nat.le_of_ble_eq_true rfl)) dX3_toldHere_31 ⟨hRc.1, hRc.2⟩) (fun Rfault_7 H locs hw hP hD hS => ?_)
      try dsimp -zeta only at hw
      have hP : va_P D vwCl (wW_X3_toldHere ak ad hr_ ra ht pg na nl Rcoded Rtaken Rtoken Rplace Rvalue Rfault_7 An) H := hP.sub [1, 0] rfl
      have hD : va_D A (wW_X3_toldHere ak ad hr_ ra ht pg na nl Rcoded Rtaken Rtoken Rplace Rvalue Rfault_7 An) := hD.sub [1, 0] (by decide) rfl
      refine lv_iconst (v := 0) hx hb dX3_toldHere_34 (by decide) ?_
      exact kR35 0 Rfault_7 _ _ _ hw hP hD hS
  · replace hw := hw.2 (fun h9 => c_2 (by rw [h9]))
    refine lv_aload_n hx hb dX3_toldHere_10 rfl (lv_at hl 0 rfl) ?_
    refine lv_iconst (v := 1) hx hb dX3_toldHere_11 (by decide) ?_
    refine kc_v (wc := (wW_X3_fail ak ad hr_ ra ht pg Rcoded Rtaken Rtoken Rplace Rvalue Rfault)) (wr := [(na, .inl (ak 1, nl, .inr (.inl (An))))]) hP hD hS hA [0] [1] rfl rfl (by decide) (by decide) (va_runV (As := [.int (1)]) (rest := []) ⟨hx, hb, hml, hown, hts⟩ (c_X3_fail l D ak ad _ hr_ ra ht pg Rcoded Rtaken Rtoken Rplace Rvalue Rfault 1 _ hw) (cwV 1 hts gX3_toldHere_X3_fail rfl rfl rfl hv_X3_fail ⟨(Nat.le_trans (Nat.le_of_ble_eq_true rfl) hRf), (Nat.le_trans (Nat.le_of_ble_eq_true rfl) hRl)⟩) (kc_preV (As := [.int (1)]) (wc := (wW_X3_fail ak ad hr_ ra ht pg Rcoded Rtaken Rtoken Rplace Rvalue Rfault)) hE hT hP hD hS hA [0] (by decide) rfl rfl 0 3 rfl rfl rfl) rfl rfl hl.1 rfl (lv_room (Nat.le_of_ble_eq_true rfl)) dX3_toldHere_12 ⟨hRc.1, hRc.2⟩) (fun Rfault_10 H locs hw hP hD hS => ?_)
    try dsimp -zeta only at hw
    have hP : va_P D vwCl (wW_X3_toldHere ak ad hr_ ra ht pg na nl Rcoded Rtaken Rtoken Rplace Rvalue Rfault_10 An) H := hP.sub [1, 0] rfl
    have hD : va_D A (wW_X3_toldHere ak ad hr_ ra ht pg na nl Rcoded Rtaken Rtoken Rplace Rvalue Rfault_10 An) := hD.sub [1, 0] (by decide) rfl
    refine lv_iconst (v := 0) hx hb dX3_toldHere_15 (by decide) ?_
    exact kR16 0 Rfault_10 _ _ _ hw hP hD hS
set_option maxHeartbeats 4000000 in
set_option maxRecDepth 100000 in
theorem c_X3_toldHere (l : Launch) (D : va_G) (ak : Nat → ClassId) (ad : Nat → Nat) (sz : Nat) (hr_ : Nat) (ra : Nat → Nat) (ht : Nat) (pg : Nat) (na : Nat) (nl : Nat) (Rcoded : Int32) (Rtaken : Int32) (Rtoken : Nat) (Rplace : Int32) (Rvalue : Int64) (Rfault : Int32) (An : Nat → Int64) (xc : Int32) (Φ : Int32 → Int32 → Prop) (hf : wp_X3_toldHere Rtoken Rplace Rvalue An nl xc Rfault Φ) : Met l yX3_toldHere wsX3_toldHere ({ frames := 1, cells := 0, slots := 0, locals := 23 }) (cPre D ak ad [.ref hr_, .ref na, .int (xc)] ((wW_X3_toldHere ak ad hr_ ra ht pg na nl Rcoded Rtaken Rtoken Rplace Rvalue Rfault An)) sz) (cI D (S := (Int32)) (fun (r : Int32) (u : (Int32)) => Φ r u) (fun u => (wW_X3_toldHere ak ad hr_ ra ht pg na nl Rcoded Rtaken Rtoken Rplace Rvalue u An)) ((wW_X3_toldHere ak ad hr_ ra ht pg na nl Rcoded Rtaken Rtoken Rplace Rvalue Rfault An)) sz) 0 0 (va_A ((wW_X3_toldHere ak ad hr_ ra ht pg na nl Rcoded Rtaken Rtoken Rplace Rvalue Rfault An)) sz) := by
  refine Met.ofW (cc := cX3_toldHere) (maxL := 4) (ret := (some .int)) (by decide) rfl ?_
  intro p e s m args below meth c s₁ B hml hv
  obtain ⟨rfl, hsz, hP, hE, hD0, hT⟩ := hv
  have hx := B.exec
  have hb := B.bytes
  have hr := B.returns
  have hts := atoms_spec (ws := wsX3_toldHere) B.pre
  have hown : s.vm.findClass RX3 = some m.cls := findClass_of_methodNamed B.named
  have hlocks := B.notSynchronized
  subst hsz
  have hD := hD0.self (sz := s.heap.size)
  generalize hAe : va_A ((wW_X3_toldHere ak ad hr_ ra ht pg na nl Rcoded Rtaken Rtoken Rplace Rvalue Rfault An)) s.heap.size = A at hD hT ⊢
  have hA : ∀ q : Nat, s.heap.size ≤ q → A q := fun q h => by rw [← hAe]; exact Or.inr h
  have hS : va_S A s.heap s.heap [] := va_S.rf
  have hl := lv_entry ([.ref hr_, .ref na, .int (xc)]) (n := 4) (Nat.le_of_ble_eq_true rfl)
  rw [lg_entry_eq]
  generalize (lg_sl ([.ref hr_, .ref na, .int (xc)]) ++ List.replicate (4 - (lg_sl ([.ref hr_, .ref na, .int (xc)])).length) Slot.unset).toArray = ls at hl ⊢
  have hl : lv_has ls 4 [(0, .ref hr_), (1, .ref na), (2, .int (xc))] := hl
  exact kj_X3_toldHere_e hx hb hown hts hml hE hT hA (Nat.le_of_ble_eq_true rfl) (Nat.le_of_ble_eq_true rfl) ⟨Nat.le_of_ble_eq_true rfl, Nat.le_of_ble_eq_true rfl⟩ hr_ ra ht pg na nl Rcoded Rtaken Rtoken Rplace Rvalue An xc Φ (fun r Rfault H locs ls hw hP hD hS => W.iret (v := r) hx hb hr (fun t ht hW => ⟨⟨r, Rfault, rfl, hw, by rw [ht]; exact hP, by rw [hAe]; exact hD⟩, by rw [hAe]; exact hS.F ht⟩) hS.2.2 dX3_toldHere_16) (fun r Rfault H locs ls hw hP hD hS => W.iret (v := r) hx hb hr (fun t ht hW => ⟨⟨r, Rfault, rfl, hw, by rw [ht]; exact hP, by rw [hAe]; exact hD⟩, by rw [hAe]; exact hS.F ht⟩) hS.2.2 dX3_toldHere_35) (fun r Rfault H locs ls hw hP hD hS => W.iret (v := r) hx hb hr (fun t ht hW => ⟨⟨r, Rfault, rfl, hw, by rw [ht]; exact hP, by rw [hAe]; exact hD⟩, by rw [hAe]; exact hS.F ht⟩) hS.2.2 dX3_toldHere_37) Rfault _ _ _ hf hP hD hS hl

def wW_X3_takeStuff (ak : Nat → ClassId) (ad : Nat → Nat) (hr_ : Nat) (ra : Nat → Nat) (ht : Nat) (ta : Nat → Nat) (pg : Nat) (pa : Nat → Nat) (Rcoded : Int32) (Rtaken : Int32) (Rtoken : Nat) (Rplace : Int32) (Rvalue : Int64) (Rfault : Int32) (Rsn : Nat → Int64) (Tlen : Int32) (Tcnt : Int32) (Ttoks : Nat → Nat) (Tplc : Nat → Int32) (Tvals : Nat → Int64) (Pst : Int32) (Pce : Int32) (Pgi : Int32) (Pln : Int32) : va_W := [(hr_, .inr (3, rob ad ra (ht) (Rcoded) (pg) (Rtaken) (Rtoken) (Rplace) (Rvalue) (Rfault))), ((ra 0), .inl (ak 1, 4, .inr (.inl (Rsn)))), (ht, .inr (5, tob ta (Tlen) (Tcnt))), ((ta 1), .inl (ak 4, 1001, .inr (.inr (.inr (.inr (tokA ad (Ttoks))))))), ((ta 2), .inl (ak 0, 1001, .inl (Tplc))), ((ta 3), .inl (ak 1, 1001, .inr (.inl (Tvals)))), (pg, .inr (2, pob pa (Pst) (Pce) (Pgi) (Pln)))]
def wp_X3_takeStuff (Rsn : Nat → Int64) (Tcnt : Int32) (Ttoks : Nat → Nat) (Tplc : Nat → Int32) (Tvals : Nat → Int64) (Pst : Int32) (Rtaken : Int32) (Rtoken : Nat) (Rplace : Int32) (Rvalue : Int64) (Rfault : Int32) (Φ : Int32 → Int32 → Nat → Int32 → Int64 → Int32 → Prop) : Prop := wp_X3_toldHere Rtoken Rplace Rvalue Rsn 4 Pst Rfault (fun r_3 Rfault_2 => wp_X3_advance Tcnt Ttoks Tplc Tvals Rtaken Rtoken Rplace Rvalue (fun Rtaken_5 Rtoken_6 Rplace_7 Rvalue_8 => Φ r_3 Rtaken_5 Rtoken_6 Rplace_7 Rvalue_8 Rfault_2))
set_option maxHeartbeats 4000000 in
set_option maxRecDepth 100000 in
theorem kj_X3_takeStuff_e {p : Program} {l : Launch} {e : Env} {R : Room} {s : State} {m : MethodId} {args : Array Value} {below : List Frame} {meth : Method} {c : Code} {cells slots : Nat} {Q : State → Prop} {A : Nat → Prop} {D : va_G} {ak : Nat → ClassId} {ad : Nat → Nat} (hx : p.tables.exec = Jvm.exec) (hb : c.code = cX3_takeStuff) (hown : s.vm.findClass RX3 = some m.cls) (hts : ∀ w ∈ wsX3_takeStuff, w.before args s = true) (hml : c.maxLocals = 2) (hE : EV D ak s) (hT : ST D ak ad A s s.heap) (hA : ∀ q, s.heap.size ≤ q → A q) (hRf : 2 ≤ R.frames) (hRl : 46 ≤ R.locals) (hRc : cells ≤ R.cells ∧ slots ≤ R.slots) (hr_ : Nat) (ra : Nat → Nat) (ht : Nat) (ta : Nat → Nat) (pg : Nat) (pa : Nat → Nat) (Rcoded : Int32) (Rsn : Nat → Int64) (Tlen : Int32) (Tcnt : Int32) (Ttoks : Nat → Nat) (Tplc : Nat → Int32) (Tvals : Nat → Int64) (Pst : Int32) (Pce : Int32) (Pgi : Int32) (Pln : Int32)  (Φ : Int32 → Int32 → Nat → Int32 → Int64 → Int32 → Prop)
    (kR21 : ∀ (r : Int32) (Rtaken : Int32) (Rtoken : Nat) (Rplace : Int32) (Rvalue : Int64) (Rfault : Int32) (H : Heap) (locs : List Loc) (ls : Array Slot), Φ r Rtaken Rtoken Rplace Rvalue Rfault → va_P D vwCl (wW_X3_takeStuff ak ad hr_ ra ht ta pg pa Rcoded Rtaken Rtoken Rplace Rvalue Rfault Rsn Tlen Tcnt Ttoks Tplc Tvals Pst Pce Pgi Pln) H → va_D A (wW_X3_takeStuff ak ad hr_ ra ht ta pg pa Rcoded Rtaken Rtoken Rplace Rvalue Rfault Rsn Tlen Tcnt Ttoks Tplc Tvals Pst Pce Pgi Pln) → va_S A s.heap H locs → W p l e R s m args below meth c H locs cells slots Q (F0 m 21 ls [.int r]))
    : ∀ (Rtaken : Int32) (Rtoken : Nat) (Rplace : Int32) (Rvalue : Int64) (Rfault : Int32) (H : Heap) (locs : List Loc) (ls : Array Slot), wp_X3_takeStuff Rsn Tcnt Ttoks Tplc Tvals Pst Rtaken Rtoken Rplace Rvalue Rfault Φ → va_P D vwCl (wW_X3_takeStuff ak ad hr_ ra ht ta pg pa Rcoded Rtaken Rtoken Rplace Rvalue Rfault Rsn Tlen Tcnt Ttoks Tplc Tvals Pst Pce Pgi Pln) H → va_D A (wW_X3_takeStuff ak ad hr_ ra ht ta pg pa Rcoded Rtaken Rtoken Rplace Rvalue Rfault Rsn Tlen Tcnt Ttoks Tplc Tvals Pst Pce Pgi Pln) → va_S A s.heap H locs → lv_has ls 2 [(0, .ref hr_)] → W p l e R s m args below meth c H locs cells slots Q (F0 m 0 ls ([])) := by
  intro Rtaken Rtoken Rplace Rvalue Rfault H locs ls hw hP hD hS hl
  delta wp_X3_takeStuff at hw
  refine lv_aload_n hx hb dX3_takeStuff_0 rfl (lv_at hl 0 rfl) ?_
  refine lv_aload_n hx hb dX3_takeStuff_1 rfl (lv_at hl 0 rfl) ?_
  refine vt_get (D := D) (ci := 3) (v := .ref (ra 0)) (C := RX3) (T := TX3) (N := 11) hx hb hts (fun w h => wm_c (wc_X3 w h)) hown hE.1 hP 0 rfl rfl 1 (by decide) tX3_1 (hts (.fieldLink RX3 9 "WornLines$Reader" "stuffNames" "[J") (wm_c hw_286)) (fun _ h9 => h9) rfl dX3_takeStuff_2 ?_
  refine lv_aload_n hx hb dX3_takeStuff_5 rfl (lv_at hl 0 rfl) ?_
  refine vt_get (D := D) (ci := 3) (v := .ref pg) (C := RX3) (T := TX3) (N := 11) hx hb hts (fun w h => wm_c (wc_X3 w h)) hown hE.1 hP 0 rfl rfl 5 (by decide) tX3_5 (hts (.fieldLink RX3 35 "WornLines$Reader" "told" "LWornLines$Programme;") (wm_c hw_292)) (fun _ h9 => h9) rfl dX3_takeStuff_6 ?_
  refine vt_get (D := D) (ci := 2) (v := .int (Pst)) (C := RX2) (T := TX2) (N := 17) hx hb hts (fun w h => wm_c (wc_X2 w h)) hown hE.1 hP 6 rfl rfl 0 (by decide) tX2_0 (hts (.fieldLink RX3 105 "WornLines$Programme" "stuffs" "I") (wm_c hw_433)) (fun _ h9 => h9) rfl dX3_takeStuff_9 ?_
  refine kc_i (wc := (wW_X3_toldHere ak ad hr_ ra ht pg (ra 0) 4 Rcoded Rtaken Rtoken Rplace Rvalue Rfault Rsn)) (wr := [(ht, .inr (5, tob ta (Tlen) (Tcnt))), ((ta 1), .inl (ak 4, 1001, .inr (.inr (.inr (.inr (tokA ad (Ttoks))))))), ((ta 2), .inl (ak 0, 1001, .inl (Tplc))), ((ta 3), .inl (ak 1, 1001, .inr (.inl (Tvals)))), (pg, .inr (2, pob pa (Pst) (Pce) (Pgi) (Pln)))]) hP hD hS hA [0, 1] [2, 3, 4, 5, 6] rfl rfl (by decide) (by decide) (va_runV (As := [.ref (ra 0), .int (Pst)]) (rest := []) ⟨hx, hb, hml, hown, hts⟩ (c_X3_toldHere l D ak ad _ hr_ ra ht pg (ra 0) 4 Rcoded Rtaken Rtoken Rplace Rvalue Rfault Rsn Pst _ hw) (cwV 2 hts gX3_takeStuff_X3_toldHere rfl rfl rfl hv_X3_toldHere ⟨(Nat.le_trans (Nat.le_of_ble_eq_true rfl) hRf), (Nat.le_trans (Nat.le_of_ble_eq_true rfl) hRl)⟩) (kc_preV (As := [.ref (ra 0), .int (Pst)]) (wc := (wW_X3_toldHere ak ad hr_ ra ht pg (ra 0) 4 Rcoded Rtaken Rtoken Rplace Rvalue Rfault Rsn)) hE hT hP hD hS hA [0, 1] (by decide) rfl rfl 0 3 rfl rfl rfl) rfl rfl hl.1 rfl (lv_room (Nat.le_of_ble_eq_true rfl)) dX3_takeStuff_12 ⟨hRc.1, hRc.2⟩) (fun r_3 Rfault_2 H locs hw hP hD hS => ?_)
  try dsimp -zeta only at hw
  have hP : va_P D vwCl (wW_X3_takeStuff ak ad hr_ ra ht ta pg pa Rcoded Rtaken Rtoken Rplace Rvalue Rfault_2 Rsn Tlen Tcnt Ttoks Tplc Tvals Pst Pce Pgi Pln) H := hP.sub [5, 6, 0, 1, 2, 3, 4] rfl
  have hD : va_D A (wW_X3_takeStuff ak ad hr_ ra ht ta pg pa Rcoded Rtaken Rtoken Rplace Rvalue Rfault_2 Rsn Tlen Tcnt Ttoks Tplc Tvals Pst Pce Pgi Pln) := hD.sub [5, 6, 0, 1, 2, 3, 4] (by decide) rfl
  refine lv_istore_n (lv' := [(1, .int (r_3)), (0, .ref hr_)]) hx hb dX3_takeStuff_15 rfl hl (by decide) rfl (fun ls hl => ?_)
  refine lv_aload_n hx hb dX3_takeStuff_16 rfl (lv_at hl 1 rfl) ?_
  refine kc_v (wc := (wW_X3_advance ak ad hr_ ra ht ta pg Rcoded Rtaken Rtoken Rplace Rvalue Rfault_2 Tlen Tcnt Ttoks Tplc Tvals)) (wr := [((ra 0), .inl (ak 1, 4, .inr (.inl (Rsn)))), (pg, .inr (2, pob pa (Pst) (Pce) (Pgi) (Pln)))]) hP hD hS hA [0, 2, 3, 4, 5] [1, 6] rfl rfl (by decide) (by decide) (va_runV (As := []) (rest := []) ⟨hx, hb, hml, hown, hts⟩ (c_X3_advance l D ak ad _ hr_ ra ht ta pg Rcoded Rtaken Rtoken Rplace Rvalue Rfault_2 Tlen Tcnt Ttoks Tplc Tvals _ hw) (cwV 0 hts gX3_takeStuff_X3_advance rfl rfl rfl hv_X3_advance ⟨(Nat.le_trans (Nat.le_of_ble_eq_true rfl) hRf), (Nat.le_trans (Nat.le_of_ble_eq_true rfl) hRl)⟩) (kc_preV (As := []) (wc := (wW_X3_advance ak ad hr_ ra ht ta pg Rcoded Rtaken Rtoken Rplace Rvalue Rfault_2 Tlen Tcnt Ttoks Tplc Tvals)) hE hT hP hD hS hA [0, 2, 3, 4, 5] (by decide) rfl rfl 0 3 rfl rfl rfl) rfl rfl hl.1 rfl (lv_room (Nat.le_of_ble_eq_true rfl)) dX3_takeStuff_17 ⟨hRc.1, hRc.2⟩) (fun u_4 H locs hw hP hD hS => ?_)
  obtain ⟨Rtaken_5, Rtoken_6, Rplace_7, Rvalue_8⟩ := u_4
  try dsimp -zeta only at hw
  have hP : va_P D vwCl (wW_X3_takeStuff ak ad hr_ ra ht ta pg pa Rcoded Rtaken_5 Rtoken_6 Rplace_7 Rvalue_8 Rfault_2 Rsn Tlen Tcnt Ttoks Tplc Tvals Pst Pce Pgi Pln) H := hP.sub [2, 0, 3, 4, 5, 6, 1] rfl
  have hD : va_D A (wW_X3_takeStuff ak ad hr_ ra ht ta pg pa Rcoded Rtaken_5 Rtoken_6 Rplace_7 Rvalue_8 Rfault_2 Rsn Tlen Tcnt Ttoks Tplc Tvals Pst Pce Pgi Pln) := hD.sub [2, 0, 3, 4, 5, 6, 1] (by decide) rfl
  refine lv_iload_n hx hb dX3_takeStuff_20 rfl (lv_at hl 0 rfl) ?_
  exact kR21 r_3 Rtaken_5 Rtoken_6 Rplace_7 Rvalue_8 Rfault_2 _ _ _ hw hP hD hS
set_option maxHeartbeats 4000000 in
set_option maxRecDepth 100000 in
theorem c_X3_takeStuff (l : Launch) (D : va_G) (ak : Nat → ClassId) (ad : Nat → Nat) (sz : Nat) (hr_ : Nat) (ra : Nat → Nat) (ht : Nat) (ta : Nat → Nat) (pg : Nat) (pa : Nat → Nat) (Rcoded : Int32) (Rtaken : Int32) (Rtoken : Nat) (Rplace : Int32) (Rvalue : Int64) (Rfault : Int32) (Rsn : Nat → Int64) (Tlen : Int32) (Tcnt : Int32) (Ttoks : Nat → Nat) (Tplc : Nat → Int32) (Tvals : Nat → Int64) (Pst : Int32) (Pce : Int32) (Pgi : Int32) (Pln : Int32) (Φ : Int32 → Int32 → Nat → Int32 → Int64 → Int32 → Prop) (hf : wp_X3_takeStuff Rsn Tcnt Ttoks Tplc Tvals Pst Rtaken Rtoken Rplace Rvalue Rfault Φ) : Met l yX3_takeStuff wsX3_takeStuff ({ frames := 2, cells := 0, slots := 0, locals := 46 }) (cPre D ak ad [.ref hr_] ((wW_X3_takeStuff ak ad hr_ ra ht ta pg pa Rcoded Rtaken Rtoken Rplace Rvalue Rfault Rsn Tlen Tcnt Ttoks Tplc Tvals Pst Pce Pgi Pln)) sz) (cI D (S := (Int32) × (Nat) × (Int32) × (Int64) × (Int32)) (fun (r : Int32) (u : (Int32) × (Nat) × (Int32) × (Int64) × (Int32)) => Φ r u.1 u.2.1 u.2.2.1 u.2.2.2.1 u.2.2.2.2) (fun u => (wW_X3_takeStuff ak ad hr_ ra ht ta pg pa Rcoded u.1 u.2.1 u.2.2.1 u.2.2.2.1 u.2.2.2.2 Rsn Tlen Tcnt Ttoks Tplc Tvals Pst Pce Pgi Pln)) ((wW_X3_takeStuff ak ad hr_ ra ht ta pg pa Rcoded Rtaken Rtoken Rplace Rvalue Rfault Rsn Tlen Tcnt Ttoks Tplc Tvals Pst Pce Pgi Pln)) sz) 0 0 (va_A ((wW_X3_takeStuff ak ad hr_ ra ht ta pg pa Rcoded Rtaken Rtoken Rplace Rvalue Rfault Rsn Tlen Tcnt Ttoks Tplc Tvals Pst Pce Pgi Pln)) sz) := by
  refine Met.ofW (cc := cX3_takeStuff) (maxL := 2) (ret := (some .int)) (by decide) rfl ?_
  intro p e s m args below meth c s₁ B hml hv
  obtain ⟨rfl, hsz, hP, hE, hD0, hT⟩ := hv
  have hx := B.exec
  have hb := B.bytes
  have hr := B.returns
  have hts := atoms_spec (ws := wsX3_takeStuff) B.pre
  have hown : s.vm.findClass RX3 = some m.cls := findClass_of_methodNamed B.named
  have hlocks := B.notSynchronized
  subst hsz
  have hD := hD0.self (sz := s.heap.size)
  generalize hAe : va_A ((wW_X3_takeStuff ak ad hr_ ra ht ta pg pa Rcoded Rtaken Rtoken Rplace Rvalue Rfault Rsn Tlen Tcnt Ttoks Tplc Tvals Pst Pce Pgi Pln)) s.heap.size = A at hD hT ⊢
  have hA : ∀ q : Nat, s.heap.size ≤ q → A q := fun q h => by rw [← hAe]; exact Or.inr h
  have hS : va_S A s.heap s.heap [] := va_S.rf
  have hl := lv_entry ([.ref hr_]) (n := 2) (Nat.le_of_ble_eq_true rfl)
  rw [lg_entry_eq]
  generalize (lg_sl ([.ref hr_]) ++ List.replicate (2 - (lg_sl ([.ref hr_])).length) Slot.unset).toArray = ls at hl ⊢
  have hl : lv_has ls 2 [(0, .ref hr_)] := hl
  exact kj_X3_takeStuff_e hx hb hown hts hml hE hT hA (Nat.le_of_ble_eq_true rfl) (Nat.le_of_ble_eq_true rfl) ⟨Nat.le_of_ble_eq_true rfl, Nat.le_of_ble_eq_true rfl⟩ hr_ ra ht ta pg pa Rcoded Rsn Tlen Tcnt Ttoks Tplc Tvals Pst Pce Pgi Pln Φ (fun r Rtaken Rtoken Rplace Rvalue Rfault H locs ls hw hP hD hS => W.iret (v := r) hx hb hr (fun t ht hW => ⟨⟨r, (Rtaken, Rtoken, Rplace, Rvalue, Rfault), rfl, hw, by rw [ht]; exact hP, by rw [hAe]; exact hD⟩, by rw [hAe]; exact hS.F ht⟩) hS.2.2 dX3_takeStuff_21) Rtaken Rtoken Rplace Rvalue Rfault _ _ _ hf hP hD hS hl

def wW_X3_takeCell (ak : Nat → ClassId) (ad : Nat → Nat) (hr_ : Nat) (ra : Nat → Nat) (ht : Nat) (ta : Nat → Nat) (pg : Nat) (pa : Nat → Nat) (Rcoded : Int32) (Rtaken : Int32) (Rtoken : Nat) (Rplace : Int32) (Rvalue : Int64) (Rfault : Int32) (Rcn : Nat → Int64) (Tlen : Int32) (Tcnt : Int32) (Ttoks : Nat → Nat) (Tplc : Nat → Int32) (Tvals : Nat → Int64) (Pst : Int32) (Pce : Int32) (Pgi : Int32) (Pln : Int32) : va_W := [(hr_, .inr (3, rob ad ra (ht) (Rcoded) (pg) (Rtaken) (Rtoken) (Rplace) (Rvalue) (Rfault))), ((ra 1), .inl (ak 1, 6, .inr (.inl (Rcn)))), (ht, .inr (5, tob ta (Tlen) (Tcnt))), ((ta 1), .inl (ak 4, 1001, .inr (.inr (.inr (.inr (tokA ad (Ttoks))))))), ((ta 2), .inl (ak 0, 1001, .inl (Tplc))), ((ta 3), .inl (ak 1, 1001, .inr (.inl (Tvals)))), (pg, .inr (2, pob pa (Pst) (Pce) (Pgi) (Pln)))]
def wp_X3_takeCell (Rcn : Nat → Int64) (Tcnt : Int32) (Ttoks : Nat → Nat) (Tplc : Nat → Int32) (Tvals : Nat → Int64) (Pce : Int32) (Rtaken : Int32) (Rtoken : Nat) (Rplace : Int32) (Rvalue : Int64) (Rfault : Int32) (Φ : Int32 → Int32 → Nat → Int32 → Int64 → Int32 → Prop) : Prop := wp_X3_toldHere Rtoken Rplace Rvalue Rcn 6 Pce Rfault (fun r_3 Rfault_2 => wp_X3_advance Tcnt Ttoks Tplc Tvals Rtaken Rtoken Rplace Rvalue (fun Rtaken_5 Rtoken_6 Rplace_7 Rvalue_8 => Φ r_3 Rtaken_5 Rtoken_6 Rplace_7 Rvalue_8 Rfault_2))
set_option maxHeartbeats 4000000 in
set_option maxRecDepth 100000 in
theorem kj_X3_takeCell_e {p : Program} {l : Launch} {e : Env} {R : Room} {s : State} {m : MethodId} {args : Array Value} {below : List Frame} {meth : Method} {c : Code} {cells slots : Nat} {Q : State → Prop} {A : Nat → Prop} {D : va_G} {ak : Nat → ClassId} {ad : Nat → Nat} (hx : p.tables.exec = Jvm.exec) (hb : c.code = cX3_takeCell) (hown : s.vm.findClass RX3 = some m.cls) (hts : ∀ w ∈ wsX3_takeCell, w.before args s = true) (hml : c.maxLocals = 2) (hE : EV D ak s) (hT : ST D ak ad A s s.heap) (hA : ∀ q, s.heap.size ≤ q → A q) (hRf : 2 ≤ R.frames) (hRl : 46 ≤ R.locals) (hRc : cells ≤ R.cells ∧ slots ≤ R.slots) (hr_ : Nat) (ra : Nat → Nat) (ht : Nat) (ta : Nat → Nat) (pg : Nat) (pa : Nat → Nat) (Rcoded : Int32) (Rcn : Nat → Int64) (Tlen : Int32) (Tcnt : Int32) (Ttoks : Nat → Nat) (Tplc : Nat → Int32) (Tvals : Nat → Int64) (Pst : Int32) (Pce : Int32) (Pgi : Int32) (Pln : Int32)  (Φ : Int32 → Int32 → Nat → Int32 → Int64 → Int32 → Prop)
    (kR21 : ∀ (r : Int32) (Rtaken : Int32) (Rtoken : Nat) (Rplace : Int32) (Rvalue : Int64) (Rfault : Int32) (H : Heap) (locs : List Loc) (ls : Array Slot), Φ r Rtaken Rtoken Rplace Rvalue Rfault → va_P D vwCl (wW_X3_takeCell ak ad hr_ ra ht ta pg pa Rcoded Rtaken Rtoken Rplace Rvalue Rfault Rcn Tlen Tcnt Ttoks Tplc Tvals Pst Pce Pgi Pln) H → va_D A (wW_X3_takeCell ak ad hr_ ra ht ta pg pa Rcoded Rtaken Rtoken Rplace Rvalue Rfault Rcn Tlen Tcnt Ttoks Tplc Tvals Pst Pce Pgi Pln) → va_S A s.heap H locs → W p l e R s m args below meth c H locs cells slots Q (F0 m 21 ls [.int r]))
    : ∀ (Rtaken : Int32) (Rtoken : Nat) (Rplace : Int32) (Rvalue : Int64) (Rfault : Int32) (H : Heap) (locs : List Loc) (ls : Array Slot), wp_X3_takeCell Rcn Tcnt Ttoks Tplc Tvals Pce Rtaken Rtoken Rplace Rvalue Rfault Φ → va_P D vwCl (wW_X3_takeCell ak ad hr_ ra ht ta pg pa Rcoded Rtaken Rtoken Rplace Rvalue Rfault Rcn Tlen Tcnt Ttoks Tplc Tvals Pst Pce Pgi Pln) H → va_D A (wW_X3_takeCell ak ad hr_ ra ht ta pg pa Rcoded Rtaken Rtoken Rplace Rvalue Rfault Rcn Tlen Tcnt Ttoks Tplc Tvals Pst Pce Pgi Pln) → va_S A s.heap H locs → lv_has ls 2 [(0, .ref hr_)] → W p l e R s m args below meth c H locs cells slots Q (F0 m 0 ls ([])) := by
  intro Rtaken Rtoken Rplace Rvalue Rfault H locs ls hw hP hD hS hl
  delta wp_X3_takeCell at hw
  refine lv_aload_n hx hb dX3_takeCell_0 rfl (lv_at hl 0 rfl) ?_
  refine lv_aload_n hx hb dX3_takeCell_1 rfl (lv_at hl 0 rfl) ?_
  refine vt_get (D := D) (ci := 3) (v := .ref (ra 1)) (C := RX3) (T := TX3) (N := 11) hx hb hts (fun w h => wm_c (wc_X3 w h)) hown hE.1 hP 0 rfl rfl 2 (by decide) tX3_2 (hts (.fieldLink RX3 15 "WornLines$Reader" "cellNames" "[J") (wm_c hw_287)) (fun _ h9 => h9) rfl dX3_takeCell_2 ?_
  refine lv_aload_n hx hb dX3_takeCell_5 rfl (lv_at hl 0 rfl) ?_
  refine vt_get (D := D) (ci := 3) (v := .ref pg) (C := RX3) (T := TX3) (N := 11) hx hb hts (fun w h => wm_c (wc_X3 w h)) hown hE.1 hP 0 rfl rfl 5 (by decide) tX3_5 (hts (.fieldLink RX3 35 "WornLines$Reader" "told" "LWornLines$Programme;") (wm_c hw_292)) (fun _ h9 => h9) rfl dX3_takeCell_6 ?_
  refine vt_get (D := D) (ci := 2) (v := .int (Pce)) (C := RX2) (T := TX2) (N := 17) hx hb hts (fun w h => wm_c (wc_X2 w h)) hown hE.1 hP 6 rfl rfl 3 (by decide) tX2_3 (hts (.fieldLink RX3 128 "WornLines$Programme" "cells" "I") (wm_c hw_434)) (fun _ h9 => h9) rfl dX3_takeCell_9 ?_
  refine kc_i (wc := (wW_X3_toldHere ak ad hr_ ra ht pg (ra 1) 6 Rcoded Rtaken Rtoken Rplace Rvalue Rfault Rcn)) (wr := [(ht, .inr (5, tob ta (Tlen) (Tcnt))), ((ta 1), .inl (ak 4, 1001, .inr (.inr (.inr (.inr (tokA ad (Ttoks))))))), ((ta 2), .inl (ak 0, 1001, .inl (Tplc))), ((ta 3), .inl (ak 1, 1001, .inr (.inl (Tvals)))), (pg, .inr (2, pob pa (Pst) (Pce) (Pgi) (Pln)))]) hP hD hS hA [0, 1] [2, 3, 4, 5, 6] rfl rfl (by decide) (by decide) (va_runV (As := [.ref (ra 1), .int (Pce)]) (rest := []) ⟨hx, hb, hml, hown, hts⟩ (c_X3_toldHere l D ak ad _ hr_ ra ht pg (ra 1) 6 Rcoded Rtaken Rtoken Rplace Rvalue Rfault Rcn Pce _ hw) (cwV 2 hts gX3_takeCell_X3_toldHere rfl rfl rfl hv_X3_toldHere ⟨(Nat.le_trans (Nat.le_of_ble_eq_true rfl) hRf), (Nat.le_trans (Nat.le_of_ble_eq_true rfl) hRl)⟩) (kc_preV (As := [.ref (ra 1), .int (Pce)]) (wc := (wW_X3_toldHere ak ad hr_ ra ht pg (ra 1) 6 Rcoded Rtaken Rtoken Rplace Rvalue Rfault Rcn)) hE hT hP hD hS hA [0, 1] (by decide) rfl rfl 0 3 rfl rfl rfl) rfl rfl hl.1 rfl (lv_room (Nat.le_of_ble_eq_true rfl)) dX3_takeCell_12 ⟨hRc.1, hRc.2⟩) (fun r_3 Rfault_2 H locs hw hP hD hS => ?_)
  try dsimp -zeta only at hw
  have hP : va_P D vwCl (wW_X3_takeCell ak ad hr_ ra ht ta pg pa Rcoded Rtaken Rtoken Rplace Rvalue Rfault_2 Rcn Tlen Tcnt Ttoks Tplc Tvals Pst Pce Pgi Pln) H := hP.sub [5, 6, 0, 1, 2, 3, 4] rfl
  have hD : va_D A (wW_X3_takeCell ak ad hr_ ra ht ta pg pa Rcoded Rtaken Rtoken Rplace Rvalue Rfault_2 Rcn Tlen Tcnt Ttoks Tplc Tvals Pst Pce Pgi Pln) := hD.sub [5, 6, 0, 1, 2, 3, 4] (by decide) rfl
  refine lv_istore_n (lv' := [(1, .int (r_3)), (0, .ref hr_)]) hx hb dX3_takeCell_15 rfl hl (by decide) rfl (fun ls hl => ?_)
  refine lv_aload_n hx hb dX3_takeCell_16 rfl (lv_at hl 1 rfl) ?_
  refine kc_v (wc := (wW_X3_advance ak ad hr_ ra ht ta pg Rcoded Rtaken Rtoken Rplace Rvalue Rfault_2 Tlen Tcnt Ttoks Tplc Tvals)) (wr := [((ra 1), .inl (ak 1, 6, .inr (.inl (Rcn)))), (pg, .inr (2, pob pa (Pst) (Pce) (Pgi) (Pln)))]) hP hD hS hA [0, 2, 3, 4, 5] [1, 6] rfl rfl (by decide) (by decide) (va_runV (As := []) (rest := []) ⟨hx, hb, hml, hown, hts⟩ (c_X3_advance l D ak ad _ hr_ ra ht ta pg Rcoded Rtaken Rtoken Rplace Rvalue Rfault_2 Tlen Tcnt Ttoks Tplc Tvals _ hw) (cwV 0 hts gX3_takeCell_X3_advance rfl rfl rfl hv_X3_advance ⟨(Nat.le_trans (Nat.le_of_ble_eq_true rfl) hRf), (Nat.le_trans (Nat.le_of_ble_eq_true rfl) hRl)⟩) (kc_preV (As := []) (wc := (wW_X3_advance ak ad hr_ ra ht ta pg Rcoded Rtaken Rtoken Rplace Rvalue Rfault_2 Tlen Tcnt Ttoks Tplc Tvals)) hE hT hP hD hS hA [0, 2, 3, 4, 5] (by decide) rfl rfl 0 3 rfl rfl rfl) rfl rfl hl.1 rfl (lv_room (Nat.le_of_ble_eq_true rfl)) dX3_takeCell_17 ⟨hRc.1, hRc.2⟩) (fun u_4 H locs hw hP hD hS => ?_)
  obtain ⟨Rtaken_5, Rtoken_6, Rplace_7, Rvalue_8⟩ := u_4
  try dsimp -zeta only at hw
  have hP : va_P D vwCl (wW_X3_takeCell ak ad hr_ ra ht ta pg pa Rcoded Rtaken_5 Rtoken_6 Rplace_7 Rvalue_8 Rfault_2 Rcn Tlen Tcnt Ttoks Tplc Tvals Pst Pce Pgi Pln) H := hP.sub [2, 0, 3, 4, 5, 6, 1] rfl
  have hD : va_D A (wW_X3_takeCell ak ad hr_ ra ht ta pg pa Rcoded Rtaken_5 Rtoken_6 Rplace_7 Rvalue_8 Rfault_2 Rcn Tlen Tcnt Ttoks Tplc Tvals Pst Pce Pgi Pln) := hD.sub [2, 0, 3, 4, 5, 6, 1] (by decide) rfl
  refine lv_iload_n hx hb dX3_takeCell_20 rfl (lv_at hl 0 rfl) ?_
  exact kR21 r_3 Rtaken_5 Rtoken_6 Rplace_7 Rvalue_8 Rfault_2 _ _ _ hw hP hD hS
set_option maxHeartbeats 4000000 in
set_option maxRecDepth 100000 in
theorem c_X3_takeCell (l : Launch) (D : va_G) (ak : Nat → ClassId) (ad : Nat → Nat) (sz : Nat) (hr_ : Nat) (ra : Nat → Nat) (ht : Nat) (ta : Nat → Nat) (pg : Nat) (pa : Nat → Nat) (Rcoded : Int32) (Rtaken : Int32) (Rtoken : Nat) (Rplace : Int32) (Rvalue : Int64) (Rfault : Int32) (Rcn : Nat → Int64) (Tlen : Int32) (Tcnt : Int32) (Ttoks : Nat → Nat) (Tplc : Nat → Int32) (Tvals : Nat → Int64) (Pst : Int32) (Pce : Int32) (Pgi : Int32) (Pln : Int32) (Φ : Int32 → Int32 → Nat → Int32 → Int64 → Int32 → Prop) (hf : wp_X3_takeCell Rcn Tcnt Ttoks Tplc Tvals Pce Rtaken Rtoken Rplace Rvalue Rfault Φ) : Met l yX3_takeCell wsX3_takeCell ({ frames := 2, cells := 0, slots := 0, locals := 46 }) (cPre D ak ad [.ref hr_] ((wW_X3_takeCell ak ad hr_ ra ht ta pg pa Rcoded Rtaken Rtoken Rplace Rvalue Rfault Rcn Tlen Tcnt Ttoks Tplc Tvals Pst Pce Pgi Pln)) sz) (cI D (S := (Int32) × (Nat) × (Int32) × (Int64) × (Int32)) (fun (r : Int32) (u : (Int32) × (Nat) × (Int32) × (Int64) × (Int32)) => Φ r u.1 u.2.1 u.2.2.1 u.2.2.2.1 u.2.2.2.2) (fun u => (wW_X3_takeCell ak ad hr_ ra ht ta pg pa Rcoded u.1 u.2.1 u.2.2.1 u.2.2.2.1 u.2.2.2.2 Rcn Tlen Tcnt Ttoks Tplc Tvals Pst Pce Pgi Pln)) ((wW_X3_takeCell ak ad hr_ ra ht ta pg pa Rcoded Rtaken Rtoken Rplace Rvalue Rfault Rcn Tlen Tcnt Ttoks Tplc Tvals Pst Pce Pgi Pln)) sz) 0 0 (va_A ((wW_X3_takeCell ak ad hr_ ra ht ta pg pa Rcoded Rtaken Rtoken Rplace Rvalue Rfault Rcn Tlen Tcnt Ttoks Tplc Tvals Pst Pce Pgi Pln)) sz) := by
  refine Met.ofW (cc := cX3_takeCell) (maxL := 2) (ret := (some .int)) (by decide) rfl ?_
  intro p e s m args below meth c s₁ B hml hv
  obtain ⟨rfl, hsz, hP, hE, hD0, hT⟩ := hv
  have hx := B.exec
  have hb := B.bytes
  have hr := B.returns
  have hts := atoms_spec (ws := wsX3_takeCell) B.pre
  have hown : s.vm.findClass RX3 = some m.cls := findClass_of_methodNamed B.named
  have hlocks := B.notSynchronized
  subst hsz
  have hD := hD0.self (sz := s.heap.size)
  generalize hAe : va_A ((wW_X3_takeCell ak ad hr_ ra ht ta pg pa Rcoded Rtaken Rtoken Rplace Rvalue Rfault Rcn Tlen Tcnt Ttoks Tplc Tvals Pst Pce Pgi Pln)) s.heap.size = A at hD hT ⊢
  have hA : ∀ q : Nat, s.heap.size ≤ q → A q := fun q h => by rw [← hAe]; exact Or.inr h
  have hS : va_S A s.heap s.heap [] := va_S.rf
  have hl := lv_entry ([.ref hr_]) (n := 2) (Nat.le_of_ble_eq_true rfl)
  rw [lg_entry_eq]
  generalize (lg_sl ([.ref hr_]) ++ List.replicate (2 - (lg_sl ([.ref hr_])).length) Slot.unset).toArray = ls at hl ⊢
  have hl : lv_has ls 2 [(0, .ref hr_)] := hl
  exact kj_X3_takeCell_e hx hb hown hts hml hE hT hA (Nat.le_of_ble_eq_true rfl) (Nat.le_of_ble_eq_true rfl) ⟨Nat.le_of_ble_eq_true rfl, Nat.le_of_ble_eq_true rfl⟩ hr_ ra ht ta pg pa Rcoded Rcn Tlen Tcnt Ttoks Tplc Tvals Pst Pce Pgi Pln Φ (fun r Rtaken Rtoken Rplace Rvalue Rfault H locs ls hw hP hD hS => W.iret (v := r) hx hb hr (fun t ht hW => ⟨⟨r, (Rtaken, Rtoken, Rplace, Rvalue, Rfault), rfl, hw, by rw [ht]; exact hP, by rw [hAe]; exact hD⟩, by rw [hAe]; exact hS.F ht⟩) hS.2.2 dX3_takeCell_21) Rtaken Rtoken Rplace Rvalue Rfault _ _ _ hf hP hD hS hl

def wW_X3_isGiven (ak : Nat → ClassId) (ad : Nat → Nat) (hr_ : Nat) (ra : Nat → Nat) (ht : Nat) (pg : Nat) (pa : Nat → Nat) (Rcoded : Int32) (Rtaken : Int32) (Rtoken : Nat) (Rplace : Int32) (Rvalue : Int64) (Rfault : Int32) (Pst : Int32) (Pce : Int32) (Pgi : Int32) (Pln : Int32) (PgivenC : Nat → Int32) : va_W := [(hr_, .inr (3, rob ad ra (ht) (Rcoded) (pg) (Rtaken) (Rtoken) (Rplace) (Rvalue) (Rfault))), (pg, .inr (2, pob pa (Pst) (Pce) (Pgi) (Pln))), ((pa 3), .inl (ak 0, 2, .inl (PgivenC)))]
def lb_X3_isGiven_2 (Pgi : Int32) (PgivenC : Nat → Int32) (xc : Int32)  (Φ : Int32 → Prop) (back : Int32 → Prop) (l2 : Int32) : Prop := (Pgi ≤ l2 → Φ 0 ) ∧ (¬ Pgi ≤ l2 → vp_in l2 2 ∧ (¬ (PgivenC (l2).toNatClampNeg) = xc → back (l2 + 1)) ∧ ((PgivenC (l2).toNatClampNeg) = xc → Φ 1 ))
def lf_X3_isGiven_2 (Pgi : Int32) (PgivenC : Nat → Int32) (xc : Int32)  (Φ : Int32 → Prop) : Nat → Int32 → Prop
  | 0, _ => False
  | n_ + 1, l2 => lb_X3_isGiven_2 Pgi PgivenC xc  Φ (lf_X3_isGiven_2 Pgi PgivenC xc  Φ n_) l2
theorem li_X3_isGiven_2 (Pgi : Int32) (PgivenC : Nat → Int32) (xc : Int32)  (Φ : Int32 → Prop) (Inv : Int32 → Prop) (mu : Int32 → Nat) (hs : ∀ (back : Int32 → Prop) (l2 : Int32), Inv l2 → (∀ (l2' : Int32), Inv l2' → mu l2' < mu l2 → back l2') → lb_X3_isGiven_2 Pgi PgivenC xc  Φ back l2) : ∀ (n_ : Nat) (l2 : Int32), Inv l2 → mu l2 < n_ → lf_X3_isGiven_2 Pgi PgivenC xc  Φ n_ l2 := by
  intro n_
  induction n_ with
  | zero => intro l2 _ h; exact absurd h (Nat.not_lt_zero _)
  | succ n_ ih => intro l2 hI hm; exact hs _ l2 hI (fun l2' h1 h2 => ih l2' h1 (by omega))
set_option maxHeartbeats 4000000 in
set_option maxRecDepth 100000 in
theorem lp_X3_isGiven_2 {p : Program} {l : Launch} {e : Env} {R : Room} {s : State} {m : MethodId} {args : Array Value} {below : List Frame} {meth : Method} {c : Code} {cells slots : Nat} {Q : State → Prop} {A : Nat → Prop} {D : va_G} {ak : Nat → ClassId} {ad : Nat → Nat} (hx : p.tables.exec = Jvm.exec) (hb : c.code = cX3_isGiven) (hown : s.vm.findClass RX3 = some m.cls) (hts : ∀ w ∈ wsX3_isGiven, w.before args s = true) (hml : c.maxLocals = 3) (hE : EV D ak s) (hT : ST D ak ad A s s.heap) (hA : ∀ q, s.heap.size ≤ q → A q) (hr_ : Nat) (ra : Nat → Nat) (ht : Nat) (pg : Nat) (pa : Nat → Nat) (Rcoded : Int32) (Rtaken : Int32) (Rtoken : Nat) (Rplace : Int32) (Rvalue : Int64) (Rfault : Int32) (Pst : Int32) (Pce : Int32) (Pgi : Int32) (Pln : Int32) (PgivenC : Nat → Int32) (xc : Int32)  (Φ : Int32 → Prop)
    (kR27 : ∀ (r : Int32)  (H : Heap) (locs : List Loc) (ls : Array Slot), (r = 0 ∨ r = 1) → Φ r  → va_P D vwCl (wW_X3_isGiven ak ad hr_ ra ht pg pa Rcoded Rtaken Rtoken Rplace Rvalue Rfault Pst Pce Pgi Pln PgivenC) H → va_D A (wW_X3_isGiven ak ad hr_ ra ht pg pa Rcoded Rtaken Rtoken Rplace Rvalue Rfault Pst Pce Pgi Pln PgivenC) → va_S A s.heap H locs → W p l e R s m args below meth c H locs cells slots Q (F0 m 27 ls [.int r]))
    (kR35 : ∀ (r : Int32)  (H : Heap) (locs : List Loc) (ls : Array Slot), (r = 0 ∨ r = 1) → Φ r  → va_P D vwCl (wW_X3_isGiven ak ad hr_ ra ht pg pa Rcoded Rtaken Rtoken Rplace Rvalue Rfault Pst Pce Pgi Pln PgivenC) H → va_D A (wW_X3_isGiven ak ad hr_ ra ht pg pa Rcoded Rtaken Rtoken Rplace Rvalue Rfault Pst Pce Pgi Pln PgivenC) → va_S A s.heap H locs → W p l e R s m args below meth c H locs cells slots Q (F0 m 35 ls [.int r]))
    : ∀ (n_ : Nat) (l2 : Int32) (H : Heap) (locs : List Loc) (ls : Array Slot), lf_X3_isGiven_2 Pgi PgivenC xc  Φ n_ l2 → va_P D vwCl (wW_X3_isGiven ak ad hr_ ra ht pg pa Rcoded Rtaken Rtoken Rplace Rvalue Rfault Pst Pce Pgi Pln PgivenC) H → va_D A (wW_X3_isGiven ak ad hr_ ra ht pg pa Rcoded Rtaken Rtoken Rplace Rvalue Rfault Pst Pce Pgi Pln PgivenC) → va_S A s.heap H locs → lv_has ls 3 [(0, .ref hr_), (1, .int (xc)), (2, .int (l2))] → W p l e R s m args below meth c H locs cells slots Q (F0 m 2 ls ([])) := by
  intro n_
  induction n_ with
  | zero =>
    intro l2 H locs ls hw
    exact hw.elim
  | succ n_ ih =>
    intro l2 H locs ls hw hP hD hS hl
    have hw : lb_X3_isGiven_2 Pgi PgivenC xc  Φ (lf_X3_isGiven_2 Pgi PgivenC xc  Φ n_) l2 := hw
    delta lb_X3_isGiven_2 at hw
    refine lv_iload_n hx hb dX3_isGiven_2 rfl (lv_at hl 2 rfl) ?_
    refine lv_aload_n hx hb dX3_isGiven_3 rfl (lv_at hl 0 rfl) ?_
    refine vt_get (D := D) (ci := 3) (v := .ref pg) (C := RX3) (T := TX3) (N := 11) hx hb hts (fun w h => wm_c (wc_X3 w h)) hown hE.1 hP 0 rfl rfl 5 (by decide) tX3_5 (hts (.fieldLink RX3 35 "WornLines$Reader" "told" "LWornLines$Programme;") (wm_c hw_292)) (fun _ h9 => h9) rfl dX3_isGiven_4 ?_
    refine vt_get (D := D) (ci := 2) (v := .int (Pgi)) (C := RX2) (T := TX2) (N := 17) hx hb hts (fun w h => wm_c (wc_X2 w h)) hown hE.1 hP 1 rfl rfl 5 (by decide) tX2_5 (hts (.fieldLink RX3 133 "WornLines$Programme" "given" "I") (wm_c hw_435)) (fun _ h9 => h9) rfl dX3_isGiven_7 ?_
    refine lv_icmp_ge (tgt := 34) hx hb dX3_isGiven_10 (by decide) (fun c_1 => ?_) (fun c_1 => ?_)
    · replace hw := hw.1 c_1
      refine lv_iconst (v := 0) hx hb dX3_isGiven_34 (by decide) ?_
      exact kR35 0  _ _ _ (Or.inl rfl) hw hP hD hS
    · replace hw := hw.2 c_1
      refine lv_aload_n hx hb dX3_isGiven_13 rfl (lv_at hl 0 rfl) ?_
      refine vt_get (D := D) (ci := 3) (v := .ref pg) (C := RX3) (T := TX3) (N := 11) hx hb hts (fun w h => wm_c (wc_X3 w h)) hown hE.1 hP 0 rfl rfl 5 (by decide) tX3_5 (hts (.fieldLink RX3 35 "WornLines$Reader" "told" "LWornLines$Programme;") (wm_c hw_292)) (fun _ h9 => h9) rfl dX3_isGiven_14 ?_
      refine vt_get (D := D) (ci := 2) (v := .ref (pa 3)) (C := RX2) (T := TX2) (N := 17) hx hb hts (fun w h => wm_c (wc_X2 w h)) hown hE.1 hP 1 rfl rfl 6 (by decide) tX2_6 (hts (.fieldLink RX3 151 "WornLines$Programme" "givenCell" "[I") (wm_c hw_436)) (fun _ h9 => h9) rfl dX3_isGiven_17 ?_
      refine lv_iload_n hx hb dX3_isGiven_20 rfl (lv_at hl 2 rfl) ?_
      obtain ⟨h_2, hw⟩ := hw
      refine va_iald hx hb hE.1 hP 2 0 rfl rfl (h_2) dX3_isGiven_21 ?_
      refine lv_iload_n hx hb dX3_isGiven_22 rfl (lv_at hl 1 rfl) ?_
      refine lv_icmp_ne (tgt := 28) hx hb dX3_isGiven_23 (by decide) (fun c_3 => ?_) (fun c_3 => ?_)
      · replace hw := hw.1 c_3
        refine lv_iinc (v := (l2 + 1)) (lv' := [(2, .int (l2 + 1)), (0, .ref hr_), (1, .int (xc))]) hx hb dX3_isGiven_28 hl (k := 2) rfl (rfl) (by decide) rfl (fun ls hl => ?_)
        refine lv_goto (tgt := 2) hx hb dX3_isGiven_31 (by decide) ?_
        exact ih (l2 + 1) _ _ _ hw hP hD hS (lv_sub hl [1, 2, 0] rfl)
      · replace hw := hw.2 c_3
        refine lv_iconst (v := 1) hx hb dX3_isGiven_26 (by decide) ?_
        exact kR27 1  _ _ _ (Or.inr rfl) hw hP hD hS

def wp_X3_isGiven (Pgi : Int32) (PgivenC : Nat → Int32) (xc : Int32)  (Φ : Int32 → Prop) : Prop := (∃ n_, lf_X3_isGiven_2 Pgi PgivenC xc  Φ n_ 0)
set_option maxHeartbeats 4000000 in
set_option maxRecDepth 100000 in
theorem kj_X3_isGiven_e {p : Program} {l : Launch} {e : Env} {R : Room} {s : State} {m : MethodId} {args : Array Value} {below : List Frame} {meth : Method} {c : Code} {cells slots : Nat} {Q : State → Prop} {A : Nat → Prop} {D : va_G} {ak : Nat → ClassId} {ad : Nat → Nat} (hx : p.tables.exec = Jvm.exec) (hb : c.code = cX3_isGiven) (hown : s.vm.findClass RX3 = some m.cls) (hts : ∀ w ∈ wsX3_isGiven, w.before args s = true) (hml : c.maxLocals = 3) (hE : EV D ak s) (hT : ST D ak ad A s s.heap) (hA : ∀ q, s.heap.size ≤ q → A q) (hr_ : Nat) (ra : Nat → Nat) (ht : Nat) (pg : Nat) (pa : Nat → Nat) (Rcoded : Int32) (Rtaken : Int32) (Rtoken : Nat) (Rplace : Int32) (Rvalue : Int64) (Rfault : Int32) (Pst : Int32) (Pce : Int32) (Pgi : Int32) (Pln : Int32) (PgivenC : Nat → Int32) (xc : Int32)  (Φ : Int32 → Prop)
    (kR27 : ∀ (r : Int32)  (H : Heap) (locs : List Loc) (ls : Array Slot), (r = 0 ∨ r = 1) → Φ r  → va_P D vwCl (wW_X3_isGiven ak ad hr_ ra ht pg pa Rcoded Rtaken Rtoken Rplace Rvalue Rfault Pst Pce Pgi Pln PgivenC) H → va_D A (wW_X3_isGiven ak ad hr_ ra ht pg pa Rcoded Rtaken Rtoken Rplace Rvalue Rfault Pst Pce Pgi Pln PgivenC) → va_S A s.heap H locs → W p l e R s m args below meth c H locs cells slots Q (F0 m 27 ls [.int r]))
    (kR35 : ∀ (r : Int32)  (H : Heap) (locs : List Loc) (ls : Array Slot), (r = 0 ∨ r = 1) → Φ r  → va_P D vwCl (wW_X3_isGiven ak ad hr_ ra ht pg pa Rcoded Rtaken Rtoken Rplace Rvalue Rfault Pst Pce Pgi Pln PgivenC) H → va_D A (wW_X3_isGiven ak ad hr_ ra ht pg pa Rcoded Rtaken Rtoken Rplace Rvalue Rfault Pst Pce Pgi Pln PgivenC) → va_S A s.heap H locs → W p l e R s m args below meth c H locs cells slots Q (F0 m 35 ls [.int r]))
    : ∀  (H : Heap) (locs : List Loc) (ls : Array Slot), wp_X3_isGiven Pgi PgivenC xc  Φ → va_P D vwCl (wW_X3_isGiven ak ad hr_ ra ht pg pa Rcoded Rtaken Rtoken Rplace Rvalue Rfault Pst Pce Pgi Pln PgivenC) H → va_D A (wW_X3_isGiven ak ad hr_ ra ht pg pa Rcoded Rtaken Rtoken Rplace Rvalue Rfault Pst Pce Pgi Pln PgivenC) → va_S A s.heap H locs → lv_has ls 3 [(0, .ref hr_), (1, .int (xc))] → W p l e R s m args below meth c H locs cells slots Q (F0 m 0 ls ([])) := by
  intro  H locs ls hw hP hD hS hl
  delta wp_X3_isGiven at hw
  refine lv_iconst (v := 0) hx hb dX3_isGiven_0 (by decide) ?_
  refine lv_istore_n (lv' := [(2, .int (0)), (0, .ref hr_), (1, .int (xc))]) hx hb dX3_isGiven_1 rfl hl (by decide) rfl (fun ls hl => ?_)
  obtain ⟨n1_, hw⟩ := hw
  exact lp_X3_isGiven_2 hx hb hown hts hml hE hT hA hr_ ra ht pg pa Rcoded Rtaken Rtoken Rplace Rvalue Rfault Pst Pce Pgi Pln PgivenC xc  Φ  kR27 kR35 n1_ 0 _ _ _ hw hP hD hS (lv_sub hl [1, 2, 0] rfl)
set_option maxHeartbeats 4000000 in
set_option maxRecDepth 100000 in
theorem c_X3_isGiven (l : Launch) (D : va_G) (ak : Nat → ClassId) (ad : Nat → Nat) (sz : Nat) (hr_ : Nat) (ra : Nat → Nat) (ht : Nat) (pg : Nat) (pa : Nat → Nat) (Rcoded : Int32) (Rtaken : Int32) (Rtoken : Nat) (Rplace : Int32) (Rvalue : Int64) (Rfault : Int32) (Pst : Int32) (Pce : Int32) (Pgi : Int32) (Pln : Int32) (PgivenC : Nat → Int32) (xc : Int32) (Φ : Int32 → Prop) (hf : wp_X3_isGiven Pgi PgivenC xc Φ) : Met l yX3_isGiven wsX3_isGiven ({ frames := 0, cells := 0, slots := 0, locals := 0 }) (cPre D ak ad [.ref hr_, .int (xc)] ((wW_X3_isGiven ak ad hr_ ra ht pg pa Rcoded Rtaken Rtoken Rplace Rvalue Rfault Pst Pce Pgi Pln PgivenC)) sz) (cI D (S := Unit) (fun (r : Int32) (u : Unit) => Φ r ) (fun u => (wW_X3_isGiven ak ad hr_ ra ht pg pa Rcoded Rtaken Rtoken Rplace Rvalue Rfault Pst Pce Pgi Pln PgivenC)) ((wW_X3_isGiven ak ad hr_ ra ht pg pa Rcoded Rtaken Rtoken Rplace Rvalue Rfault Pst Pce Pgi Pln PgivenC)) sz) 0 0 (va_A ((wW_X3_isGiven ak ad hr_ ra ht pg pa Rcoded Rtaken Rtoken Rplace Rvalue Rfault Pst Pce Pgi Pln PgivenC)) sz) := by
  refine Met.ofW (cc := cX3_isGiven) (maxL := 3) (ret := (some .boolean)) (by decide) rfl ?_
  intro p e s m args below meth c s₁ B hml hv
  obtain ⟨rfl, hsz, hP, hE, hD0, hT⟩ := hv
  have hx := B.exec
  have hb := B.bytes
  have hr := B.returns
  have hts := atoms_spec (ws := wsX3_isGiven) B.pre
  have hown : s.vm.findClass RX3 = some m.cls := findClass_of_methodNamed B.named
  have hlocks := B.notSynchronized
  subst hsz
  have hD := hD0.self (sz := s.heap.size)
  generalize hAe : va_A ((wW_X3_isGiven ak ad hr_ ra ht pg pa Rcoded Rtaken Rtoken Rplace Rvalue Rfault Pst Pce Pgi Pln PgivenC)) s.heap.size = A at hD hT ⊢
  have hA : ∀ q : Nat, s.heap.size ≤ q → A q := fun q h => by rw [← hAe]; exact Or.inr h
  have hS : va_S A s.heap s.heap [] := va_S.rf
  have hl := lv_entry ([.ref hr_, .int (xc)]) (n := 3) (Nat.le_of_ble_eq_true rfl)
  rw [lg_entry_eq]
  generalize (lg_sl ([.ref hr_, .int (xc)]) ++ List.replicate (3 - (lg_sl ([.ref hr_, .int (xc)])).length) Slot.unset).toArray = ls at hl ⊢
  have hl : lv_has ls 3 [(0, .ref hr_), (1, .int (xc))] := hl
  exact kj_X3_isGiven_e hx hb hown hts hml hE hT hA hr_ ra ht pg pa Rcoded Rtaken Rtoken Rplace Rvalue Rfault Pst Pce Pgi Pln PgivenC xc Φ (fun r  H locs ls hz hw hP hD hS => W.zret (v := r) hx hb hr (bl_zn hz) (fun t ht hW => ⟨⟨r, (), rfl, hw, by rw [ht]; exact hP, by rw [hAe]; exact hD⟩, by rw [hAe]; exact hS.F ht⟩) hS.2.2 dX3_isGiven_27) (fun r  H locs ls hz hw hP hD hS => W.zret (v := r) hx hb hr (bl_zn hz) (fun t ht hW => ⟨⟨r, (), rfl, hw, by rw [ht]; exact hP, by rw [hAe]; exact hD⟩, by rw [hAe]; exact hS.F ht⟩) hS.2.2 dX3_isGiven_35)  _ _ _ hf hP hD hS hl

def wW_X2_widthW (ak : Nat → ClassId) (ad : Nat → Nat) (pg : Nat) (pa : Nat → Nat) (Pst : Int32) (Pce : Int32) (Pgi : Int32) (Pln : Int32) (Pleast : Nat → Int32) (Pgreat : Nat → Int32) : va_W := [(pg, .inr (2, pob pa (Pst) (Pce) (Pgi) (Pln))), ((pa 4), .inl (ak 0, 2, .inl (Pleast))), ((pa 5), .inl (ak 0, 2, .inl (Pgreat)))]
def wp_X2_widthW (Pleast : Nat → Int32) (Pgreat : Nat → Int32) (xi : Int32)  (Φ : Int32 → Prop) : Prop := vp_in xi 2 ∧ vp_in xi 2 ∧ Φ (if (1 : Int32) < (((Pgreat (xi).toNatClampNeg) - (Pleast (xi).toNatClampNeg)) + 1) then (((Pgreat (xi).toNatClampNeg) - (Pleast (xi).toNatClampNeg)) + 1) else (1 : Int32)) 
set_option maxHeartbeats 4000000 in
set_option maxRecDepth 100000 in
theorem kj_X2_widthW_e {p : Program} {l : Launch} {e : Env} {R : Room} {s : State} {m : MethodId} {args : Array Value} {below : List Frame} {meth : Method} {c : Code} {cells slots : Nat} {Q : State → Prop} {A : Nat → Prop} {D : va_G} {ak : Nat → ClassId} {ad : Nat → Nat} (hx : p.tables.exec = Jvm.exec) (hb : c.code = cX2_width) (hown : s.vm.findClass RX2 = some m.cls) (hts : ∀ w ∈ wsX2_width, w.before args s = true) (hml : c.maxLocals = 2) (hE : EV D ak s) (hT : ST D ak ad A s s.heap) (hA : ∀ q, s.heap.size ≤ q → A q) (hRf : 1 ≤ R.frames) (hRl : 13 ≤ R.locals) (hRc : cells ≤ R.cells ∧ slots ≤ R.slots) (pg : Nat) (pa : Nat → Nat) (Pst : Int32) (Pce : Int32) (Pgi : Int32) (Pln : Int32) (Pleast : Nat → Int32) (Pgreat : Nat → Int32) (xi : Int32)  (Φ : Int32 → Prop)
    (kR19 : ∀ (r : Int32)  (H : Heap) (locs : List Loc) (ls : Array Slot), Φ r  → va_P D vwCl (wW_X2_widthW ak ad pg pa Pst Pce Pgi Pln Pleast Pgreat) H → va_D A (wW_X2_widthW ak ad pg pa Pst Pce Pgi Pln Pleast Pgreat) → va_S A s.heap H locs → W p l e R s m args below meth c H locs cells slots Q (F0 m 19 ls [.int r]))
    : ∀  (H : Heap) (locs : List Loc) (ls : Array Slot), wp_X2_widthW Pleast Pgreat xi  Φ → va_P D vwCl (wW_X2_widthW ak ad pg pa Pst Pce Pgi Pln Pleast Pgreat) H → va_D A (wW_X2_widthW ak ad pg pa Pst Pce Pgi Pln Pleast Pgreat) → va_S A s.heap H locs → lv_has ls 2 [(0, .ref pg), (1, .int (xi))] → W p l e R s m args below meth c H locs cells slots Q (F0 m 0 ls ([])) := by
  intro  H locs ls hw hP hD hS hl
  delta wp_X2_widthW at hw
  refine lv_iconst (v := 1) hx hb dX2_width_0 (by decide) ?_
  refine lv_aload_n hx hb dX2_width_1 rfl (lv_at hl 0 rfl) ?_
  refine vt_get (D := D) (ci := 2) (v := .ref (pa 5)) (C := RX2) (T := TX2) (N := 17) hx hb hts (fun w h => wm_c (wc_X2 w h)) hown hE.1 hP 0 rfl rfl 8 (by decide) tX2_8 (hts (.fieldLink RX2 27 "WornLines$Programme" "greatest" "[I") (wm_c hw_277)) (fun _ h9 => h9) rfl dX2_width_2 ?_
  refine lv_iload_n hx hb dX2_width_5 rfl (lv_at hl 1 rfl) ?_
  obtain ⟨h_1, hw⟩ := hw
  refine va_iald hx hb hE.1 hP 2 0 rfl rfl (h_1) dX2_width_6 ?_
  refine lv_aload_n hx hb dX2_width_7 rfl (lv_at hl 0 rfl) ?_
  refine vt_get (D := D) (ci := 2) (v := .ref (pa 4)) (C := RX2) (T := TX2) (N := 17) hx hb hts (fun w h => wm_c (wc_X2 w h)) hown hE.1 hP 0 rfl rfl 7 (by decide) tX2_7 (hts (.fieldLink RX2 24 "WornLines$Programme" "least" "[I") (wm_c hw_276)) (fun _ h9 => h9) rfl dX2_width_8 ?_
  refine lv_iload_n hx hb dX2_width_11 rfl (lv_at hl 1 rfl) ?_
  obtain ⟨h_2, hw⟩ := hw
  refine va_iald hx hb hE.1 hP 1 0 rfl rfl (h_2) dX2_width_12 ?_
  refine lv_isub hx hb dX2_width_13 ?_
  refine lv_iconst (v := 1) hx hb dX2_width_14 (by decide) ?_
  refine lv_iadd hx hb dX2_width_15 ?_
  refine va_mmax hx hb (by rw [hml]; exact hl.1.symm) hown (hts (.methodLink RX2 59 Lib.Math.max.name) (wm_c hw_313)) (hts (.static Lib.Math.max.name) (wm_c hw_183)) (hts (.initialized "java/lang/Math") (wm_c hw_184)) (hts (.code Lib.Math.max.name Lib.Math.max.code 2 (some .int)) (wm_c hw_185)) (Nat.le_trans (Nat.le_of_ble_eq_true rfl) hRf) (Nat.le_trans (Nat.le_of_ble_eq_true rfl) hRl) hRc.1 hRc.2 dX2_width_16 ?_
  exact kR19 (if (1 : Int32) < (((Pgreat (xi).toNatClampNeg) - (Pleast (xi).toNatClampNeg)) + 1) then (((Pgreat (xi).toNatClampNeg) - (Pleast (xi).toNatClampNeg)) + 1) else (1 : Int32))  _ _ _ hw hP hD hS
set_option maxHeartbeats 4000000 in
set_option maxRecDepth 100000 in
theorem c_X2_widthW (l : Launch) (D : va_G) (ak : Nat → ClassId) (ad : Nat → Nat) (sz : Nat) (pg : Nat) (pa : Nat → Nat) (Pst : Int32) (Pce : Int32) (Pgi : Int32) (Pln : Int32) (Pleast : Nat → Int32) (Pgreat : Nat → Int32) (xi : Int32) (Φ : Int32 → Prop) (hf : wp_X2_widthW Pleast Pgreat xi Φ) : Met l yX2_width wsX2_width ({ frames := 1, cells := 0, slots := 0, locals := 13 }) (cPre D ak ad [.ref pg, .int (xi)] ((wW_X2_widthW ak ad pg pa Pst Pce Pgi Pln Pleast Pgreat)) sz) (cI D (S := Unit) (fun (r : Int32) (u : Unit) => Φ r ) (fun u => (wW_X2_widthW ak ad pg pa Pst Pce Pgi Pln Pleast Pgreat)) ((wW_X2_widthW ak ad pg pa Pst Pce Pgi Pln Pleast Pgreat)) sz) 0 0 (va_A ((wW_X2_widthW ak ad pg pa Pst Pce Pgi Pln Pleast Pgreat)) sz) := by
  refine Met.ofW (cc := cX2_width) (maxL := 2) (ret := (some .int)) (by decide) rfl ?_
  intro p e s m args below meth c s₁ B hml hv
  obtain ⟨rfl, hsz, hP, hE, hD0, hT⟩ := hv
  have hx := B.exec
  have hb := B.bytes
  have hr := B.returns
  have hts := atoms_spec (ws := wsX2_width) B.pre
  have hown : s.vm.findClass RX2 = some m.cls := findClass_of_methodNamed B.named
  have hlocks := B.notSynchronized
  subst hsz
  have hD := hD0.self (sz := s.heap.size)
  generalize hAe : va_A ((wW_X2_widthW ak ad pg pa Pst Pce Pgi Pln Pleast Pgreat)) s.heap.size = A at hD hT ⊢
  have hA : ∀ q : Nat, s.heap.size ≤ q → A q := fun q h => by rw [← hAe]; exact Or.inr h
  have hS : va_S A s.heap s.heap [] := va_S.rf
  have hl := lv_entry ([.ref pg, .int (xi)]) (n := 2) (Nat.le_of_ble_eq_true rfl)
  rw [lg_entry_eq]
  generalize (lg_sl ([.ref pg, .int (xi)]) ++ List.replicate (2 - (lg_sl ([.ref pg, .int (xi)])).length) Slot.unset).toArray = ls at hl ⊢
  have hl : lv_has ls 2 [(0, .ref pg), (1, .int (xi))] := hl
  exact kj_X2_widthW_e hx hb hown hts hml hE hT hA (Nat.le_of_ble_eq_true rfl) (Nat.le_of_ble_eq_true rfl) ⟨Nat.le_of_ble_eq_true rfl, Nat.le_of_ble_eq_true rfl⟩ pg pa Pst Pce Pgi Pln Pleast Pgreat xi Φ (fun r  H locs ls hw hP hD hS => W.iret (v := r) hx hb hr (fun t ht hW => ⟨⟨r, (), rfl, hw, by rw [ht]; exact hP, by rw [hAe]; exact hD⟩, by rw [hAe]; exact hS.F ht⟩) hS.2.2 dX2_width_19)  _ _ _ hf hP hD hS hl

def wW_X2_inputCountW (ak : Nat → ClassId) (ad : Nat → Nat) (pg : Nat) (pa : Nat → Nat) (Pst : Int32) (Pce : Int32) (Pgi : Int32) (Pln : Int32) (Pleast : Nat → Int32) (Pgreat : Nat → Int32) : va_W := [(pg, .inr (2, pob pa (Pst) (Pce) (Pgi) (Pln))), ((pa 4), .inl (ak 0, 2, .inl (Pleast))), ((pa 5), .inl (ak 0, 2, .inl (Pgreat)))]
def lb_X2_inputCountW_4 (Pgi : Int32) (Pleast : Nat → Int32) (Pgreat : Nat → Int32)  (Φ : Int32 → Prop) (back : Int32 → Int32 → Prop) (l1 : Int32) (l2 : Int32) : Prop := (Pgi ≤ l2 → Φ l1 ) ∧ (¬ Pgi ≤ l2 → wp_X2_widthW Pleast Pgreat l2 (fun r_3 => back (l1 * r_3) (l2 + 1)))
def lf_X2_inputCountW_4 (Pgi : Int32) (Pleast : Nat → Int32) (Pgreat : Nat → Int32)  (Φ : Int32 → Prop) : Nat → Int32 → Int32 → Prop
  | 0, _, _ => False
  | n_ + 1, l1, l2 => lb_X2_inputCountW_4 Pgi Pleast Pgreat  Φ (lf_X2_inputCountW_4 Pgi Pleast Pgreat  Φ n_) l1 l2
theorem li_X2_inputCountW_4 (Pgi : Int32) (Pleast : Nat → Int32) (Pgreat : Nat → Int32)  (Φ : Int32 → Prop) (Inv : Int32 → Int32 → Prop) (mu : Int32 → Int32 → Nat) (hs : ∀ (back : Int32 → Int32 → Prop) (l1 : Int32) (l2 : Int32), Inv l1 l2 → (∀ (l1' : Int32) (l2' : Int32), Inv l1' l2' → mu l1' l2' < mu l1 l2 → back l1' l2') → lb_X2_inputCountW_4 Pgi Pleast Pgreat  Φ back l1 l2) : ∀ (n_ : Nat) (l1 : Int32) (l2 : Int32), Inv l1 l2 → mu l1 l2 < n_ → lf_X2_inputCountW_4 Pgi Pleast Pgreat  Φ n_ l1 l2 := by
  intro n_
  induction n_ with
  | zero => intro l1 l2 _ h; exact absurd h (Nat.not_lt_zero _)
  | succ n_ ih => intro l1 l2 hI hm; exact hs _ l1 l2 hI (fun l1' l2' h1 h2 => ih l1' l2' h1 (by omega))
set_option maxHeartbeats 4000000 in
set_option maxRecDepth 100000 in
theorem lp_X2_inputCountW_4 {p : Program} {l : Launch} {e : Env} {R : Room} {s : State} {m : MethodId} {args : Array Value} {below : List Frame} {meth : Method} {c : Code} {cells slots : Nat} {Q : State → Prop} {A : Nat → Prop} {D : va_G} {ak : Nat → ClassId} {ad : Nat → Nat} (hx : p.tables.exec = Jvm.exec) (hb : c.code = cX2_inputCount) (hown : s.vm.findClass RX2 = some m.cls) (hts : ∀ w ∈ wsX2_inputCount, w.before args s = true) (hml : c.maxLocals = 3) (hE : EV D ak s) (hT : ST D ak ad A s s.heap) (hA : ∀ q, s.heap.size ≤ q → A q) (hRf : 2 ≤ R.frames) (hRl : 34 ≤ R.locals) (hRc : cells ≤ R.cells ∧ slots ≤ R.slots) (pg : Nat) (pa : Nat → Nat) (Pst : Int32) (Pce : Int32) (Pgi : Int32) (Pln : Int32) (Pleast : Nat → Int32) (Pgreat : Nat → Int32)  (Φ : Int32 → Prop)
    (kR27 : ∀ (r : Int32)  (H : Heap) (locs : List Loc) (ls : Array Slot), Φ r  → va_P D vwCl (wW_X2_inputCountW ak ad pg pa Pst Pce Pgi Pln Pleast Pgreat) H → va_D A (wW_X2_inputCountW ak ad pg pa Pst Pce Pgi Pln Pleast Pgreat) → va_S A s.heap H locs → W p l e R s m args below meth c H locs cells slots Q (F0 m 27 ls [.int r]))
    : ∀ (n_ : Nat) (l1 : Int32) (l2 : Int32) (H : Heap) (locs : List Loc) (ls : Array Slot), lf_X2_inputCountW_4 Pgi Pleast Pgreat  Φ n_ l1 l2 → va_P D vwCl (wW_X2_inputCountW ak ad pg pa Pst Pce Pgi Pln Pleast Pgreat) H → va_D A (wW_X2_inputCountW ak ad pg pa Pst Pce Pgi Pln Pleast Pgreat) → va_S A s.heap H locs → lv_has ls 3 [(0, .ref pg), (1, .int (l1)), (2, .int (l2))] → W p l e R s m args below meth c H locs cells slots Q (F0 m 4 ls ([])) := by
  intro n_
  induction n_ with
  | zero =>
    intro l1 l2 H locs ls hw
    exact hw.elim
  | succ n_ ih =>
    intro l1 l2 H locs ls hw hP hD hS hl
    have hw : lb_X2_inputCountW_4 Pgi Pleast Pgreat  Φ (lf_X2_inputCountW_4 Pgi Pleast Pgreat  Φ n_) l1 l2 := hw
    delta lb_X2_inputCountW_4 at hw
    refine lv_iload_n hx hb dX2_inputCount_4 rfl (lv_at hl 2 rfl) ?_
    refine lv_aload_n hx hb dX2_inputCount_5 rfl (lv_at hl 0 rfl) ?_
    refine vt_get (D := D) (ci := 2) (v := .int (Pgi)) (C := RX2) (T := TX2) (N := 17) hx hb hts (fun w h => wm_c (wc_X2 w h)) hown hE.1 hP 0 rfl rfl 5 (by decide) tX2_5 (hts (.fieldLink RX2 51 "WornLines$Programme" "given" "I") (wm_c hw_314)) (fun _ h9 => h9) rfl dX2_inputCount_6 ?_
    refine lv_icmp_ge (tgt := 26) hx hb dX2_inputCount_9 (by decide) (fun c_1 => ?_) (fun c_1 => ?_)
    · replace hw := hw.1 c_1
      refine lv_iload_n hx hb dX2_inputCount_26 rfl (lv_at hl 1 rfl) ?_
      exact kR27 l1  _ _ _ hw hP hD hS
    · replace hw := hw.2 c_1
      refine lv_iload_n hx hb dX2_inputCount_12 rfl (lv_at hl 1 rfl) ?_
      refine lv_aload_n hx hb dX2_inputCount_13 rfl (lv_at hl 0 rfl) ?_
      refine lv_iload_n hx hb dX2_inputCount_14 rfl (lv_at hl 2 rfl) ?_
      refine kc_i (wc := (wW_X2_widthW ak ad pg pa Pst Pce Pgi Pln Pleast Pgreat)) (wr := []) hP hD hS hA [0, 1, 2] [] rfl rfl (by decide) (by decide) (va_runV (As := [.int (l2)]) (rest := [.int (l1)]) ⟨hx, hb, hml, hown, hts⟩ (c_X2_widthW l D ak ad _ pg pa Pst Pce Pgi Pln Pleast Pgreat l2 _ hw) (cwV 1 hts gX2_inputCount_X2_width rfl rfl rfl hv_X2_width ⟨(Nat.le_trans (Nat.le_of_ble_eq_true rfl) hRf), (Nat.le_trans (Nat.le_of_ble_eq_true rfl) hRl)⟩) (kc_preV (As := [.int (l2)]) (wc := (wW_X2_widthW ak ad pg pa Pst Pce Pgi Pln Pleast Pgreat)) hE hT hP hD hS hA [0, 1, 2] (by decide) rfl rfl 0 2 rfl rfl rfl) rfl rfl hl.1 rfl (lv_room (Nat.le_of_ble_eq_true rfl)) dX2_inputCount_15 ⟨hRc.1, hRc.2⟩) (fun r_3 u_2 H locs hw hP hD hS => ?_)
      try dsimp -zeta only at hw
      have hP : va_P D vwCl (wW_X2_inputCountW ak ad pg pa Pst Pce Pgi Pln Pleast Pgreat) H := hP.sub [0, 1, 2] rfl
      have hD : va_D A (wW_X2_inputCountW ak ad pg pa Pst Pce Pgi Pln Pleast Pgreat) := hD.sub [0, 1, 2] (by decide) rfl
      refine lv_imul hx hb dX2_inputCount_18 ?_
      refine lv_istore_n (lv' := [(1, .int (l1 * r_3)), (0, .ref pg), (2, .int (l2))]) hx hb dX2_inputCount_19 rfl hl (by decide) rfl (fun ls hl => ?_)
      refine lv_iinc (v := (l2 + 1)) (lv' := [(2, .int (l2 + 1)), (1, .int (l1 * r_3)), (0, .ref pg)]) hx hb dX2_inputCount_20 hl (k := 2) rfl (rfl) (by decide) rfl (fun ls hl => ?_)
      refine lv_goto (tgt := 4) hx hb dX2_inputCount_23 (by decide) ?_
      exact ih (l1 * r_3) (l2 + 1) _ _ _ hw hP hD hS (lv_sub hl [2, 1, 0] rfl)

def wp_X2_inputCountW (Pgi : Int32) (Pleast : Nat → Int32) (Pgreat : Nat → Int32)  (Φ : Int32 → Prop) : Prop := (∃ n_, lf_X2_inputCountW_4 Pgi Pleast Pgreat  Φ n_ 1 0)
set_option maxHeartbeats 4000000 in
set_option maxRecDepth 100000 in
theorem kj_X2_inputCountW_e {p : Program} {l : Launch} {e : Env} {R : Room} {s : State} {m : MethodId} {args : Array Value} {below : List Frame} {meth : Method} {c : Code} {cells slots : Nat} {Q : State → Prop} {A : Nat → Prop} {D : va_G} {ak : Nat → ClassId} {ad : Nat → Nat} (hx : p.tables.exec = Jvm.exec) (hb : c.code = cX2_inputCount) (hown : s.vm.findClass RX2 = some m.cls) (hts : ∀ w ∈ wsX2_inputCount, w.before args s = true) (hml : c.maxLocals = 3) (hE : EV D ak s) (hT : ST D ak ad A s s.heap) (hA : ∀ q, s.heap.size ≤ q → A q) (hRf : 2 ≤ R.frames) (hRl : 34 ≤ R.locals) (hRc : cells ≤ R.cells ∧ slots ≤ R.slots) (pg : Nat) (pa : Nat → Nat) (Pst : Int32) (Pce : Int32) (Pgi : Int32) (Pln : Int32) (Pleast : Nat → Int32) (Pgreat : Nat → Int32)  (Φ : Int32 → Prop)
    (kR27 : ∀ (r : Int32)  (H : Heap) (locs : List Loc) (ls : Array Slot), Φ r  → va_P D vwCl (wW_X2_inputCountW ak ad pg pa Pst Pce Pgi Pln Pleast Pgreat) H → va_D A (wW_X2_inputCountW ak ad pg pa Pst Pce Pgi Pln Pleast Pgreat) → va_S A s.heap H locs → W p l e R s m args below meth c H locs cells slots Q (F0 m 27 ls [.int r]))
    : ∀  (H : Heap) (locs : List Loc) (ls : Array Slot), wp_X2_inputCountW Pgi Pleast Pgreat  Φ → va_P D vwCl (wW_X2_inputCountW ak ad pg pa Pst Pce Pgi Pln Pleast Pgreat) H → va_D A (wW_X2_inputCountW ak ad pg pa Pst Pce Pgi Pln Pleast Pgreat) → va_S A s.heap H locs → lv_has ls 3 [(0, .ref pg)] → W p l e R s m args below meth c H locs cells slots Q (F0 m 0 ls ([])) := by
  intro  H locs ls hw hP hD hS hl
  delta wp_X2_inputCountW at hw
  refine lv_iconst (v := 1) hx hb dX2_inputCount_0 (by decide) ?_
  refine lv_istore_n (lv' := [(1, .int (1)), (0, .ref pg)]) hx hb dX2_inputCount_1 rfl hl (by decide) rfl (fun ls hl => ?_)
  refine lv_iconst (v := 0) hx hb dX2_inputCount_2 (by decide) ?_
  refine lv_istore_n (lv' := [(2, .int (0)), (1, .int (1)), (0, .ref pg)]) hx hb dX2_inputCount_3 rfl hl (by decide) rfl (fun ls hl => ?_)
  obtain ⟨n1_, hw⟩ := hw
  exact lp_X2_inputCountW_4 hx hb hown hts hml hE hT hA hRf hRl hRc pg pa Pst Pce Pgi Pln Pleast Pgreat  Φ  kR27 n1_ 1 0 _ _ _ hw hP hD hS (lv_sub hl [2, 1, 0] rfl)
set_option maxHeartbeats 4000000 in
set_option maxRecDepth 100000 in
theorem c_X2_inputCountW (l : Launch) (D : va_G) (ak : Nat → ClassId) (ad : Nat → Nat) (sz : Nat) (pg : Nat) (pa : Nat → Nat) (Pst : Int32) (Pce : Int32) (Pgi : Int32) (Pln : Int32) (Pleast : Nat → Int32) (Pgreat : Nat → Int32) (Φ : Int32 → Prop) (hf : wp_X2_inputCountW Pgi Pleast Pgreat Φ) : Met l yX2_inputCount wsX2_inputCount ({ frames := 2, cells := 0, slots := 0, locals := 34 }) (cPre D ak ad [.ref pg] ((wW_X2_inputCountW ak ad pg pa Pst Pce Pgi Pln Pleast Pgreat)) sz) (cI D (S := Unit) (fun (r : Int32) (u : Unit) => Φ r ) (fun u => (wW_X2_inputCountW ak ad pg pa Pst Pce Pgi Pln Pleast Pgreat)) ((wW_X2_inputCountW ak ad pg pa Pst Pce Pgi Pln Pleast Pgreat)) sz) 0 0 (va_A ((wW_X2_inputCountW ak ad pg pa Pst Pce Pgi Pln Pleast Pgreat)) sz) := by
  refine Met.ofW (cc := cX2_inputCount) (maxL := 3) (ret := (some .int)) (by decide) rfl ?_
  intro p e s m args below meth c s₁ B hml hv
  obtain ⟨rfl, hsz, hP, hE, hD0, hT⟩ := hv
  have hx := B.exec
  have hb := B.bytes
  have hr := B.returns
  have hts := atoms_spec (ws := wsX2_inputCount) B.pre
  have hown : s.vm.findClass RX2 = some m.cls := findClass_of_methodNamed B.named
  have hlocks := B.notSynchronized
  subst hsz
  have hD := hD0.self (sz := s.heap.size)
  generalize hAe : va_A ((wW_X2_inputCountW ak ad pg pa Pst Pce Pgi Pln Pleast Pgreat)) s.heap.size = A at hD hT ⊢
  have hA : ∀ q : Nat, s.heap.size ≤ q → A q := fun q h => by rw [← hAe]; exact Or.inr h
  have hS : va_S A s.heap s.heap [] := va_S.rf
  have hl := lv_entry ([.ref pg]) (n := 3) (Nat.le_of_ble_eq_true rfl)
  rw [lg_entry_eq]
  generalize (lg_sl ([.ref pg]) ++ List.replicate (3 - (lg_sl ([.ref pg])).length) Slot.unset).toArray = ls at hl ⊢
  have hl : lv_has ls 3 [(0, .ref pg)] := hl
  exact kj_X2_inputCountW_e hx hb hown hts hml hE hT hA (Nat.le_of_ble_eq_true rfl) (Nat.le_of_ble_eq_true rfl) ⟨Nat.le_of_ble_eq_true rfl, Nat.le_of_ble_eq_true rfl⟩ pg pa Pst Pce Pgi Pln Pleast Pgreat Φ (fun r  H locs ls hw hP hD hS => W.iret (v := r) hx hb hr (fun t ht hW => ⟨⟨r, (), rfl, hw, by rw [ht]; exact hP, by rw [hAe]; exact hD⟩, by rw [hAe]; exact hS.F ht⟩) hS.2.2 dX2_inputCount_27)  _ _ _ hf hP hD hS hl
end
