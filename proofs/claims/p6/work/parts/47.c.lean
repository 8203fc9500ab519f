theorem dX5_spelled_11 : decode cX5_spelled 11 = .ok (.iload 5, 2) := by decide +kernel
theorem dX5_spelled_13 : decode cX5_spelled 13 = .ok (.iload 4, 2) := by decide +kernel
theorem dX5_spelled_15 : decode cX5_spelled 15 = .ok (.if_icmp .ge 28, 3) := by decide +kernel
theorem dX5_spelled_43 : decode cX5_spelled 43 = .ok (.aload_n 2, 1) := by decide +kernel
theorem dX5_spelled_18 : decode cX5_spelled 18 = .ok (.aload_n 3, 1) := by decide +kernel
theorem dX5_spelled_19 : decode cX5_spelled 19 = .ok (.iload 5, 2) := by decide +kernel
theorem dX5_spelled_21 : decode cX5_spelled 21 = .ok (.aaload, 1) := by decide +kernel
theorem dX5_spelled_22 : decode cX5_spelled 22 = .ok (.astore 6, 2) := by decide +kernel
theorem dX5_spelled_24 : decode cX5_spelled 24 = .ok (.aload 6, 2) := by decide +kernel
theorem dX5_spelled_26 : decode cX5_spelled 26 = .ok (.getfield 81, 3) := by decide +kernel
theorem dX5_spelled_29 : decode cX5_spelled 29 = .ok (.lload_n 0, 1) := by decide +kernel
theorem dX5_spelled_30 : decode cX5_spelled 30 = .ok (.lcmp, 1) := by decide +kernel
theorem dX5_spelled_31 : decode cX5_spelled 31 = .ok (.ifCond .ne 6, 3) := by decide +kernel
theorem dX5_spelled_37 : decode cX5_spelled 37 = .ok (.iinc 5 1, 3) := by decide +kernel
theorem dX5_spelled_40 : decode cX5_spelled 40 = .ok (.goto (-29), 3) := by decide +kernel
theorem dX5_spelled_34 : decode cX5_spelled 34 = .ok (.aload 6, 2) := by decide +kernel
theorem dX5_spelled_0 : decode cX5_spelled 0 = .ok (.getstatic 78, 3) := by decide +kernel
theorem dX5_spelled_3 : decode cX5_spelled 3 = .ok (.astore_n 3, 1) := by decide +kernel
theorem dX5_spelled_4 : decode cX5_spelled 4 = .ok (.aload_n 3, 1) := by decide +kernel
theorem dX5_spelled_5 : decode cX5_spelled 5 = .ok (.arraylength, 1) := by decide +kernel
theorem dX5_spelled_6 : decode cX5_spelled 6 = .ok (.istore 4, 2) := by decide +kernel
theorem dX5_spelled_8 : decode cX5_spelled 8 = .ok (.iconst 0, 1) := by decide +kernel
theorem dX5_spelled_9 : decode cX5_spelled 9 = .ok (.istore 5, 2) := by decide +kernel
theorem dX5_spelled_36 : decode cX5_spelled 36 = .ok (.areturn, 1) := by decide +kernel
theorem dX5_spelled_44 : decode cX5_spelled 44 = .ok (.areturn, 1) := by decide +kernel
theorem dX5_addWord_5 : decode cX5_addWord 5 = .ok (.iload 5, 2) := by decide +kernel
theorem dX5_addWord_7 : decode cX5_addWord 7 = .ok (.iload_n 2, 1) := by decide +kernel
theorem dX5_addWord_8 : decode cX5_addWord 8 = .ok (.if_icmp .ge 23, 3) := by decide +kernel
theorem dX5_addWord_31 : decode cX5_addWord 31 = .ok (.aload_n 0, 1) := by decide +kernel
theorem dX5_addWord_32 : decode cX5_addWord 32 = .ok (.iload_n 2, 1) := by decide +kernel
theorem dX5_addWord_33 : decode cX5_addWord 33 = .ok (.iload_n 1, 1) := by decide +kernel
theorem dX5_addWord_34 : decode cX5_addWord 34 = .ok (.isub, 1) := by decide +kernel
theorem dX5_addWord_35 : decode cX5_addWord 35 = .ok (.bipush 8, 2) := by decide +kernel
theorem dX5_addWord_37 : decode cX5_addWord 37 = .ok (.if_icmp .le 9, 3) := by decide +kernel
theorem dX5_addWord_46 : decode cX5_addWord 46 = .ok (.lload_n 3, 1) := by decide +kernel
theorem dX5_addWord_47 : decode cX5_addWord 47 = .ok (.getstatic 70, 3) := by decide +kernel
set_option maxRecDepth 20000 in
theorem ggX5_addWord_X5_spelled : GoodIn wsX5_addWord wsX5_spelled := gup gc_X5_spelled
set_option maxRecDepth 20000 in
theorem gX5_addWord_X5_spelled : GoodIn wsX5_addWord (va_wsS RX5 66 yX5_spelled wsX5_spelled) := gup (glS hw_399 hw_400 hw_401 gc_X5_spelled)
theorem dX5_addWord_50 : decode cX5_addWord 50 = .ok (.invokestatic 66, 3) := by decide +kernel
theorem dX5_addWord_53 : decode cX5_addWord 53 = .ok (.iload_n 1, 1) := by decide +kernel
theorem dX5_addWord_54 : decode cX5_addWord 54 = .ok (.lload_n 3, 1) := by decide +kernel
set_option maxRecDepth 20000 in
theorem ggX5_addWord_X5_add : GoodIn wsX5_addWord wsX5_add := gup gc_X5_add
set_option maxRecDepth 20000 in
theorem gX5_addWord_X5_add : GoodIn wsX5_addWord (wsV RX5 48 RX5 yX5_add wsX5_add) := gup (glV hw_402 hw_403 hw_404 hw_401 gc_X5_add)
theorem dX5_addWord_55 : decode cX5_addWord 55 = .ok (.invokevirtual 48, 3) := by decide +kernel
theorem dX5_addWord_40 : decode cX5_addWord 40 = .ok (.getstatic 63, 3) := by decide +kernel
theorem dX5_addWord_43 : decode cX5_addWord 43 = .ok (.goto 10, 3) := by decide +kernel
theorem dX5_addWord_11 : decode cX5_addWord 11 = .ok (.lload_n 3, 1) := by decide +kernel
theorem dX5_addWord_12 : decode cX5_addWord 12 = .ok (.bipush 8, 2) := by decide +kernel
theorem dX5_addWord_14 : decode cX5_addWord 14 = .ok (.lshl, 1) := by decide +kernel
theorem dX5_addWord_15 : decode cX5_addWord 15 = .ok (.aload_n 0, 1) := by decide +kernel
theorem dX5_addWord_16 : decode cX5_addWord 16 = .ok (.getfield 9, 3) := by decide +kernel
theorem dX5_addWord_19 : decode cX5_addWord 19 = .ok (.iload 5, 2) := by decide +kernel
theorem dX5_addWord_21 : decode cX5_addWord 21 = .ok (.caload, 1) := by decide +kernel
theorem dX5_addWord_22 : decode cX5_addWord 22 = .ok (.i2l, 1) := by decide +kernel
theorem dX5_addWord_23 : decode cX5_addWord 23 = .ok (.lor, 1) := by decide +kernel
theorem dX5_addWord_24 : decode cX5_addWord 24 = .ok (.lstore_n 3, 1) := by decide +kernel
theorem dX5_addWord_25 : decode cX5_addWord 25 = .ok (.iinc 5 1, 3) := by decide +kernel
theorem dX5_addWord_28 : decode cX5_addWord 28 = .ok (.goto (-23), 3) := by decide +kernel
theorem dX5_addWord_0 : decode cX5_addWord 0 = .ok (.lconst 0, 1) := by decide +kernel
theorem dX5_addWord_1 : decode cX5_addWord 1 = .ok (.lstore_n 3, 1) := by decide +kernel
theorem dX5_addWord_2 : decode cX5_addWord 2 = .ok (.iload_n 1, 1) := by decide +kernel
theorem dX5_addWord_3 : decode cX5_addWord 3 = .ok (.istore 5, 2) := by decide +kernel
theorem dX5_addWord_58 : decode cX5_addWord 58 = .ok (.return_, 1) := by decide +kernel
theorem dX5_addNumber_5 : decode cX5_addNumber 5 = .ok (.iload 5, 2) := by decide +kernel
theorem dX5_addNumber_7 : decode cX5_addNumber 7 = .ok (.iload_n 2, 1) := by decide +kernel
theorem dX5_addNumber_8 : decode cX5_addNumber 8 = .ok (.if_icmp .ge 27, 3) := by decide +kernel
theorem dX5_addNumber_35 : decode cX5_addNumber 35 = .ok (.aload_n 0, 1) := by decide +kernel
theorem dX5_addNumber_36 : decode cX5_addNumber 36 = .ok (.iload_n 2, 1) := by decide +kernel
theorem dX5_addNumber_37 : decode cX5_addNumber 37 = .ok (.iload_n 1, 1) := by decide +kernel
theorem dX5_addNumber_38 : decode cX5_addNumber 38 = .ok (.isub, 1) := by decide +kernel
theorem dX5_addNumber_39 : decode cX5_addNumber 39 = .ok (.iconst 4, 1) := by decide +kernel
theorem dX5_addNumber_40 : decode cX5_addNumber 40 = .ok (.if_icmp .le 9, 3) := by decide +kernel
theorem dX5_addNumber_49 : decode cX5_addNumber 49 = .ok (.getstatic 75, 3) := by decide +kernel
theorem dX5_addNumber_52 : decode cX5_addNumber 52 = .ok (.iload_n 1, 1) := by decide +kernel
theorem dX5_addNumber_53 : decode cX5_addNumber 53 = .ok (.lload_n 3, 1) := by decide +kernel
set_option maxRecDepth 20000 in
theorem ggX5_addNumber_X5_add : GoodIn wsX5_addNumber wsX5_add := gup gc_X5_add
set_option maxRecDepth 20000 in
theorem gX5_addNumber_X5_add : GoodIn wsX5_addNumber (wsV RX5 48 RX5 yX5_add wsX5_add) := gup (glV hw_402 hw_403 hw_404 hw_401 gc_X5_add)
theorem dX5_addNumber_54 : decode cX5_addNumber 54 = .ok (.invokevirtual 48, 3) := by decide +kernel
theorem dX5_addNumber_43 : decode cX5_addNumber 43 = .ok (.getstatic 63, 3) := by decide +kernel
theorem dX5_addNumber_46 : decode cX5_addNumber 46 = .ok (.goto 6, 3) := by decide +kernel
theorem dX5_addNumber_11 : decode cX5_addNumber 11 = .ok (.lload_n 3, 1) := by decide +kernel
theorem dX5_addNumber_12 : decode cX5_addNumber 12 = .ok (.ldc2_w 73, 3) := by decide +kernel
theorem dX5_addNumber_15 : decode cX5_addNumber 15 = .ok (.lmul, 1) := by decide +kernel
theorem dX5_addNumber_16 : decode cX5_addNumber 16 = .ok (.aload_n 0, 1) := by decide +kernel
theorem dX5_addNumber_17 : decode cX5_addNumber 17 = .ok (.getfield 9, 3) := by decide +kernel
theorem dX5_addNumber_20 : decode cX5_addNumber 20 = .ok (.iload 5, 2) := by decide +kernel
theorem dX5_addNumber_22 : decode cX5_addNumber 22 = .ok (.caload, 1) := by decide +kernel
theorem dX5_addNumber_23 : decode cX5_addNumber 23 = .ok (.bipush 48, 2) := by decide +kernel
theorem dX5_addNumber_25 : decode cX5_addNumber 25 = .ok (.isub, 1) := by decide +kernel
theorem dX5_addNumber_26 : decode cX5_addNumber 26 = .ok (.i2l, 1) := by decide +kernel
theorem dX5_addNumber_27 : decode cX5_addNumber 27 = .ok (.ladd, 1) := by decide +kernel
theorem dX5_addNumber_28 : decode cX5_addNumber 28 = .ok (.lstore_n 3, 1) := by decide +kernel
theorem dX5_addNumber_29 : decode cX5_addNumber 29 = .ok (.iinc 5 1, 3) := by decide +kernel
theorem dX5_addNumber_32 : decode cX5_addNumber 32 = .ok (.goto (-27), 3) := by decide +kernel
theorem dX5_addNumber_0 : decode cX5_addNumber 0 = .ok (.lconst 0, 1) := by decide +kernel
theorem dX5_addNumber_1 : decode cX5_addNumber 1 = .ok (.lstore_n 3, 1) := by decide +kernel
theorem dX5_addNumber_2 : decode cX5_addNumber 2 = .ok (.iload_n 1, 1) := by decide +kernel
theorem dX5_addNumber_3 : decode cX5_addNumber 3 = .ok (.istore 5, 2) := by decide +kernel
theorem dX5_addNumber_57 : decode cX5_addNumber 57 = .ok (.return_, 1) := by decide +kernel
def lb_X5_spelled_11 (xb : Int64) (xt : Nat)  (Φ : Nat → Prop) (back : Int32 → Int32 → Prop) (l4 : Int32) (l5 : Int32) : Prop := (l4 ≤ l5 → Φ xt ) ∧ (¬ l4 ≤ l5 → vp_in l5 31 ∧ ((l5).toNatClampNeg) < 31 ∧ (¬ (lg_cmp (tkS ((l5).toNatClampNeg)) xb) = 0 → back l4 (l5 + 1)) ∧ ((lg_cmp (tkS ((l5).toNatClampNeg)) xb) = 0 → Φ ((l5).toNatClampNeg) ))
def lf_X5_spelled_11 (xb : Int64) (xt : Nat)  (Φ : Nat → Prop) : Nat → Int32 → Int32 → Prop
  | 0, _, _ => False
  | n_ + 1, l4, l5 => lb_X5_spelled_11 xb xt  Φ (lf_X5_spelled_11 xb xt  Φ n_) l4 l5
theorem li_X5_spelled_11 (xb : Int64) (xt : Nat)  (Φ : Nat → Prop) (Inv : Int32 → Int32 → Prop) (mu : Int32 → Int32 → Nat) (hs : ∀ (back : Int32 → Int32 → Prop) (l4 : Int32) (l5 : Int32), Inv l4 l5 → (∀ (l4' : Int32) (l5' : Int32), Inv l4' l5' → mu l4' l5' < mu l4 l5 → back l4' l5') → lb_X5_spelled_11 xb xt  Φ back l4 l5) : ∀ (n_ : Nat) (l4 : Int32) (l5 : Int32), Inv l4 l5 → mu l4 l5 < n_ → lf_X5_spelled_11 xb xt  Φ n_ l4 l5 := by
  intro n_
  induction n_ with
  | zero => intro l4 l5 _ h; exact absurd h (Nat.not_lt_zero _)
  | succ n_ ih => intro l4 l5 hI hm; exact hs _ l4 l5 hI (fun l4' l5' h1 h2 => ih l4' l5' h1 (by omega))
set_option maxHeartbeats 4000000 in
set_option maxRecDepth 100000 in
theorem lp_X5_spelled_11 {p : Program} {l : Launch} {e : Env} {R : Room} {s : State} {m : MethodId} {args : Array Value} {below : List Frame} {meth : Method} {c : Code} {cells slots : Nat} {Q : State → Prop} {A : Nat → Prop} {D : va_G} {ak : Nat → ClassId} {ad : Nat → Nat} (hx : p.tables.exec = Jvm.exec) (hb : c.code = cX5_spelled) (hown : s.vm.findClass RX5 = some m.cls) (hts : ∀ w ∈ wsX5_spelled, w.before args s = true) (hml : c.maxLocals = 7) (hE : EV D ak s) (hT : ST D ak ad A s s.heap) (hA : ∀ q, s.heap.size ≤ q → A q) (xb : Int64) (xt : Nat)  (Φ : Nat → Prop)
    (kR36 : ∀ (r : Nat)  (H : Heap) (locs : List Loc) (ls : Array Slot), Φ r  → va_P D vwCl [] H → va_D A [] → va_S A s.heap H locs → W p l e R s m args below meth c H locs cells slots Q (F0 m 36 ls [.ref (ad r)]))
    (kR44 : ∀ (r : Nat)  (H : Heap) (locs : List Loc) (ls : Array Slot), Φ r  → va_P D vwCl [] H → va_D A [] → va_S A s.heap H locs → W p l e R s m args below meth c H locs cells slots Q (F0 m 44 ls [.ref (ad r)]))
    : ∀ (n_ : Nat) (l4 : Int32) (l5 : Int32) (H : Heap) (locs : List Loc) (ls : Array Slot), lf_X5_spelled_11 xb xt  Φ n_ l4 l5 → va_P D vwCl [] H → va_D A [] → va_S A s.heap H locs → lv_has ls 7 [(0, .long (xb)), (2, .ref (ad xt)), (3, .ref (ad 31)), (4, .int (l4)), (5, .int (l5))] → W p l e R s m args below meth c H locs cells slots Q (F0 m 11 ls ([])) := by
  intro n_
  induction n_ with
  | zero =>
    intro l4 l5 H locs ls hw
    exact hw.elim
  | succ n_ ih =>
    intro l4 l5 H locs ls hw hP hD hS hl
    have hw : lb_X5_spelled_11 xb xt  Φ (lf_X5_spelled_11 xb xt  Φ n_) l4 l5 := hw
    delta lb_X5_spelled_11 at hw
    refine lv_iload hx hb dX5_spelled_11 (lv_at hl 4 rfl) ?_
    refine lv_iload hx hb dX5_spelled_13 (lv_at hl 3 rfl) ?_
    refine lv_icmp_ge (tgt := 43) hx hb dX5_spelled_15 (by decide) (fun c_1 => ?_) (fun c_1 => ?_)
    · replace hw := hw.1 c_1
      refine lv_aload_n hx hb dX5_spelled_43 rfl (lv_at hl 1 rfl) ?_
      exact kR44 xt  _ _ _ hw hP hD hS
    · replace hw := hw.2 c_1
      refine lv_aload_n hx hb dX5_spelled_18 rfl (lv_at hl 2 rfl) ?_
      refine lv_iload hx hb dX5_spelled_19 (lv_at hl 4 rfl) ?_
      obtain ⟨h_2, hw⟩ := hw
      refine vb_tq hx hb hT.2.2.2 hS (h_2) rfl dX5_spelled_21 ?_
      refine W.eq (g2 := F0 m 22 ls (.ref (ad ((l5).toNatClampNeg)) :: [])) rfl ?_
      refine lv_astore (lv' := [(6, .ref (ad ((l5).toNatClampNeg))), (0, .long (xb)), (2, .ref (ad xt)), (3, .ref (ad 31)), (4, .int (l4)), (5, .int (l5))]) hx hb dX5_spelled_22 hl (by decide) rfl (fun ls hl => ?_)
      refine lv_aload hx hb dX5_spelled_24 (lv_at hl 0 rfl) ?_
      obtain ⟨h_3, hw⟩ := hw
      refine vk_getf hx hb (hT.1 ((l5).toNatClampNeg) h_3).2.2.1 hS hown (hts (.fieldLink RX5 81 "WornLines$Token" "spelling" "J") (wm_c hw_394)) (fun _ h9 => h9) dX5_spelled_26 ?_
      refine lv_lload_n hx hb dX5_spelled_29 rfl (lv_at hl 1 rfl) ?_
      refine W.lcmp hx hb dX5_spelled_30 ?_
      refine lv_if_ne (tgt := 37) hx hb dX5_spelled_31 (by decide) (fun c_4 => ?_) (fun c_4 => ?_)
      · replace hw := hw.1 c_4
        refine lv_iinc (v := (l5 + 1)) (lv' := [(5, .int (l5 + 1)), (6, .ref (ad ((l5).toNatClampNeg))), (0, .long (xb)), (2, .ref (ad xt)), (3, .ref (ad 31)), (4, .int (l4))]) hx hb dX5_spelled_37 hl (k := 5) rfl (rfl) (by decide) rfl (fun ls hl => ?_)
        refine lv_goto (tgt := 11) hx hb dX5_spelled_40 (by decide) ?_
        exact ih l4 (l5 + 1) _ _ _ hw hP hD hS (lv_sub hl [2, 3, 4, 5, 0] rfl)
      · replace hw := hw.2 c_4
        refine lv_aload hx hb dX5_spelled_34 (lv_at hl 0 rfl) ?_
        exact kR36 ((l5).toNatClampNeg)  _ _ _ hw hP hD hS

def wp_X5_spelled (xb : Int64) (xt : Nat)  (Φ : Nat → Prop) : Prop := (∃ n_, lf_X5_spelled_11 xb xt  Φ n_ 31 0)
set_option maxHeartbeats 4000000 in
set_option maxRecDepth 100000 in
theorem kj_X5_spelled_e {p : Program} {l : Launch} {e : Env} {R : Room} {s : State} {m : MethodId} {args : Array Value} {below : List Frame} {meth : Method} {c : Code} {cells slots : Nat} {Q : State → Prop} {A : Nat → Prop} {D : va_G} {ak : Nat → ClassId} {ad : Nat → Nat} (hx : p.tables.exec = Jvm.exec) (hb : c.code = cX5_spelled) (hown : s.vm.findClass RX5 = some m.cls) (hts : ∀ w ∈ wsX5_spelled, w.before args s = true) (hml : c.maxLocals = 7) (hE : EV D ak s) (hT : ST D ak ad A s s.heap) (hA : ∀ q, s.heap.size ≤ q → A q) (xb : Int64) (xt : Nat)  (Φ : Nat → Prop)
    (kR36 : ∀ (r : Nat)  (H : Heap) (locs : List Loc) (ls : Array Slot), Φ r  → va_P D vwCl [] H → va_D A [] → va_S A s.heap H locs → W p l e R s m args below meth c H locs cells slots Q (F0 m 36 ls [.ref (ad r)]))
    (kR44 : ∀ (r : Nat)  (H : Heap) (locs : List Loc) (ls : Array Slot), Φ r  → va_P D vwCl [] H → va_D A [] → va_S A s.heap H locs → W p l e R s m args below meth c H locs cells slots Q (F0 m 44 ls [.ref (ad r)]))
    : ∀  (H : Heap) (locs : List Loc) (ls : Array Slot), wp_X5_spelled xb xt  Φ → va_P D vwCl [] H → va_D A [] → va_S A s.heap H locs → lv_has ls 7 [(0, .long (xb)), (2, .ref (ad xt))] → W p l e R s m args below meth c H locs cells slots Q (F0 m 0 ls ([])) := by
  intro  H locs ls hw hP hD hS hl
  delta wp_X5_spelled at hw
  refine va_getsN hx hb hT.2.2.1 hS hown (va_Nw.use rfl hE.2.2.2.2.1) (fun _ h9 => h9) dX5_spelled_0 ?_
  refine lv_astore_n (lv' := [(3, .ref (ad 31)), (0, .long (xb)), (2, .ref (ad xt))]) hx hb dX5_spelled_3 rfl hl (by decide) rfl (fun ls hl => ?_)
  refine lv_aload_n hx hb dX5_spelled_4 rfl (lv_at hl 0 rfl) ?_
  refine va_tlen hx hb hT.2.2.2 hS (v := 31) rfl dX5_spelled_5 ?_
  refine lv_istore (lv' := [(4, .int (31)), (3, .ref (ad 31)), (0, .long (xb)), (2, .ref (ad xt))]) hx hb dX5_spelled_6 hl (by decide) rfl (fun ls hl => ?_)
  refine lv_iconst (v := 0) hx hb dX5_spelled_8 (by decide) ?_
  refine lv_istore (lv' := [(5, .int (0)), (4, .int (31)), (3, .ref (ad 31)), (0, .long (xb)), (2, .ref (ad xt))]) hx hb dX5_spelled_9 hl (by decide) rfl (fun ls hl => ?_)
  obtain ⟨n1_, hw⟩ := hw
  exact lp_X5_spelled_11 hx hb hown hts hml hE hT hA xb xt  Φ  kR36 kR44 n1_ 31 0 _ _ _ hw hP hD hS (lv_sub hl [3, 4, 2, 1, 0] rfl)
set_option maxHeartbeats 4000000 in
set_option maxRecDepth 100000 in
theorem c_X5_spelled (l : Launch) (D : va_G) (ak : Nat → ClassId) (ad : Nat → Nat) (sz : Nat) (xb : Int64) (xt : Nat) (Φ : Nat → Prop) (hf : wp_X5_spelled xb xt Φ) : Met l yX5_spelled wsX5_spelled ({ frames := 0, cells := 0, slots := 0, locals := 0 }) (cPre D ak ad [.long (xb), .ref (ad xt)] ([]) sz) (cT D ad (S := Unit) (fun (r : Nat) (u : Unit) => Φ r ) (fun u => []) ([]) sz) 0 0 (va_A ([]) sz) := by
  refine Met.ofW (cc := cX5_spelled) (maxL := 7) (ret := (some (.object "WornLines$Token"))) (by decide) rfl ?_
  intro p e s m args below meth c s₁ B hml hv
  obtain ⟨rfl, hsz, hP, hE, hD0, hT⟩ := hv
  have hx := B.exec
  have hb := B.bytes
  have hr := B.returns
  have hts := atoms_spec (ws := wsX5_spelled) B.pre
  have hown : s.vm.findClass RX5 = some m.cls := findClass_of_methodNamed B.named
  have hlocks := B.notSynchronized
  subst hsz
  have hD := hD0.self (sz := s.heap.size)
  generalize hAe : va_A ([]) s.heap.size = A at hD hT ⊢
  have hA : ∀ q : Nat, s.heap.size ≤ q → A q := fun q h => by rw [← hAe]; exact Or.inr h
  have hS : va_S A s.heap s.heap [] := va_S.rf
  have hl := lv_entry ([.long (xb), .ref (ad xt)]) (n := 7) (Nat.le_of_ble_eq_true rfl)
  rw [lg_entry_eq]
  generalize (lg_sl ([.long (xb), .ref (ad xt)]) ++ List.replicate (7 - (lg_sl ([.long (xb), .ref (ad xt)])).length) Slot.unset).toArray = ls at hl ⊢
  have hl : lv_has ls 7 [(0, .long (xb)), (2, .ref (ad xt))] := hl
  exact kj_X5_spelled_e hx hb hown hts hml hE hT hA xb xt Φ (fun r  H locs ls hw hP hD hS => W.aret (v := .ref (ad r)) hx hb hr (Or.inl ⟨_, rfl⟩) (Or.inr ⟨_, rfl⟩) (fun t ht hW => ⟨⟨some r, (), rfl, ⟨r, rfl, hw⟩, by rw [ht]; exact hP, by rw [hAe]; exact hD⟩, by rw [hAe]; exact hS.F ht⟩) hS.2.2 dX5_spelled_36) (fun r  H locs ls hw hP hD hS => W.aret (v := .ref (ad r)) hx hb hr (Or.inl ⟨_, rfl⟩) (Or.inr ⟨_, rfl⟩) (fun t ht hW => ⟨⟨some r, (), rfl, ⟨r, rfl, hw⟩, by rw [ht]; exact hP, by rw [hAe]; exact hD⟩, by rw [hAe]; exact hS.F ht⟩) hS.2.2 dX5_spelled_44)  _ _ _ hf hP hD hS hl

def wW_X5_addWord (ak : Nat → ClassId) (ad : Nat → Nat) (ht : Nat) (ta : Nat → Nat) (Tlen : Int32) (Tcnt : Int32) (Tsigns : Nat → Int32) (Ttoks : Nat → Nat) (Tplc : Nat → Int32) (Tvals : Nat → Int64) : va_W := [(ht, .inr (5, tob ta (Tlen) (Tcnt))), ((ta 0), .inl (ak 2, 1000, .inl (Tsigns))), ((ta 1), .inl (ak 4, 1001, .inr (.inr (.inr (.inr (tokA ad (Ttoks))))))), ((ta 2), .inl (ak 0, 1001, .inl (Tplc))), ((ta 3), .inl (ak 1, 1001, .inr (.inl (Tvals))))]
def lb_X5_addWord_5 (Tsigns : Nat → Int32) (xa : Int32) (xe : Int32)  (Φ : Int32 → (Nat → Nat) → (Nat → Int32) → (Nat → Int64) → Prop) (back : Int32 → (Nat → Nat) → (Nat → Int32) → (Nat → Int64) → Int64 → Int32 → Prop) (Tcnt : Int32) (Ttoks : Nat → Nat) (Tplc : Nat → Int32) (Tvals : Nat → Int64) (l3 : Int64) (l5 : Int32) : Prop := (xe ≤ l5 → ((xe - xa) ≤ 8 → wp_X5_spelled l3 3 (fun r_4 => wp_X5_add r_4 xa l3 Tcnt Ttoks Tplc Tvals (fun Tcnt_6 Ttoks_7 Tplc_8 Tvals_9 => Φ Tcnt_6 Ttoks_7 Tplc_8 Tvals_9))) ∧ (¬ (xe - xa) ≤ 8 → wp_X5_add 1 xa l3 Tcnt Ttoks Tplc Tvals (fun Tcnt_12 Ttoks_13 Tplc_14 Tvals_15 => Φ Tcnt_12 Ttoks_13 Tplc_14 Tvals_15))) ∧ (¬ xe ≤ l5 → vp_in l5 1000 ∧ back Tcnt Ttoks Tplc Tvals ((l3 <<< ((8 : Int32).toInt64 &&& 63)) ||| ((Tsigns (l5).toNatClampNeg).toInt64)) (l5 + 1))
def lf_X5_addWord_5 (Tsigns : Nat → Int32) (xa : Int32) (xe : Int32)  (Φ : Int32 → (Nat → Nat) → (Nat → Int32) → (Nat → Int64) → Prop) : Nat → Int32 → (Nat → Nat) → (Nat → Int32) → (Nat → Int64) → Int64 → Int32 → Prop
  | 0, _, _, _, _, _, _ => False
  | n_ + 1, Tcnt, Ttoks, Tplc, Tvals, l3, l5 => lb_X5_addWord_5 Tsigns xa xe  Φ (lf_X5_addWord_5 Tsigns xa xe  Φ n_) Tcnt Ttoks Tplc Tvals l3 l5
theorem li_X5_addWord_5 (Tsigns : Nat → Int32) (xa : Int32) (xe : Int32)  (Φ : Int32 → (Nat → Nat) → (Nat → Int32) → (Nat → Int64) → Prop) (Inv : Int32 → (Nat → Nat) → (Nat → Int32) → (Nat → Int64) → Int64 → Int32 → Prop) (mu : Int32 → (Nat → Nat) → (Nat → Int32) → (Nat → Int64) → Int64 → Int32 → Nat) (hs : ∀ (back : Int32 → (Nat → Nat) → (Nat → Int32) → (Nat → Int64) → Int64 → Int32 → Prop) (Tcnt : Int32) (Ttoks : Nat → Nat) (Tplc : Nat → Int32) (Tvals : Nat → Int64) (l3 : Int64) (l5 : Int32), Inv Tcnt Ttoks Tplc Tvals l3 l5 → (∀ (Tcnt' : Int32) (Ttoks' : Nat → Nat) (Tplc' : Nat → Int32) (Tvals' : Nat → Int64) (l3' : Int64) (l5' : Int32), Inv Tcnt' Ttoks' Tplc' Tvals' l3' l5' → mu Tcnt' Ttoks' Tplc' Tvals' l3' l5' < mu Tcnt Ttoks Tplc Tvals l3 l5 → back Tcnt' Ttoks' Tplc' Tvals' l3' l5') → lb_X5_addWord_5 Tsigns xa xe  Φ back Tcnt Ttoks Tplc Tvals l3 l5) : ∀ (n_ : Nat) (Tcnt : Int32) (Ttoks : Nat → Nat) (Tplc : Nat → Int32) (Tvals : Nat → Int64) (l3 : Int64) (l5 : Int32), Inv Tcnt Ttoks Tplc Tvals l3 l5 → mu Tcnt Ttoks Tplc Tvals l3 l5 < n_ → lf_X5_addWord_5 Tsigns xa xe  Φ n_ Tcnt Ttoks Tplc Tvals l3 l5 := by
  intro n_
  induction n_ with
  | zero => intro Tcnt Ttoks Tplc Tvals l3 l5 _ h; exact absurd h (Nat.not_lt_zero _)
  | succ n_ ih => intro Tcnt Ttoks Tplc Tvals l3 l5 hI hm; exact hs _ Tcnt Ttoks Tplc Tvals l3 l5 hI (fun Tcnt' Ttoks' Tplc' Tvals' l3' l5' h1 h2 => ih Tcnt' Ttoks' Tplc' Tvals' l3' l5' h1 (by omega))
set_option maxHeartbeats 4000000 in
set_option maxRecDepth 100000 in
theorem lp_X5_addWord_5 {p : Program} {l : Launch} {e : Env} {R : Room} {s : State} {m : MethodId} {args : Array Value} {below : List Frame} {meth : Method} {c : Code} {cells slots : Nat} {Q : State → Prop} {A : Nat → Prop} {D : va_G} {ak : Nat → ClassId} {ad : Nat → Nat} (hx : p.tables.exec = Jvm.exec) (hb : c.code = cX5_addWord) (hown : s.vm.findClass RX5 = some m.cls) (hts : ∀ w ∈ wsX5_addWord, w.before args s = true) (hml : c.maxLocals = 6) (hE : EV D ak s) (hT : ST D ak ad A s s.heap) (hA : ∀ q, s.heap.size ≤ q → A q) (hRf : 1 ≤ R.frames) (hRl : 26 ≤ R.locals) (hRc : cells ≤ R.cells ∧ slots ≤ R.slots) (ht : Nat) (ta : Nat → Nat) (Tlen : Int32) (Tsigns : Nat → Int32) (xa : Int32) (xe : Int32)  (Φ : Int32 → (Nat → Nat) → (Nat → Int32) → (Nat → Int64) → Prop)
    (kR58 : ∀ (Tcnt : Int32) (Ttoks : Nat → Nat) (Tplc : Nat → Int32) (Tvals : Nat → Int64) (H : Heap) (locs : List Loc) (ls : Array Slot), Φ Tcnt Ttoks Tplc Tvals → va_P D vwCl (wW_X5_addWord ak ad ht ta Tlen Tcnt Tsigns Ttoks Tplc Tvals) H → va_D A (wW_X5_addWord ak ad ht ta Tlen Tcnt Tsigns Ttoks Tplc Tvals) → va_S A s.heap H locs → W p l e R s m args below meth c H locs cells slots Q (F0 m 58 ls []))
    : ∀ (n_ : Nat) (Tcnt : Int32) (Ttoks : Nat → Nat) (Tplc : Nat → Int32) (Tvals : Nat → Int64) (l3 : Int64) (l5 : Int32) (H : Heap) (locs : List Loc) (ls : Array Slot), lf_X5_addWord_5 Tsigns xa xe  Φ n_ Tcnt Ttoks Tplc Tvals l3 l5 → va_P D vwCl (wW_X5_addWord ak ad ht ta Tlen Tcnt Tsigns Ttoks Tplc Tvals) H → va_D A (wW_X5_addWord ak ad ht ta Tlen Tcnt Tsigns Ttoks Tplc Tvals) → va_S A s.heap H locs → lv_has ls 6 [(0, .ref ht), (1, .int (xa)), (2, .int (xe)), (3, .long (l3)), (5, .int (l5))] → W p l e R s m args below meth c H locs cells slots Q (F0 m 5 ls ([])) := by
  intro n_
  induction n_ with
  | zero =>
    intro Tcnt Ttoks Tplc Tvals l3 l5 H locs ls hw
    exact hw.elim
  | succ n_ ih =>
    intro Tcnt Ttoks Tplc Tvals l3 l5 H locs ls hw hP hD hS hl
    have hw : lb_X5_addWord_5 Tsigns xa xe  Φ (lf_X5_addWord_5 Tsigns xa xe  Φ n_) Tcnt Ttoks Tplc Tvals l3 l5 := hw
    delta lb_X5_addWord_5 at hw
    refine lv_iload hx hb dX5_addWord_5 (lv_at hl 4 rfl) ?_
    refine lv_iload_n hx hb dX5_addWord_7 rfl (lv_at hl 2 rfl) ?_
    refine lv_icmp_ge (tgt := 31) hx hb dX5_addWord_8 (by decide) (fun c_1 => ?_) (fun c_1 => ?_)
    · replace hw := hw.1 c_1
      refine lv_aload_n hx hb dX5_addWord_31 rfl (lv_at hl 0 rfl) ?_
      refine lv_iload_n hx hb dX5_addWord_32 rfl (lv_at hl 2 rfl) ?_
      refine lv_iload_n hx hb dX5_addWord_33 rfl (lv_at hl 1 rfl) ?_
      refine lv_isub hx hb dX5_addWord_34 ?_
      refine lv_bipush (v := 8) hx hb dX5_addWord_35 (by decide) ?_
      refine lv_icmp_le (tgt := 46) hx hb dX5_addWord_37 (by decide) (fun c_2 => ?_) (fun c_2 => ?_)
      · replace hw := hw.1 c_2
        refine lv_lload_n hx hb dX5_addWord_46 rfl (lv_at hl 3 rfl) ?_
        refine va_gets hx hb (hT.1 3 (by decide)).1 hS hown (hts (.fieldLink RX5 70 "WornLines$Token" "A_NAME" "LWornLines$Token;") (wm_c hw_395)) (fun _ h9 => h9) dX5_addWord_47 ?_
        refine kc_t (wc := []) (wr := [(ht, .inr (5, tob ta (Tlen) (Tcnt))), ((ta 0), .inl (ak 2, 1000, .inl (Tsigns))), ((ta 1), .inl (ak 4, 1001, .inr (.inr (.inr (.inr (tokA ad (Ttoks))))))), ((ta 2), .inl (ak 0, 1001, .inl (Tplc))), ((ta 3), .inl (ak 1, 1001, .inr (.inl (Tvals))))]) hP hD hS hA [] [0, 1, 2, 3, 4] rfl rfl (by decide) (by decide) (va_runS (As := [.long (l3), .ref (ad 3)]) (rest := [.ref ht]) ⟨hx, hb, hml, hown, hts⟩ (c_X5_spelled l D ak ad _ l3 3 _ hw) (va_cwS 2 hts gX5_addWord_X5_spelled rfl rfl rfl (by decide +kernel) ⟨(Nat.le_trans (Nat.le_of_ble_eq_true rfl) hRf), (Nat.le_trans (Nat.le_of_ble_eq_true rfl) hRl)⟩) (kc_pre (As := [.long (l3), .ref (ad 3)]) (wc := []) hE hT hP hD hS hA [] (by decide) rfl rfl) rfl rfl hl.1 rfl (lv_room (Nat.le_of_ble_eq_true rfl)) dX5_addWord_50 ⟨hRc.1, hRc.2⟩) (fun r_4 u_3 H locs hw hP hD hS => ?_)
        try dsimp -zeta only at hw
        have hP : va_P D vwCl (wW_X5_addWord ak ad ht ta Tlen Tcnt Tsigns Ttoks Tplc Tvals) H := hP.sub [0, 1, 2, 3, 4] rfl
        have hD : va_D A (wW_X5_addWord ak ad ht ta Tlen Tcnt Tsigns Ttoks Tplc Tvals) := hD.sub [0, 1, 2, 3, 4] (by decide) rfl
        refine lv_iload_n hx hb dX5_addWord_53 rfl (lv_at hl 1 rfl) ?_
        refine lv_lload_n hx hb dX5_addWord_54 rfl (lv_at hl 3 rfl) ?_
        refine kc_v (wc := (wW_X5_add ak ad ht ta Tlen Tcnt Ttoks Tplc Tvals)) (wr := [((ta 0), .inl (ak 2, 1000, .inl (Tsigns)))]) hP hD hS hA [0, 2, 3, 4] [1] rfl rfl (by decide) (by decide) (va_runV (As := [.ref (ad r_4), .int (xa), .long (l3)]) (rest := []) ⟨hx, hb, hml, hown, hts⟩ (c_X5_add l D ak ad _ ht ta Tlen Tcnt Ttoks Tplc Tvals r_4 xa l3 _ hw) (cwV 3 hts gX5_addWord_X5_add rfl rfl rfl (by decide +kernel) ⟨(Nat.le_trans (Nat.le_of_ble_eq_true rfl) hRf), (Nat.le_trans (Nat.le_of_ble_eq_true rfl) hRl)⟩) (kc_preV (As := [.ref (ad r_4), .int (xa), .long (l3)]) (wc := (wW_X5_add ak ad ht ta Tlen Tcnt Ttoks Tplc Tvals)) hE hT hP hD hS hA [0, 2, 3, 4] (by decide) rfl rfl 0 5 rfl rfl rfl) rfl rfl hl.1 rfl (lv_room (Nat.le_of_ble_eq_true rfl)) dX5_addWord_55 ⟨hRc.1, hRc.2⟩) (fun u_5 H locs hw hP hD hS => ?_)
        obtain ⟨Tcnt_6, Ttoks_7, Tplc_8, Tvals_9⟩ := u_5
        try dsimp -zeta only at hw
        have hP : va_P D vwCl (wW_X5_addWord ak ad ht ta Tlen Tcnt_6 Tsigns Ttoks_7 Tplc_8 Tvals_9) H := hP.sub [1, 0, 2, 3, 4] rfl
        have hD : va_D A (wW_X5_addWord ak ad ht ta Tlen Tcnt_6 Tsigns Ttoks_7 Tplc_8 Tvals_9) := hD.sub [1, 0, 2, 3, 4] (by decide) rfl
        exact kR58 Tcnt_6 Ttoks_7 Tplc_8 Tvals_9 _ _ _ hw hP hD hS
      · replace hw := hw.2 c_2
        refine va_gets hx hb (hT.1 1 (by decide)).1 hS hown (hts (.fieldLink RX5 63 "WornLines$Token" "NO_TOKEN" "LWornLines$Token;") (wm_c hw_396)) (fun _ h9 => h9) dX5_addWord_40 ?_
        refine lv_goto (tgt := 53) hx hb dX5_addWord_43 (by decide) ?_
        refine lv_iload_n hx hb dX5_addWord_53 rfl (lv_at hl 1 rfl) ?_
        refine lv_lload_n hx hb dX5_addWord_54 rfl (lv_at hl 3 rfl) ?_
        refine kc_v (wc := (wW_X5_add ak ad ht ta Tlen Tcnt Ttoks Tplc Tvals)) (wr := [((ta 0), .inl (ak 2, 1000, .inl (Tsigns)))]) hP hD hS hA [0, 2, 3, 4] [1] rfl rfl (by decide) (by decide) (va_runV (As := [.ref (ad 1), .int (xa), .long (l3)]) (rest := []) ⟨hx, hb, hml, hown, hts⟩ (c_X5_add l D ak ad _ ht ta Tlen Tcnt Ttoks Tplc Tvals 1 xa l3 _ hw) (cwV 3 hts gX5_addWord_X5_add rfl rfl rfl (by decide +kernel) ⟨(Nat.le_trans (Nat.le_of_ble_eq_true rfl) hRf), (Nat.le_trans (Nat.le_of_ble_eq_true rfl) hRl)⟩) (kc_preV (As := [.ref (ad 1), .int (xa), .long (l3)]) (wc := (wW_X5_add ak ad ht ta Tlen Tcnt Ttoks Tplc Tvals)) hE hT hP hD hS hA [0, 2, 3, 4] (by decide) rfl rfl 0 5 rfl rfl rfl) rfl rfl hl.1 rfl (lv_room (Nat.le_of_ble_eq_true rfl)) dX5_addWord_55 ⟨hRc.1, hRc.2⟩) (fun u_11 H locs hw hP hD hS => ?_)
        obtain ⟨Tcnt_12, Ttoks_13, Tplc_14, Tvals_15⟩ := u_11
        try dsimp -zeta only at hw
        have hP : va_P D vwCl (wW_X5_addWord ak ad ht ta Tlen Tcnt_12 Tsigns Ttoks_13 Tplc_14 Tvals_15) H := hP.sub [1, 0, 2, 3, 4] rfl
        have hD : va_D A (wW_X5_addWord ak ad ht ta Tlen Tcnt_12 Tsigns Ttoks_13 Tplc_14 Tvals_15) := hD.sub [1, 0, 2, 3, 4] (by decide) rfl
        exact kR58 Tcnt_12 Ttoks_13 Tplc_14 Tvals_15 _ _ _ hw hP hD hS
    · replace hw := hw.2 c_1
      refine lv_lload_n hx hb dX5_addWord_11 rfl (lv_at hl 3 rfl) ?_
      refine lv_bipush (v := 8) hx hb dX5_addWord_12 (by decide) ?_
      refine lv_lshl (v := l3 <<< ((8 : Int32).toInt64 &&& 63)) hx hb dX5_addWord_14 rfl ?_
      refine lv_aload_n hx hb dX5_addWord_15 rfl (lv_at hl 0 rfl) ?_
      refine va_get (D := D) (ci := 5) (v := .ref (ta 0)) (C := RX5) (T := TX5) (N := 6) hx hb hts (fun w h => wm_c (wc_X5 w h)) hown hE.1 hP 0 rfl rfl 0 (by decide) (hts (.fieldLink RX5 9 "WornLines$Tape" "signs" "[C") (wm_c hw_264)) (fun _ h9 => h9) rfl dX5_addWord_16 ?_
      refine lv_iload hx hb dX5_addWord_19 (lv_at hl 4 rfl) ?_
      obtain ⟨h_17, hw⟩ := hw
      refine va_cald hx hb hE.1 hP 1 2 rfl rfl (h_17) dX5_addWord_21 ?_
      refine lv_i2l (v := (Tsigns (l5).toNatClampNeg).toInt64) hx hb dX5_addWord_22 rfl ?_
      refine lv_lor hx hb dX5_addWord_23 ?_
      refine lv_lstore_n (lv' := [(3, .long ((l3 <<< ((8 : Int32).toInt64 &&& 63)) ||| ((Tsigns (l5).toNatClampNeg).toInt64))), (0, .ref ht), (1, .int (xa)), (2, .int (xe)), (5, .int (l5))]) hx hb dX5_addWord_24 rfl hl (by decide) rfl (fun ls hl => ?_)
      refine lv_iinc (v := (l5 + 1)) (lv' := [(5, .int (l5 + 1)), (3, .long ((l3 <<< ((8 : Int32).toInt64 &&& 63)) ||| ((Tsigns (l5).toNatClampNeg).toInt64))), (0, .ref ht), (1, .int (xa)), (2, .int (xe))]) hx hb dX5_addWord_25 hl (k := 4) rfl (rfl) (by decide) rfl (fun ls hl => ?_)
      refine lv_goto (tgt := 5) hx hb dX5_addWord_28 (by decide) ?_
      exact ih Tcnt Ttoks Tplc Tvals ((l3 <<< ((8 : Int32).toInt64 &&& 63)) ||| ((Tsigns (l5).toNatClampNeg).toInt64)) (l5 + 1) _ _ _ hw hP hD hS (lv_sub hl [2, 3, 4, 1, 0] rfl)

def wp_X5_addWord (Tsigns : Nat → Int32) (xa : Int32) (xe : Int32) (Tcnt : Int32) (Ttoks : Nat → Nat) (Tplc : Nat → Int32) (Tvals : Nat → Int64) (Φ : Int32 → (Nat → Nat) → (Nat → Int32) → (Nat → Int64) → Prop) : Prop := (∃ n_, lf_X5_addWord_5 Tsigns xa xe  Φ n_ Tcnt Ttoks Tplc Tvals 0 xa)
set_option maxHeartbeats 4000000 in
set_option maxRecDepth 100000 in
theorem kj_X5_addWord_e {p : Program} {l : Launch} {e : Env} {R : Room} {s : State} {m : MethodId} {args : Array Value} {below : List Frame} {meth : Method} {c : Code} {cells slots : Nat} {Q : State → Prop} {A : Nat → Prop} {D : va_G} {ak : Nat → ClassId} {ad : Nat → Nat} (hx : p.tables.exec = Jvm.exec) (hb : c.code = cX5_addWord) (hown : s.vm.findClass RX5 = some m.cls) (hts : ∀ w ∈ wsX5_addWord, w.before args s = true) (hml : c.maxLocals = 6) (hE : EV D ak s) (hT : ST D ak ad A s s.heap) (hA : ∀ q, s.heap.size ≤ q → A q) (hRf : 1 ≤ R.frames) (hRl : 26 ≤ R.locals) (hRc : cells ≤ R.cells ∧ slots ≤ R.slots) (ht : Nat) (ta : Nat → Nat) (Tlen : Int32) (Tsigns : Nat → Int32) (xa : Int32) (xe : Int32)  (Φ : Int32 → (Nat → Nat) → (Nat → Int32) → (Nat → Int64) → Prop)
    (kR58 : ∀ (Tcnt : Int32) (Ttoks : Nat → Nat) (Tplc : Nat → Int32) (Tvals : Nat → Int64) (H : Heap) (locs : List Loc) (ls : Array Slot), Φ Tcnt Ttoks Tplc Tvals → va_P D vwCl (wW_X5_addWord ak ad ht ta Tlen Tcnt Tsigns Ttoks Tplc Tvals) H → va_D A (wW_X5_addWord ak ad ht ta Tlen Tcnt Tsigns Ttoks Tplc Tvals) → va_S A s.heap H locs → W p l e R s m args below meth c H locs cells slots Q (F0 m 58 ls []))
    : ∀ (Tcnt : Int32) (Ttoks : Nat → Nat) (Tplc : Nat → Int32) (Tvals : Nat → Int64) (H : Heap) (locs : List Loc) (ls : Array Slot), wp_X5_addWord Tsigns xa xe Tcnt Ttoks Tplc Tvals Φ → va_P D vwCl (wW_X5_addWord ak ad ht ta Tlen Tcnt Tsigns Ttoks Tplc Tvals) H → va_D A (wW_X5_addWord ak ad ht ta Tlen Tcnt Tsigns Ttoks Tplc Tvals) → va_S A s.heap H locs → lv_has ls 6 [(0, .ref ht), (1, .int (xa)), (2, .int (xe))] → W p l e R s m args below meth c H locs cells slots Q (F0 m 0 ls ([])) := by
  intro Tcnt Ttoks Tplc Tvals H locs ls hw hP hD hS hl
  delta wp_X5_addWord at hw
  refine lv_lconst (v := 0) hx hb dX5_addWord_0 rfl ?_
  refine lv_lstore_n (lv' := [(3, .long (0)), (0, .ref ht), (1, .int (xa)), (2, .int (xe))]) hx hb dX5_addWord_1 rfl hl (by decide) rfl (fun ls hl => ?_)
  refine lv_iload_n hx hb dX5_addWord_2 rfl (lv_at hl 2 rfl) ?_
  refine lv_istore (lv' := [(5, .int (xa)), (3, .long (0)), (0, .ref ht), (1, .int (xa)), (2, .int (xe))]) hx hb dX5_addWord_3 hl (by decide) rfl (fun ls hl => ?_)
  obtain ⟨n1_, hw⟩ := hw
  exact lp_X5_addWord_5 hx hb hown hts hml hE hT hA hRf hRl hRc ht ta Tlen Tsigns xa xe  Φ  kR58 n1_ Tcnt Ttoks Tplc Tvals 0 xa _ _ _ hw hP hD hS (lv_sub hl [2, 3, 4, 1, 0] rfl)
set_option maxHeartbeats 4000000 in
set_option maxRecDepth 100000 in
theorem c_X5_addWord (l : Launch) (D : va_G) (ak : Nat → ClassId) (ad : Nat → Nat) (sz : Nat) (ht : Nat) (ta : Nat → Nat) (Tlen : Int32) (Tcnt : Int32) (Tsigns : Nat → Int32) (Ttoks : Nat → Nat) (Tplc : Nat → Int32) (Tvals : Nat → Int64) (xa : Int32) (xe : Int32) (Φ : Int32 → (Nat → Nat) → (Nat → Int32) → (Nat → Int64) → Prop) (hf : wp_X5_addWord Tsigns xa xe Tcnt Ttoks Tplc Tvals Φ) : Met l yX5_addWord wsX5_addWord ({ frames := 1, cells := 0, slots := 0, locals := 26 }) (cPre D ak ad [.ref ht, .int (xa), .int (xe)] ((wW_X5_addWord ak ad ht ta Tlen Tcnt Tsigns Ttoks Tplc Tvals)) sz) (cV D (S := (Int32) × (Nat → Nat) × (Nat → Int32) × (Nat → Int64)) (fun (u : (Int32) × (Nat → Nat) × (Nat → Int32) × (Nat → Int64)) => Φ u.1 u.2.1 u.2.2.1 u.2.2.2) (fun u => (wW_X5_addWord ak ad ht ta Tlen u.1 Tsigns u.2.1 u.2.2.1 u.2.2.2)) ((wW_X5_addWord ak ad ht ta Tlen Tcnt Tsigns Ttoks Tplc Tvals)) sz) 0 0 (va_A ((wW_X5_addWord ak ad ht ta Tlen Tcnt Tsigns Ttoks Tplc Tvals)) sz) := by
  refine Met.ofW (cc := cX5_addWord) (maxL := 6) (ret := none) (by decide) rfl ?_
  intro p e s m args below meth c s₁ B hml hv
  obtain ⟨rfl, hsz, hP, hE, hD0, hT⟩ := hv
  have hx := B.exec
  have hb := B.bytes
  have hr := B.returns
  have hts := atoms_spec (ws := wsX5_addWord) B.pre
  have hown : s.vm.findClass RX5 = some m.cls := findClass_of_methodNamed B.named
  have hlocks := B.notSynchronized
  subst hsz
  have hD := hD0.self (sz := s.heap.size)
  generalize hAe : va_A ((wW_X5_addWord ak ad ht ta Tlen Tcnt Tsigns Ttoks Tplc Tvals)) s.heap.size = A at hD hT ⊢
  have hA : ∀ q : Nat, s.heap.size ≤ q → A q := fun q h => by rw [← hAe]; exact Or.inr h
  have hS : va_S A s.heap s.heap [] := va_S.rf
  have hl := lv_entry ([.ref ht, .int (xa), .int (xe)]) (n := 6) (Nat.le_of_ble_eq_true rfl)
  rw [lg_entry_eq]
  generalize (lg_sl ([.ref ht, .int (xa), .int (xe)]) ++ List.replicate (6 - (lg_sl ([.ref ht, .int (xa), .int (xe)])).length) Slot.unset).toArray = ls at hl ⊢
  have hl : lv_has ls 6 [(0, .ref ht), (1, .int (xa)), (2, .int (xe))] := hl
  exact kj_X5_addWord_e hx hb hown hts hml hE hT hA (Nat.le_of_ble_eq_true rfl) (Nat.le_of_ble_eq_true rfl) ⟨Nat.le_of_ble_eq_true rfl, Nat.le_of_ble_eq_true rfl⟩ ht ta Tlen Tsigns xa xe Φ (fun Tcnt Ttoks Tplc Tvals H locs ls hw hP hD hS => W.vret hx hb hr (fun t ht hW => ⟨⟨(Tcnt, Ttoks, Tplc, Tvals), rfl, hw, by rw [ht]; exact hP, by rw [hAe]; exact hD⟩, by rw [hAe]; exact hS.F ht⟩) hS.2.2 dX5_addWord_58) Tcnt Ttoks Tplc Tvals _ _ _ hf hP hD hS hl

def wW_X5_addNumber (ak : Nat → ClassId) (ad : Nat → Nat) (ht : Nat) (ta : Nat → Nat) (Tlen : Int32) (Tcnt : Int32) (Tsigns : Nat → Int32) (Ttoks : Nat → Nat) (Tplc : Nat → Int32) (Tvals : Nat → Int64) : va_W := [(ht, .inr (5, tob ta (Tlen) (Tcnt))), ((ta 0), .inl (ak 2, 1000, .inl (Tsigns))), ((ta 1), .inl (ak 4, 1001, .inr (.inr (.inr (.inr (tokA ad (Ttoks))))))), ((ta 2), .inl (ak 0, 1001, .inl (Tplc))), ((ta 3), .inl (ak 1, 1001, .inr (.inl (Tvals))))]
def lb_X5_addNumber_5 (Tsigns : Nat → Int32) (xa : Int32) (xe : Int32)  (Φ : Int32 → (Nat → Nat) → (Nat → Int32) → (Nat → Int64) → Prop) (back : Int32 → (Nat → Nat) → (Nat → Int32) → (Nat → Int64) → Int64 → Int32 → Prop) (Tcnt : Int32) (Ttoks : Nat → Nat) (Tplc : Nat → Int32) (Tvals : Nat → Int64) (l3 : Int64) (l5 : Int32) : Prop := (xe ≤ l5 → ((xe - xa) ≤ 4 → wp_X5_add 2 xa l3 Tcnt Ttoks Tplc Tvals (fun Tcnt_4 Ttoks_5 Tplc_6 Tvals_7 => Φ Tcnt_4 Ttoks_5 Tplc_6 Tvals_7)) ∧ (¬ (xe - xa) ≤ 4 → wp_X5_add 1 xa l3 Tcnt Ttoks Tplc Tvals (fun Tcnt_10 Ttoks_11 Tplc_12 Tvals_13 => Φ Tcnt_10 Ttoks_11 Tplc_12 Tvals_13))) ∧ (¬ xe ≤ l5 → vp_in l5 1000 ∧ back Tcnt Ttoks Tplc Tvals ((l3 * 10) + (((Tsigns (l5).toNatClampNeg) - 48).toInt64)) (l5 + 1))
def lf_X5_addNumber_5 (Tsigns : Nat → Int32) (xa : Int32) (xe : Int32)  (Φ : Int32 → (Nat → Nat) → (Nat → Int32) → (Nat → Int64) → Prop) : Nat → Int32 → (Nat → Nat) → (Nat → Int32) → (Nat → Int64) → Int64 → Int32 → Prop
  | 0, _, _, _, _, _, _ => False
  | n_ + 1, Tcnt, Ttoks, Tplc, Tvals, l3, l5 => lb_X5_addNumber_5 Tsigns xa xe  Φ (lf_X5_addNumber_5 Tsigns xa xe  Φ n_) Tcnt Ttoks Tplc Tvals l3 l5
theorem li_X5_addNumber_5 (Tsigns : Nat → Int32) (xa : Int32) (xe : Int32)  (Φ : Int32 → (Nat → Nat) → (Nat → Int32) → (Nat → Int64) → Prop) (Inv : Int32 → (Nat → Nat) → (Nat → Int32) → (Nat → Int64) → Int64 → Int32 → Prop) (mu : Int32 → (Nat → Nat) → (Nat → Int32) → (Nat → Int64) → Int64 → Int32 → Nat) (hs : ∀ (back : Int32 → (Nat → Nat) → (Nat → Int32) → (Nat → Int64) → Int64 → Int32 → Prop) (Tcnt : Int32) (Ttoks : Nat → Nat) (Tplc : Nat → Int32) (Tvals : Nat → Int64) (l3 : Int64) (l5 : Int32), Inv Tcnt Ttoks Tplc Tvals l3 l5 → (∀ (Tcnt' : Int32) (Ttoks' : Nat → Nat) (Tplc' : Nat → Int32) (Tvals' : Nat → Int64) (l3' : Int64) (l5' : Int32), Inv Tcnt' Ttoks' Tplc' Tvals' l3' l5' → mu Tcnt' Ttoks' Tplc' Tvals' l3' l5' < mu Tcnt Ttoks Tplc Tvals l3 l5 → back Tcnt' Ttoks' Tplc' Tvals' l3' l5') → lb_X5_addNumber_5 Tsigns xa xe  Φ back Tcnt Ttoks Tplc Tvals l3 l5) : ∀ (n_ : Nat) (Tcnt : Int32) (Ttoks : Nat → Nat) (Tplc : Nat → Int32) (Tvals : Nat → Int64) (l3 : Int64) (l5 : Int32), Inv Tcnt Ttoks Tplc Tvals l3 l5 → mu Tcnt Ttoks Tplc Tvals l3 l5 < n_ → lf_X5_addNumber_5 Tsigns xa xe  Φ n_ Tcnt Ttoks Tplc Tvals l3 l5 := by
  intro n_
  induction n_ with
  | zero => intro Tcnt Ttoks Tplc Tvals l3 l5 _ h; exact absurd h (Nat.not_lt_zero _)
  | succ n_ ih => intro Tcnt Ttoks Tplc Tvals l3 l5 hI hm; exact hs _ Tcnt Ttoks Tplc Tvals l3 l5 hI (fun Tcnt' Ttoks' Tplc' Tvals' l3' l5' h1 h2 => ih Tcnt' Ttoks' Tplc' Tvals' l3' l5' h1 (by omega))
set_option maxHeartbeats 4000000 in
set_option maxRecDepth 100000 in
theorem lp_X5_addNumber_5 {p : Program} {l : Launch} {e : Env} {R : Room} {s : State} {m : MethodId} {args : Array Value} {below : List Frame} {meth : Method} {c : Code} {cells slots : Nat} {Q : State → Prop} {A : Nat → Prop} {D : va_G} {ak : Nat → ClassId} {ad : Nat → Nat} (hx : p.tables.exec = Jvm.exec) (hb : c.code = cX5_addNumber) (hown : s.vm.findClass RX5 = some m.cls) (hts : ∀ w ∈ wsX5_addNumber, w.before args s = true) (hml : c.maxLocals = 6) (hE : EV D ak s) (hT : ST D ak ad A s s.heap) (hA : ∀ q, s.heap.size ≤ q → A q) (hRf : 1 ≤ R.frames) (hRl : 24 ≤ R.locals) (hRc : cells ≤ R.cells ∧ slots ≤ R.slots) (ht : Nat) (ta : Nat → Nat) (Tlen : Int32) (Tsigns : Nat → Int32) (xa : Int32) (xe : Int32)  (Φ : Int32 → (Nat → Nat) → (Nat → Int32) → (Nat → Int64) → Prop)
    (kR57 : ∀ (Tcnt : Int32) (Ttoks : Nat → Nat) (Tplc : Nat → Int32) (Tvals : Nat → Int64) (H : Heap) (locs : List Loc) (ls : Array Slot), Φ Tcnt Ttoks Tplc Tvals → va_P D vwCl (wW_X5_addNumber ak ad ht ta Tlen Tcnt Tsigns Ttoks Tplc Tvals) H → va_D A (wW_X5_addNumber ak ad ht ta Tlen Tcnt Tsigns Ttoks Tplc Tvals) → va_S A s.heap H locs → W p l e R s m args below meth c H locs cells slots Q (F0 m 57 ls []))
    : ∀ (n_ : Nat) (Tcnt : Int32) (Ttoks : Nat → Nat) (Tplc : Nat → Int32) (Tvals : Nat → Int64) (l3 : Int64) (l5 : Int32) (H : Heap) (locs : List Loc) (ls : Array Slot), lf_X5_addNumber_5 Tsigns xa xe  Φ n_ Tcnt Ttoks Tplc Tvals l3 l5 → va_P D vwCl (wW_X5_addNumber ak ad ht ta Tlen Tcnt Tsigns Ttoks Tplc Tvals) H → va_D A (wW_X5_addNumber ak ad ht ta Tlen Tcnt Tsigns Ttoks Tplc Tvals) → va_S A s.heap H locs → lv_has ls 6 [(0, .ref ht), (1, .int (xa)), (2, .int (xe)), (3, .long (l3)), (5, .int (l5))] → W p l e R s m args below meth c H locs cells slots Q (F0 m 5 ls ([])) := by
  intro n_
  induction n_ with
  | zero =>
    intro Tcnt Ttoks Tplc Tvals l3 l5 H locs ls hw
    exact hw.elim
  | succ n_ ih =>
    intro Tcnt Ttoks Tplc Tvals l3 l5 H locs ls hw hP hD hS hl
    have hw : lb_X5_addNumber_5 Tsigns xa xe  Φ (lf_X5_addNumber_5 Tsigns xa xe  Φ n_) Tcnt Ttoks Tplc Tvals l3 l5 := hw
    delta lb_X5_addNumber_5 at hw
    refine lv_iload hx hb dX5_addNumber_5 (lv_at hl 4 rfl) ?_
    refine lv_iload_n hx hb dX5_addNumber_7 rfl (lv_at hl 2 rfl) ?_
    refine lv_icmp_ge (tgt := 35) hx hb dX5_addNumber_8 (by decide) (fun c_1 => ?_) (fun c_1 => ?_)
    · replace hw := hw.1 c_1
      refine lv_aload_n hx hb dX5_addNumber_35 rfl (lv_at hl 0 rfl) ?_
      refine lv_iload_n hx hb dX5_addNumber_36 rfl (lv_at hl 2 rfl) ?_
      refine lv_iload_n hx hb dX5_addNumber_37 rfl (lv_at hl 1 rfl) ?_
      refine lv_isub hx hb dX5_addNumber_38 ?_
      refine lv_iconst (v := 4) hx hb dX5_addNumber_39 (by decide) ?_
      refine lv_icmp_le (tgt := 49) hx hb dX5_addNumber_40 (by decide) (fun c_2 => ?_) (fun c_2 => ?_)
      · replace hw := hw.1 c_2
        refine va_gets hx hb (hT.1 2 (by decide)).1 hS hown (hts (.fieldLink RX5 75 "WornLines$Token" "A_NUMBER" "LWornLines$Token;") (wm_c hw_397)) (fun _ h9 => h9) dX5_addNumber_49 ?_
        refine lv_iload_n hx hb dX5_addNumber_52 rfl (lv_at hl 1 rfl) ?_
        refine lv_lload_n hx hb dX5_addNumber_53 rfl (lv_at hl 3 rfl) ?_
        refine kc_v (wc := (wW_X5_add ak ad ht ta Tlen Tcnt Ttoks Tplc Tvals)) (wr := [((ta 0), .inl (ak 2, 1000, .inl (Tsigns)))]) hP hD hS hA [0, 2, 3, 4] [1] rfl rfl (by decide) (by decide) (va_runV (As := [.ref (ad 2), .int (xa), .long (l3)]) (rest := []) ⟨hx, hb, hml, hown, hts⟩ (c_X5_add l D ak ad _ ht ta Tlen Tcnt Ttoks Tplc Tvals 2 xa l3 _ hw) (cwV 3 hts gX5_addNumber_X5_add rfl rfl rfl (by decide +kernel) ⟨(Nat.le_trans (Nat.le_of_ble_eq_true rfl) hRf), (Nat.le_trans (Nat.le_of_ble_eq_true rfl) hRl)⟩) (kc_preV (As := [.ref (ad 2), .int (xa), .long (l3)]) (wc := (wW_X5_add ak ad ht ta Tlen Tcnt Ttoks Tplc Tvals)) hE hT hP hD hS hA [0, 2, 3, 4] (by decide) rfl rfl 0 5 rfl rfl rfl) rfl rfl hl.1 rfl (lv_room (Nat.le_of_ble_eq_true rfl)) dX5_addNumber_54 ⟨hRc.1, hRc.2⟩) (fun u_3 H locs hw hP hD hS => ?_)
        obtain ⟨Tcnt_4, Ttoks_5, Tplc_6, Tvals_7⟩ := u_3
        try dsimp -zeta only at hw
        have hP : va_P D vwCl (wW_X5_addNumber ak ad ht ta Tlen Tcnt_4 Tsigns Ttoks_5 Tplc_6 Tvals_7) H := hP.sub [1, 0, 2, 3, 4] rfl
        have hD : va_D A (wW_X5_addNumber ak ad ht ta Tlen Tcnt_4 Tsigns Ttoks_5 Tplc_6 Tvals_7) := hD.sub [1, 0, 2, 3, 4] (by decide) rfl
        exact kR57 Tcnt_4 Ttoks_5 Tplc_6 Tvals_7 _ _ _ hw hP hD hS
      · replace hw := hw.2 c_2
        refine va_gets hx hb (hT.1 1 (by decide)).1 hS hown (hts (.fieldLink RX5 63 "WornLines$Token" "NO_TOKEN" "LWornLines$Token;") (wm_c hw_396)) (fun _ h9 => h9) dX5_addNumber_43 ?_
        refine lv_goto (tgt := 52) hx hb dX5_addNumber_46 (by decide) ?_
        refine lv_iload_n hx hb dX5_addNumber_52 rfl (lv_at hl 1 rfl) ?_
        refine lv_lload_n hx hb dX5_addNumber_53 rfl (lv_at hl 3 rfl) ?_
        refine kc_v (wc := (wW_X5_add ak ad ht ta Tlen Tcnt Ttoks Tplc Tvals)) (wr := [((ta 0), .inl (ak 2, 1000, .inl (Tsigns)))]) hP hD hS hA [0, 2, 3, 4] [1] rfl rfl (by decide) (by decide) (va_runV (As := [.ref (ad 1), .int (xa), .long (l3)]) (rest := []) ⟨hx, hb, hml, hown, hts⟩ (c_X5_add l D ak ad _ ht ta Tlen Tcnt Ttoks Tplc Tvals 1 xa l3 _ hw) (cwV 3 hts gX5_addNumber_X5_add rfl rfl rfl (by decide +kernel) ⟨(Nat.le_trans (Nat.le_of_ble_eq_true rfl) hRf), (Nat.le_trans (Nat.le_of_ble_eq_true rfl) hRl)⟩) (kc_preV (As := [.ref (ad 1), .int (xa), .long (l3)]) (wc := (wW_X5_add ak ad ht ta Tlen Tcnt Ttoks Tplc Tvals)) hE hT hP hD hS hA [0, 2, 3, 4] (by decide) rfl rfl 0 5 rfl rfl rfl) rfl rfl hl.1 rfl (lv_room (Nat.le_of_ble_eq_true rfl)) dX5_addNumber_54 ⟨hRc.1, hRc.2⟩) (fun u_9 H locs hw hP hD hS => ?_)
        obtain ⟨Tcnt_10, Ttoks_11, Tplc_12, Tvals_13⟩ := u_9
        try dsimp -zeta only at hw
        have hP : va_P D vwCl (wW_X5_addNumber ak ad ht ta Tlen Tcnt_10 Tsigns Ttoks_11 Tplc_12 Tvals_13) H := hP.sub [1, 0, 2, 3, 4] rfl
        have hD : va_D A (wW_X5_addNumber ak ad ht ta Tlen Tcnt_10 Tsigns Ttoks_11 Tplc_12 Tvals_13) := hD.sub [1, 0, 2, 3, 4] (by decide) rfl
        exact kR57 Tcnt_10 Ttoks_11 Tplc_12 Tvals_13 _ _ _ hw hP hD hS
    · replace hw := hw.2 c_1
      refine lv_lload_n hx hb dX5_addNumber_11 rfl (lv_at hl 3 rfl) ?_
      refine lv_ldc2 hx hb hown (hts (.constantLong RX5 73 (10)) (wm_c hw_398)) dX5_addNumber_12 ?_
      refine lv_lmul hx hb dX5_addNumber_15 ?_
      refine lv_aload_n hx hb dX5_addNumber_16 rfl (lv_at hl 0 rfl) ?_
      refine va_get (D := D) (ci := 5) (v := .ref (ta 0)) (C := RX5) (T := TX5) (N := 6) hx hb hts (fun w h => wm_c (wc_X5 w h)) hown hE.1 hP 0 rfl rfl 0 (by decide) (hts (.fieldLink RX5 9 "WornLines$Tape" "signs" "[C") (wm_c hw_264)) (fun _ h9 => h9) rfl dX5_addNumber_17 ?_
      refine lv_iload hx hb dX5_addNumber_20 (lv_at hl 4 rfl) ?_
      obtain ⟨h_15, hw⟩ := hw
      refine va_cald hx hb hE.1 hP 1 2 rfl rfl (h_15) dX5_addNumber_22 ?_
      refine lv_bipush (v := 48) hx hb dX5_addNumber_23 (by decide) ?_
      refine lv_isub hx hb dX5_addNumber_25 ?_
      refine lv_i2l (v := ((Tsigns (l5).toNatClampNeg) - 48).toInt64) hx hb dX5_addNumber_26 rfl ?_
      refine lv_ladd hx hb dX5_addNumber_27 ?_
      refine lv_lstore_n (lv' := [(3, .long ((l3 * 10) + (((Tsigns (l5).toNatClampNeg) - 48).toInt64))), (0, .ref ht), (1, .int (xa)), (2, .int (xe)), (5, .int (l5))]) hx hb dX5_addNumber_28 rfl hl (by decide) rfl (fun ls hl => ?_)
      refine lv_iinc (v := (l5 + 1)) (lv' := [(5, .int (l5 + 1)), (3, .long ((l3 * 10) + (((Tsigns (l5).toNatClampNeg) - 48).toInt64))), (0, .ref ht), (1, .int (xa)), (2, .int (xe))]) hx hb dX5_addNumber_29 hl (k := 4) rfl (rfl) (by decide) rfl (fun ls hl => ?_)
      refine lv_goto (tgt := 5) hx hb dX5_addNumber_32 (by decide) ?_
      exact ih Tcnt Ttoks Tplc Tvals ((l3 * 10) + (((Tsigns (l5).toNatClampNeg) - 48).toInt64)) (l5 + 1) _ _ _ hw hP hD hS (lv_sub hl [2, 3, 4, 1, 0] rfl)

def wp_X5_addNumber (Tsigns : Nat → Int32) (xa : Int32) (xe : Int32) (Tcnt : Int32) (Ttoks : Nat → Nat) (Tplc : Nat → Int32) (Tvals : Nat → Int64) (Φ : Int32 → (Nat → Nat) → (Nat → Int32) → (Nat → Int64) → Prop) : Prop := (∃ n_, lf_X5_addNumber_5 Tsigns xa xe  Φ n_ Tcnt Ttoks Tplc Tvals 0 xa)
set_option maxHeartbeats 4000000 in
set_option maxRecDepth 100000 in
theorem kj_X5_addNumber_e {p : Program} {l : Launch} {e : Env} {R : Room} {s : State} {m : MethodId} {args : Array Value} {below : List Frame} {meth : Method} {c : Code} {cells slots : Nat} {Q : State → Prop} {A : Nat → Prop} {D : va_G} {ak : Nat → ClassId} {ad : Nat → Nat} (hx : p.tables.exec = Jvm.exec) (hb : c.code = cX5_addNumber) (hown : s.vm.findClass RX5 = some m.cls) (hts : ∀ w ∈ wsX5_addNumber, w.before args s = true) (hml : c.maxLocals = 6) (hE : EV D ak s) (hT : ST D ak ad A s s.heap) (hA : ∀ q, s.heap.size ≤ q → A q) (hRf : 1 ≤ R.frames) (hRl : 24 ≤ R.locals) (hRc : cells ≤ R.cells ∧ slots ≤ R.slots) (ht : Nat) (ta : Nat → Nat) (Tlen : Int32) (Tsigns : Nat → Int32) (xa : Int32) (xe : Int32)  (Φ : Int32 → (Nat → Nat) → (Nat → Int32) → (Nat → Int64) → Prop)
    (kR57 : ∀ (Tcnt : Int32) (Ttoks : Nat → Nat) (Tplc : Nat → Int32) (Tvals : Nat → Int64) (H : Heap) (locs : List Loc) (ls : Array Slot), Φ Tcnt Ttoks Tplc Tvals → va_P D vwCl (wW_X5_addNumber ak ad ht ta Tlen Tcnt Tsigns Ttoks Tplc Tvals) H → va_D A (wW_X5_addNumber ak ad ht ta Tlen Tcnt Tsigns Ttoks Tplc Tvals) → va_S A s.heap H locs → W p l e R s m args below meth c H locs cells slots Q (F0 m 57 ls []))
    : ∀ (Tcnt : Int32) (Ttoks : Nat → Nat) (Tplc : Nat → Int32) (Tvals : Nat → Int64) (H : Heap) (locs : List Loc) (ls : Array Slot), wp_X5_addNumber Tsigns xa xe Tcnt Ttoks Tplc Tvals Φ → va_P D vwCl (wW_X5_addNumber ak ad ht ta Tlen Tcnt Tsigns Ttoks Tplc Tvals) H → va_D A (wW_X5_addNumber ak ad ht ta Tlen Tcnt Tsigns Ttoks Tplc Tvals) → va_S A s.heap H locs → lv_has ls 6 [(0, .ref ht), (1, .int (xa)), (2, .int (xe))] → W p l e R s m args below meth c H locs cells slots Q (F0 m 0 ls ([])) := by
  intro Tcnt Ttoks Tplc Tvals H locs ls hw hP hD hS hl
  delta wp_X5_addNumber at hw
  refine lv_lconst (v := 0) hx hb dX5_addNumber_0 rfl ?_
  refine lv_lstore_n (lv' := [(3, .long (0)), (0, .ref ht), (1, .int (xa)), (2, .int (xe))]) hx hb dX5_addNumber_1 rfl hl (by decide) rfl (fun ls hl => ?_)
  refine lv_iload_n hx hb dX5_addNumber_2 rfl (lv_at hl 2 rfl) ?_
  refine lv_istore (lv' := [(5, .int (xa)), (3, .long (0)), (0, .ref ht), (1, .int (xa)), (2, .int (xe))]) hx hb dX5_addNumber_3 hl (by decide) rfl (fun ls hl => ?_)
  obtain ⟨n1_, hw⟩ := hw
  exact lp_X5_addNumber_5 hx hb hown hts hml hE hT hA hRf hRl hRc ht ta Tlen Tsigns xa xe  Φ  kR57 n1_ Tcnt Ttoks Tplc Tvals 0 xa _ _ _ hw hP hD hS (lv_sub hl [2, 3, 4, 1, 0] rfl)
set_option maxHeartbeats 4000000 in
set_option maxRecDepth 100000 in
theorem c_X5_addNumber (l : Launch) (D : va_G) (ak : Nat → ClassId) (ad : Nat → Nat) (sz : Nat) (ht : Nat) (ta : Nat → Nat) (Tlen : Int32) (Tcnt : Int32) (Tsigns : Nat → Int32) (Ttoks : Nat → Nat) (Tplc : Nat → Int32) (Tvals : Nat → Int64) (xa : Int32) (xe : Int32) (Φ : Int32 → (Nat → Nat) → (Nat → Int32) → (Nat → Int64) → Prop) (hf : wp_X5_addNumber Tsigns xa xe Tcnt Ttoks Tplc Tvals Φ) : Met l yX5_addNumber wsX5_addNumber ({ frames := 1, cells := 0, slots := 0, locals := 24 }) (cPre D ak ad [.ref ht, .int (xa), .int (xe)] ((wW_X5_addNumber ak ad ht ta Tlen Tcnt Tsigns Ttoks Tplc Tvals)) sz) (cV D (S := (Int32) × (Nat → Nat) × (Nat → Int32) × (Nat → Int64)) (fun (u : (Int32) × (Nat → Nat) × (Nat → Int32) × (Nat → Int64)) => Φ u.1 u.2.1 u.2.2.1 u.2.2.2) (fun u => (wW_X5_addNumber ak ad ht ta Tlen u.1 Tsigns u.2.1 u.2.2.1 u.2.2.2)) ((wW_X5_addNumber ak ad ht ta Tlen Tcnt Tsigns Ttoks Tplc Tvals)) sz) 0 0 (va_A ((wW_X5_addNumber ak ad ht ta Tlen Tcnt Tsigns Ttoks Tplc Tvals)) sz) := by
  refine Met.ofW (cc := cX5_addNumber) (maxL := 6) (ret := none) (by decide) rfl ?_
  intro p e s m args below meth c s₁ B hml hv
  obtain ⟨rfl, hsz, hP, hE, hD0, hT⟩ := hv
  have hx := B.exec
  have hb := B.bytes
  have hr := B.returns
  have hts := atoms_spec (ws := wsX5_addNumber) B.pre
  have hown : s.vm.findClass RX5 = some m.cls := findClass_of_methodNamed B.named
  have hlocks := B.notSynchronized
  subst hsz
  have hD := hD0.self (sz := s.heap.size)
  generalize hAe : va_A ((wW_X5_addNumber ak ad ht ta Tlen Tcnt Tsigns Ttoks Tplc Tvals)) s.heap.size = A at hD hT ⊢
  have hA : ∀ q : Nat, s.heap.size ≤ q → A q := fun q h => by rw [← hAe]; exact Or.inr h
  have hS : va_S A s.heap s.heap [] := va_S.rf
  have hl := lv_entry ([.ref ht, .int (xa), .int (xe)]) (n := 6) (Nat.le_of_ble_eq_true rfl)
  rw [lg_entry_eq]
  generalize (lg_sl ([.ref ht, .int (xa), .int (xe)]) ++ List.replicate (6 - (lg_sl ([.ref ht, .int (xa), .int (xe)])).length) Slot.unset).toArray = ls at hl ⊢
  have hl : lv_has ls 6 [(0, .ref ht), (1, .int (xa)), (2, .int (xe))] := hl
  exact kj_X5_addNumber_e hx hb hown hts hml hE hT hA (Nat.le_of_ble_eq_true rfl) (Nat.le_of_ble_eq_true rfl) ⟨Nat.le_of_ble_eq_true rfl, Nat.le_of_ble_eq_true rfl⟩ ht ta Tlen Tsigns xa xe Φ (fun Tcnt Ttoks Tplc Tvals H locs ls hw hP hD hS => W.vret hx hb hr (fun t ht hW => ⟨⟨(Tcnt, Ttoks, Tplc, Tvals), rfl, hw, by rw [ht]; exact hP, by rw [hAe]; exact hD⟩, by rw [hAe]; exact hS.F ht⟩) hS.2.2 dX5_addNumber_57) Tcnt Ttoks Tplc Tvals _ _ _ hf hP hD hS hl
