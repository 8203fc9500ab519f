theorem dX0_make_50 : decode cX0_make 50 = .ok (.iload 4, 2) := by decide +kernel
theorem dX0_make_52 : decode cX0_make 52 = .ok (.bipush 64, 2) := by decide +kernel
theorem dX0_make_54 : decode cX0_make 54 = .ok (.if_icmp .gt 25, 3) := by decide +kernel
theorem dX0_make_79 : decode cX0_make 79 = .ok (.iinc 3 (-1), 3) := by decide +kernel
theorem dX0_make_82 : decode cX0_make 82 = .ok (.goto (-39), 3) := by decide +kernel
theorem dX0_make_57 : decode cX0_make 57 = .ok (.aload_n 0, 1) := by decide +kernel
theorem dX0_make_58 : decode cX0_make 58 = .ok (.getfield 17, 3) := by decide +kernel
theorem dX0_make_61 : decode cX0_make 61 = .ok (.iload_n 3, 1) := by decide +kernel
theorem dX0_make_62 : decode cX0_make 62 = .ok (.aaload, 1) := by decide +kernel
theorem dX0_make_63 : decode cX0_make 63 = .ok (.iload 4, 2) := by decide +kernel
theorem dX0_make_65 : decode cX0_make 65 = .ok (.aload_n 0, 1) := by decide +kernel
theorem dX0_make_66 : decode cX0_make 66 = .ok (.iload_n 3, 1) := by decide +kernel
theorem dX0_make_67 : decode cX0_make 67 = .ok (.iload 4, 2) := by decide +kernel
set_option maxRecDepth 20000 in
theorem ggX0_make_X0_find : GoodIn wsX0_make wsX0_find := gup gc_X0_find
set_option maxRecDepth 20000 in
theorem gX0_make_X0_find : GoodIn wsX0_make (wsV RX0 42 RX0 yX0_find wsX0_find) := gup (glV hw_612 hw_613 hw_614 hw_615 gc_X0_find)
theorem dX0_make_69 : decode cX0_make 69 = .ok (.invokevirtual 42, 3) := by decide +kernel
theorem dX0_make_72 : decode cX0_make 72 = .ok (.iastore, 1) := by decide +kernel
theorem dX0_make_73 : decode cX0_make 73 = .ok (.iinc 4 1, 3) := by decide +kernel
theorem dX0_make_76 : decode cX0_make 76 = .ok (.goto (-26), 3) := by decide +kernel
theorem dX0_make_43 : decode cX0_make 43 = .ok (.iload_n 3, 1) := by decide +kernel
theorem dX0_make_44 : decode cX0_make 44 = .ok (.ifCond .lt 41, 3) := by decide +kernel
theorem dX0_make_47 : decode cX0_make 47 = .ok (.iconst 0, 1) := by decide +kernel
theorem dX0_make_48 : decode cX0_make 48 = .ok (.istore 4, 2) := by decide +kernel
theorem dX0_make_0 : decode cX0_make 0 = .ok (.aload_n 0, 1) := by decide +kernel
theorem dX0_make_1 : decode cX0_make 1 = .ok (.aload_n 1, 1) := by decide +kernel
theorem dX0_make_2 : decode cX0_make 2 = .ok (.putfield 20, 3) := by decide +kernel
theorem dX0_make_5 : decode cX0_make 5 = .ok (.aload_n 2, 1) := by decide +kernel
theorem dX0_make_6 : decode cX0_make 6 = .ok (.iconst 0, 1) := by decide +kernel
theorem dX0_make_7 : decode cX0_make 7 = .ok (.aload_n 0, 1) := by decide +kernel
theorem dX0_make_8 : decode cX0_make 8 = .ok (.getfield 9, 3) := by decide +kernel
theorem dX0_make_11 : decode cX0_make 11 = .ok (.iconst 0, 1) := by decide +kernel
theorem dX0_make_12 : decode cX0_make 12 = .ok (.bipush 16, 2) := by decide +kernel
theorem dX0_make_14 : decode cX0_make 14 = .ok (.invokestatic 24, 3) := by decide +kernel
theorem dX0_make_17 : decode cX0_make 17 = .ok (.aload_n 0, 1) := by decide +kernel
theorem dX0_make_18 : decode cX0_make 18 = .ok (.getfield 17, 3) := by decide +kernel
theorem dX0_make_21 : decode cX0_make 21 = .ok (.aload_n 0, 1) := by decide +kernel
theorem dX0_make_22 : decode cX0_make 22 = .ok (.getfield 20, 3) := by decide +kernel
theorem dX0_make_25 : decode cX0_make 25 = .ok (.getfield 30, 3) := by decide +kernel
theorem dX0_make_28 : decode cX0_make 28 = .ok (.aaload, 1) := by decide +kernel
theorem dX0_make_29 : decode cX0_make 29 = .ok (.iconst 0, 1) := by decide +kernel
set_option maxRecDepth 20000 in
theorem ggX0_make_J7_fill_53178 : GoodIn wsX0_make wsJ7_fill_53178 := gup gc_J7_fill_53178
set_option maxRecDepth 20000 in
theorem gX0_make_J7_fill_53178 : GoodIn wsX0_make (va_wsS RX0 36 yJ7_fill_53178 wsJ7_fill_53178) := gup (glS hw_618 hw_371 hw_372 gc_J7_fill_53178)
theorem dX0_make_30 : decode cX0_make 30 = .ok (.invokestatic 36, 3) := by decide +kernel
theorem dX0_make_33 : decode cX0_make 33 = .ok (.aload_n 0, 1) := by decide +kernel
theorem dX0_make_34 : decode cX0_make 34 = .ok (.getfield 20, 3) := by decide +kernel
theorem dX0_make_37 : decode cX0_make 37 = .ok (.getfield 30, 3) := by decide +kernel
theorem dX0_make_40 : decode cX0_make 40 = .ok (.iconst 1, 1) := by decide +kernel
theorem dX0_make_41 : decode cX0_make 41 = .ok (.isub, 1) := by decide +kernel
theorem dX0_make_42 : decode cX0_make 42 = .ok (.istore_n 3, 1) := by decide +kernel
theorem dX0_make_85 : decode cX0_make 85 = .ok (.return_, 1) := by decide +kernel
def wW_X0_make (ak : Nat → ClassId) (ad : Nat → Nat) (hl_ : Nat) (la : Nat → Nat) (gq : Nat → Nat) (pk : Nat) (Apk : Nat → Int32) (Lpg : Nat) (Lstuff : Int32) (Ltwins : Int32) (Lpeak : Nat → Int32) (Lrow : Nat → Nat → Int32) : va_W := ([(pk, .inl (ak 0, 16, .inl (Apk))), (hl_, .inr (0, lob la (Lpg) (Lstuff) (Ltwins))), ((la 0), .inl (ak 0, 16, .inl (Lpeak))), ((la 1), .inl (ak 6, 17, .inr (.inr (.inr (.inr (grA gq))))))] ++ gRows ak gq Lrow)
def wK_X0_make (ak : Nat → ClassId) (ad : Nat → Nat) (pg : Nat) (pa : Nat → Nat) (Pst : Int32) (Pce : Int32) (Pgi : Int32) (Pln : Int32) (Pbears : Nat → Int32) (Pcosts : Nat → Int32) : va_W := [(pg, .inr (2, pob pa (Pst) (Pce) (Pgi) (Pln))), ((pa 0), .inl (ak 0, 4, .inl (Pbears))), ((pa 1), .inl (ak 0, 4, .inl (Pcosts)))]
def lb_X0_make_50 (Apk : Nat → Int32) (Pst : Int32) (Pln : Int32) (Pbears : Nat → Int32) (Pcosts : Nat → Int32) (pg : Nat) (κ43 : Nat → Int32 → Int32 → (Nat → Int32) → (Nat → Nat → Int32) → Int32 → Prop) (Φ : Nat → Int32 → Int32 → (Nat → Int32) → (Nat → Nat → Int32) → Prop) (back : Nat → Int32 → Int32 → (Nat → Int32) → (Nat → Nat → Int32) → Int32 → Int32 → Prop) (Lpg : Nat) (Lstuff : Int32) (Ltwins : Int32) (Lpeak : Nat → Int32) (Lrow : Nat → Nat → Int32) (l3 : Int32) (l4 : Int32) : Prop := (64 < l4 → κ43 Lpg Lstuff Ltwins Lpeak Lrow (l3 + (-1))) ∧ (¬ 64 < l4 → vp_in l3 17 ∧ pg = Lpg ∧ wp_X0_find Lpeak Lrow Pst Pbears Pcosts l3 l4 Lstuff Ltwins (fun r_10 Lstuff_8 Ltwins_9 => vp_in l4 65 ∧ back pg Lstuff_8 Ltwins_9 Lpeak (updR Lrow ((l3).toNatClampNeg) (upd (Lrow ((l3).toNatClampNeg)) (l4).toNatClampNeg r_10)) l3 (l4 + 1)))
def lf_X0_make_50 (Apk : Nat → Int32) (Pst : Int32) (Pln : Int32) (Pbears : Nat → Int32) (Pcosts : Nat → Int32) (pg : Nat) (κ43 : Nat → Int32 → Int32 → (Nat → Int32) → (Nat → Nat → Int32) → Int32 → Prop) (Φ : Nat → Int32 → Int32 → (Nat → Int32) → (Nat → Nat → Int32) → Prop) : Nat → Nat → Int32 → Int32 → (Nat → Int32) → (Nat → Nat → Int32) → Int32 → Int32 → Prop
  | 0, _, _, _, _, _, _, _ => False
  | n_ + 1, Lpg, Lstuff, Ltwins, Lpeak, Lrow, l3, l4 => lb_X0_make_50 Apk Pst Pln Pbears Pcosts pg κ43 Φ (lf_X0_make_50 Apk Pst Pln Pbears Pcosts pg κ43 Φ n_) Lpg Lstuff Ltwins Lpeak Lrow l3 l4
theorem li_X0_make_50 (Apk : Nat → Int32) (Pst : Int32) (Pln : Int32) (Pbears : Nat → Int32) (Pcosts : Nat → Int32) (pg : Nat) (κ43 : Nat → Int32 → Int32 → (Nat → Int32) → (Nat → Nat → Int32) → Int32 → Prop) (Φ : Nat → Int32 → Int32 → (Nat → Int32) → (Nat → Nat → Int32) → Prop) (Inv : Nat → Int32 → Int32 → (Nat → Int32) → (Nat → Nat → Int32) → Int32 → Int32 → Prop) (mu : Nat → Int32 → Int32 → (Nat → Int32) → (Nat → Nat → Int32) → Int32 → Int32 → Nat) (hs : ∀ (back : Nat → Int32 → Int32 → (Nat → Int32) → (Nat → Nat → Int32) → Int32 → Int32 → Prop) (Lpg : Nat) (Lstuff : Int32) (Ltwins : Int32) (Lpeak : Nat → Int32) (Lrow : Nat → Nat → Int32) (l3 : Int32) (l4 : Int32), Inv Lpg Lstuff Ltwins Lpeak Lrow l3 l4 → (∀ (Lpg' : Nat) (Lstuff' : Int32) (Ltwins' : Int32) (Lpeak' : Nat → Int32) (Lrow' : Nat → Nat → Int32) (l3' : Int32) (l4' : Int32), Inv Lpg' Lstuff' Ltwins' Lpeak' Lrow' l3' l4' → mu Lpg' Lstuff' Ltwins' Lpeak' Lrow' l3' l4' < mu Lpg Lstuff Ltwins Lpeak Lrow l3 l4 → back Lpg' Lstuff' Ltwins' Lpeak' Lrow' l3' l4') → lb_X0_make_50 Apk Pst Pln Pbears Pcosts pg κ43 Φ back Lpg Lstuff Ltwins Lpeak Lrow l3 l4) : ∀ (n_ : Nat) (Lpg : Nat) (Lstuff : Int32) (Ltwins : Int32) (Lpeak : Nat → Int32) (Lrow : Nat → Nat → Int32) (l3 : Int32) (l4 : Int32), Inv Lpg Lstuff Ltwins Lpeak Lrow l3 l4 → mu Lpg Lstuff Ltwins Lpeak Lrow l3 l4 < n_ → lf_X0_make_50 Apk Pst Pln Pbears Pcosts pg κ43 Φ n_ Lpg Lstuff Ltwins Lpeak Lrow l3 l4 := by
  intro n_
  induction n_ with
  | zero => intro Lpg Lstuff Ltwins Lpeak Lrow l3 l4 _ h; exact absurd h (Nat.not_lt_zero _)
  | succ n_ ih => intro Lpg Lstuff Ltwins Lpeak Lrow l3 l4 hI hm; exact hs _ Lpg Lstuff Ltwins Lpeak Lrow l3 l4 hI (fun Lpg' Lstuff' Ltwins' Lpeak' Lrow' l3' l4' h1 h2 => ih Lpg' Lstuff' Ltwins' Lpeak' Lrow' l3' l4' h1 (by omega))
set_option maxHeartbeats 4000000 in
set_option maxRecDepth 100000 in
theorem lp_X0_make_50 {p : Program} {l : Launch} {e : Env} {R : Room} {s : State} {m : MethodId} {args : Array Value} {below : List Frame} {meth : Method} {c : Code} {cells slots : Nat} {Q : State → Prop} {A : Nat → Prop} {D : va_G} {ak : Nat → ClassId} {ad : Nat → Nat} (hx : p.tables.exec = Jvm.exec) (hb : c.code = cX0_make) (hown : s.vm.findClass RX0 = some m.cls) (hts : ∀ w ∈ wsX0_make, w.before args s = true) (hml : c.maxLocals = 5) (hE : EV D ak s) (hT : ST D ak ad A s s.heap) (hA : ∀ q, s.heap.size ≤ q → A q) (hRf : 1 ≤ R.frames) (hRl : 40 ≤ R.locals) (hRc : cells ≤ R.cells ∧ slots ≤ R.slots) (hl_ : Nat) (la : Nat → Nat) (gq : Nat → Nat) (pg : Nat) (pa : Nat → Nat) (pk : Nat) (Apk : Nat → Int32) (Pst : Int32) (Pce : Int32) (Pgi : Int32) (Pln : Int32) (Pbears : Nat → Int32) (Pcosts : Nat → Int32) (hKT : KT D A (wK_X0_make ak ad pg pa Pst Pce Pgi Pln Pbears Pcosts) s.heap) (κ43 : Nat → Int32 → Int32 → (Nat → Int32) → (Nat → Nat → Int32) → Int32 → Prop) (Φ : Nat → Int32 → Int32 → (Nat → Int32) → (Nat → Nat → Int32) → Prop)
    (kk43 : ∀ (Lpg : Nat) (Lstuff : Int32) (Ltwins : Int32) (Lpeak : Nat → Int32) (Lrow : Nat → Nat → Int32) (l3 : Int32) (H : Heap) (locs : List Loc) (ls : Array Slot), κ43 Lpg Lstuff Ltwins Lpeak Lrow l3 → va_P D vwCl (wW_X0_make ak ad hl_ la gq pk Apk Lpg Lstuff Ltwins Lpeak Lrow) H → va_D A (wW_X0_make ak ad hl_ la gq pk Apk Lpg Lstuff Ltwins Lpeak Lrow) → va_S A s.heap H locs → lv_has ls 5 [(0, .ref hl_), (3, .int (l3))] → W p l e R s m args below meth c H locs cells slots Q (F0 m 43 ls ([])))
    (kR85 : ∀ (Lpg : Nat) (Lstuff : Int32) (Ltwins : Int32) (Lpeak : Nat → Int32) (Lrow : Nat → Nat → Int32) (H : Heap) (locs : List Loc) (ls : Array Slot), Φ Lpg Lstuff Ltwins Lpeak Lrow → va_P D vwCl (wW_X0_make ak ad hl_ la gq pk Apk Lpg Lstuff Ltwins Lpeak Lrow) H → va_D A (wW_X0_make ak ad hl_ la gq pk Apk Lpg Lstuff Ltwins Lpeak Lrow) → va_S A s.heap H locs → W p l e R s m args below meth c H locs cells slots Q (F0 m 85 ls []))
    : ∀ (n_ : Nat) (Lpg : Nat) (Lstuff : Int32) (Ltwins : Int32) (Lpeak : Nat → Int32) (Lrow : Nat → Nat → Int32) (l3 : Int32) (l4 : Int32) (H : Heap) (locs : List Loc) (ls : Array Slot), lf_X0_make_50 Apk Pst Pln Pbears Pcosts pg κ43 Φ n_ Lpg Lstuff Ltwins Lpeak Lrow l3 l4 → va_P D vwCl (wW_X0_make ak ad hl_ la gq pk Apk Lpg Lstuff Ltwins Lpeak Lrow) H → va_D A (wW_X0_make ak ad hl_ la gq pk Apk Lpg Lstuff Ltwins Lpeak Lrow) → va_S A s.heap H locs → lv_has ls 5 [(0, .ref hl_), (3, .int (l3)), (4, .int (l4))] → W p l e R s m args below meth c H locs cells slots Q (F0 m 50 ls ([])) := by
  have hCW : ∀ {H : Heap} {locs : List Loc}, va_S A s.heap H locs → va_P D vwCl (wK_X0_make ak ad pg pa Pst Pce Pgi Pln Pbears Pcosts) H := fun hS => (hKT.kept hS.2.1).1
  intro n_
  induction n_ with
  | zero =>
    intro Lpg Lstuff Ltwins Lpeak Lrow l3 l4 H locs ls hw
    exact hw.elim
  | succ n_ ih =>
    intro Lpg Lstuff Ltwins Lpeak Lrow l3 l4 H locs ls hw hP hD hS hl
    replace hw : lb_X0_make_50 Apk Pst Pln Pbears Pcosts pg κ43 Φ (lf_X0_make_50 Apk Pst Pln Pbears Pcosts pg κ43 Φ n_) Lpg Lstuff Ltwins Lpeak Lrow l3 l4 := hw
    delta lb_X0_make_50 at hw
    refine lv_iload hx hb dX0_make_50 (lv_at hl 2 rfl) ?_
    refine lv_bipush (v := 64) hx hb dX0_make_52 (by decide) ?_
    refine lv_icmp_gt (tgt := 79) hx hb dX0_make_54 (by decide) (fun c_4 => ?_) (fun c_4 => ?_)
    · replace hw := hw.1 c_4
      refine lv_iinc (v := (l3 + (-1))) (lv' := [(3, .int (l3 + (-1))), (0, .ref hl_), (4, .int (l4))]) hx hb dX0_make_79 hl (k := 1) rfl (rfl) (by decide) rfl (fun ls hl => ?_)
      refine lv_goto (tgt := 43) hx hb dX0_make_82 (by decide) ?_
      exact kk43 Lpg Lstuff Ltwins Lpeak Lrow (l3 + (-1)) _ _ _ hw hP hD hS (lv_sub hl [1, 0] rfl)
    · replace hw := hw.2 c_4
      refine lv_aload_n hx hb dX0_make_57 rfl (lv_at hl 0 rfl) ?_
      refine va_get (D := D) (ci := 0) (v := .ref (la 1)) (C := RX0) (T := TX0) (N := 5) hx hb hts (fun w h => wm_c (wc_X0 w h)) hown hE.1 hP 1 rfl rfl 2 (by decide) (hts (.fieldLink RX0 17 "WornLines$Layout" "least" "[[I") (wm_c hw_311)) (fun _ h9 => h9) rfl dX0_make_58 ?_
      refine lv_iload_n hx hb dX0_make_61 rfl (lv_at hl 1 rfl) ?_
      obtain ⟨h_5, hw⟩ := hw
      refine kg_ald hx hb hE hP 3 rfl (h_5) dX0_make_62 ?_
      refine lv_iload hx hb dX0_make_63 (lv_at hl 2 rfl) ?_
      refine lv_aload_n hx hb dX0_make_65 rfl (lv_at hl 0 rfl) ?_
      refine lv_iload_n hx hb dX0_make_66 rfl (lv_at hl 1 rfl) ?_
      refine lv_iload hx hb dX0_make_67 (lv_at hl 2 rfl) ?_
      obtain ⟨hal, hwn_6⟩ := hw
      have hPn_6 := hP
      have hDn_6 := hD
      have hSn_6 := hS
      have hln_6 := hl
      subst hal
      have hw := hwn_6
      have hP := hPn_6
      have hD := hDn_6
      have hS := hSn_6
      have hl := hln_6
      refine kc_i (wc := (wW_X0_find ak ad hl_ la gq pg Lstuff Ltwins Lpeak Lrow)) (wr := [(pk, .inl (ak 0, 16, .inl (Apk)))]) hP hD hS hA [1, 2, 3, 4, 5, 6, 7, 8, 9, 10, 11, 12, 13, 14, 15, 16, 17, 18, 19, 20] [0] rfl rfl (by decide) (by decide) (va_runV (As := [.int (l3), .int (l4)]) (rest := [.int (l4), .ref (gq ((l3).toNatClampNeg))]) ⟨hx, hb, hml, hown, hts⟩ (c_X0_find l D ak ad _ hl_ la gq pg pa Lstuff Ltwins Lpeak Lrow Pst Pce Pgi Pln Pbears Pcosts l3 l4 _ hw) (cwV 2 hts gX0_make_X0_find rfl rfl rfl (by decide +kernel) ⟨(Nat.le_trans (Nat.le_of_ble_eq_true rfl) hRf), (Nat.le_trans (Nat.le_of_ble_eq_true rfl) hRl)⟩) (kc_preVK (As := [.int (l3), .int (l4)]) (wc := (wW_X0_find ak ad hl_ la gq pg Lstuff Ltwins Lpeak Lrow)) (ck := (wK_X0_find ak ad pg pa Pst Pce Pgi Pln Pbears Pcosts)) hKT hE hT hP hD hS hA [1, 2, 3, 4, 5, 6, 7, 8, 9, 10, 11, 12, 13, 14, 15, 16, 17, 18, 19, 20] [0, 1, 2] (by decide) rfl rfl rfl hP 1 0 rfl rfl rfl) rfl rfl hl.1 rfl (lv_room (Nat.le_of_ble_eq_true rfl)) dX0_make_69 ⟨hRc.1, hRc.2⟩) (fun r_10 u_7 H locs hw hP hD hS => ?_)
      obtain ⟨Lstuff_8, Ltwins_9⟩ := u_7
      try dsimp -zeta only at hw
      have hP : va_P D vwCl (wW_X0_make ak ad hl_ la gq pk Apk pg Lstuff_8 Ltwins_9 Lpeak Lrow) H := hP.sub [0, 1, 2, 3, 4, 5, 6, 7, 8, 9, 10, 11, 12, 13, 14, 15, 16, 17, 18, 19, 20] rfl
      have hD : va_D A (wW_X0_make ak ad hl_ la gq pk Apk pg Lstuff_8 Ltwins_9 Lpeak Lrow) := hD.sub [0, 1, 2, 3, 4, 5, 6, 7, 8, 9, 10, 11, 12, 13, 14, 15, 16, 17, 18, 19, 20] (by decide) rfl
      obtain ⟨h_11, hw⟩ := hw
      refine va_iast hx hb hE.1 hP hD hS (4 + ((l3).toNatClampNeg)) 0 (gw_at 4 rfl (vp_lt h_5)) rfl (h_11) dX0_make_72 (fun H locs hP hD hS => ?_)
      rw [show (wW_X0_make ak ad hl_ la gq pk Apk pg Lstuff_8 Ltwins_9 Lpeak Lrow).set (4 + ((l3).toNatClampNeg)) (gq ((l3).toNatClampNeg), .inl (ak 0, 65, .inl (upd (Lrow ((l3).toNatClampNeg)) (l4).toNatClampNeg r_10))) = (wW_X0_make ak ad hl_ la gq pk Apk pg Lstuff_8 Ltwins_9 Lpeak (updR Lrow ((l3).toNatClampNeg) (upd (Lrow ((l3).toNatClampNeg)) (l4).toNatClampNeg r_10))) from gw_set 4 rfl (vp_lt h_5)] at hP hD
      refine lv_iinc (v := (l4 + 1)) (lv' := [(4, .int (l4 + 1)), (0, .ref hl_), (3, .int (l3))]) hx hb dX0_make_73 hl (k := 2) rfl (rfl) (by decide) rfl (fun ls hl => ?_)
      refine lv_goto (tgt := 50) hx hb dX0_make_76 (by decide) ?_
      exact ih pg Lstuff_8 Ltwins_9 Lpeak (updR Lrow ((l3).toNatClampNeg) (upd (Lrow ((l3).toNatClampNeg)) (l4).toNatClampNeg r_10)) l3 (l4 + 1) _ _ _ hw hP hD hS (lv_sub hl [1, 2, 0] rfl)

def lb_X0_make_43 (Apk : Nat → Int32) (Pst : Int32) (Pln : Int32) (Pbears : Nat → Int32) (Pcosts : Nat → Int32) (pg : Nat)  (Φ : Nat → Int32 → Int32 → (Nat → Int32) → (Nat → Nat → Int32) → Prop) (back : Nat → Int32 → Int32 → (Nat → Int32) → (Nat → Nat → Int32) → Int32 → Prop) (Lpg : Nat) (Lstuff : Int32) (Ltwins : Int32) (Lpeak : Nat → Int32) (Lrow : Nat → Nat → Int32) (l3 : Int32) : Prop := (l3 < 0 → Φ Lpg Lstuff Ltwins Lpeak Lrow) ∧ (¬ l3 < 0 → (∃ n_, lf_X0_make_50 Apk Pst Pln Pbears Pcosts pg back Φ n_ Lpg Lstuff Ltwins Lpeak Lrow l3 0))
def lf_X0_make_43 (Apk : Nat → Int32) (Pst : Int32) (Pln : Int32) (Pbears : Nat → Int32) (Pcosts : Nat → Int32) (pg : Nat)  (Φ : Nat → Int32 → Int32 → (Nat → Int32) → (Nat → Nat → Int32) → Prop) : Nat → Nat → Int32 → Int32 → (Nat → Int32) → (Nat → Nat → Int32) → Int32 → Prop
  | 0, _, _, _, _, _, _ => False
  | n_ + 1, Lpg, Lstuff, Ltwins, Lpeak, Lrow, l3 => lb_X0_make_43 Apk Pst Pln Pbears Pcosts pg  Φ (lf_X0_make_43 Apk Pst Pln Pbears Pcosts pg  Φ n_) Lpg Lstuff Ltwins Lpeak Lrow l3
theorem li_X0_make_43 (Apk : Nat → Int32) (Pst : Int32) (Pln : Int32) (Pbears : Nat → Int32) (Pcosts : Nat → Int32) (pg : Nat)  (Φ : Nat → Int32 → Int32 → (Nat → Int32) → (Nat → Nat → Int32) → Prop) (Inv : Nat → Int32 → Int32 → (Nat → Int32) → (Nat → Nat → Int32) → Int32 → Prop) (mu : Nat → Int32 → Int32 → (Nat → Int32) → (Nat → Nat → Int32) → Int32 → Nat) (hs : ∀ (back : Nat → Int32 → Int32 → (Nat → Int32) → (Nat → Nat → Int32) → Int32 → Prop) (Lpg : Nat) (Lstuff : Int32) (Ltwins : Int32) (Lpeak : Nat → Int32) (Lrow : Nat → Nat → Int32) (l3 : Int32), Inv Lpg Lstuff Ltwins Lpeak Lrow l3 → (∀ (Lpg' : Nat) (Lstuff' : Int32) (Ltwins' : Int32) (Lpeak' : Nat → Int32) (Lrow' : Nat → Nat → Int32) (l3' : Int32), Inv Lpg' Lstuff' Ltwins' Lpeak' Lrow' l3' → mu Lpg' Lstuff' Ltwins' Lpeak' Lrow' l3' < mu Lpg Lstuff Ltwins Lpeak Lrow l3 → back Lpg' Lstuff' Ltwins' Lpeak' Lrow' l3') → lb_X0_make_43 Apk Pst Pln Pbears Pcosts pg  Φ back Lpg Lstuff Ltwins Lpeak Lrow l3) : ∀ (n_ : Nat) (Lpg : Nat) (Lstuff : Int32) (Ltwins : Int32) (Lpeak : Nat → Int32) (Lrow : Nat → Nat → Int32) (l3 : Int32), Inv Lpg Lstuff Ltwins Lpeak Lrow l3 → mu Lpg Lstuff Ltwins Lpeak Lrow l3 < n_ → lf_X0_make_43 Apk Pst Pln Pbears Pcosts pg  Φ n_ Lpg Lstuff Ltwins Lpeak Lrow l3 := by
  intro n_
  induction n_ with
  | zero => intro Lpg Lstuff Ltwins Lpeak Lrow l3 _ h; exact absurd h (Nat.not_lt_zero _)
  | succ n_ ih => intro Lpg Lstuff Ltwins Lpeak Lrow l3 hI hm; exact hs _ Lpg Lstuff Ltwins Lpeak Lrow l3 hI (fun Lpg' Lstuff' Ltwins' Lpeak' Lrow' l3' h1 h2 => ih Lpg' Lstuff' Ltwins' Lpeak' Lrow' l3' h1 (by omega))
set_option maxHeartbeats 4000000 in
set_option maxRecDepth 100000 in
theorem lp_X0_make_43 {p : Program} {l : Launch} {e : Env} {R : Room} {s : State} {m : MethodId} {args : Array Value} {below : List Frame} {meth : Method} {c : Code} {cells slots : Nat} {Q : State → Prop} {A : Nat → Prop} {D : va_G} {ak : Nat → ClassId} {ad : Nat → Nat} (hx : p.tables.exec = Jvm.exec) (hb : c.code = cX0_make) (hown : s.vm.findClass RX0 = some m.cls) (hts : ∀ w ∈ wsX0_make, w.before args s = true) (hml : c.maxLocals = 5) (hE : EV D ak s) (hT : ST D ak ad A s s.heap) (hA : ∀ q, s.heap.size ≤ q → A q) (hRf : 1 ≤ R.frames) (hRl : 40 ≤ R.locals) (hRc : cells ≤ R.cells ∧ slots ≤ R.slots) (hl_ : Nat) (la : Nat → Nat) (gq : Nat → Nat) (pg : Nat) (pa : Nat → Nat) (pk : Nat) (Apk : Nat → Int32) (Pst : Int32) (Pce : Int32) (Pgi : Int32) (Pln : Int32) (Pbears : Nat → Int32) (Pcosts : Nat → Int32) (hKT : KT D A (wK_X0_make ak ad pg pa Pst Pce Pgi Pln Pbears Pcosts) s.heap)  (Φ : Nat → Int32 → Int32 → (Nat → Int32) → (Nat → Nat → Int32) → Prop)
    (kR85 : ∀ (Lpg : Nat) (Lstuff : Int32) (Ltwins : Int32) (Lpeak : Nat → Int32) (Lrow : Nat → Nat → Int32) (H : Heap) (locs : List Loc) (ls : Array Slot), Φ Lpg Lstuff Ltwins Lpeak Lrow → va_P D vwCl (wW_X0_make ak ad hl_ la gq pk Apk Lpg Lstuff Ltwins Lpeak Lrow) H → va_D A (wW_X0_make ak ad hl_ la gq pk Apk Lpg Lstuff Ltwins Lpeak Lrow) → va_S A s.heap H locs → W p l e R s m args below meth c H locs cells slots Q (F0 m 85 ls []))
    : ∀ (n_ : Nat) (Lpg : Nat) (Lstuff : Int32) (Ltwins : Int32) (Lpeak : Nat → Int32) (Lrow : Nat → Nat → Int32) (l3 : Int32) (H : Heap) (locs : List Loc) (ls : Array Slot), lf_X0_make_43 Apk Pst Pln Pbears Pcosts pg  Φ n_ Lpg Lstuff Ltwins Lpeak Lrow l3 → va_P D vwCl (wW_X0_make ak ad hl_ la gq pk Apk Lpg Lstuff Ltwins Lpeak Lrow) H → va_D A (wW_X0_make ak ad hl_ la gq pk Apk Lpg Lstuff Ltwins Lpeak Lrow) → va_S A s.heap H locs → lv_has ls 5 [(0, .ref hl_), (3, .int (l3))] → W p l e R s m args below meth c H locs cells slots Q (F0 m 43 ls ([])) := by
  have hCW : ∀ {H : Heap} {locs : List Loc}, va_S A s.heap H locs → va_P D vwCl (wK_X0_make ak ad pg pa Pst Pce Pgi Pln Pbears Pcosts) H := fun hS => (hKT.kept hS.2.1).1
  intro n_
  induction n_ with
  | zero =>
    intro Lpg Lstuff Ltwins Lpeak Lrow l3 H locs ls hw
    exact hw.elim
  | succ n_ ih =>
    intro Lpg Lstuff Ltwins Lpeak Lrow l3 H locs ls hw hP hD hS hl
    have hw : lb_X0_make_43 Apk Pst Pln Pbears Pcosts pg  Φ (lf_X0_make_43 Apk Pst Pln Pbears Pcosts pg  Φ n_) Lpg Lstuff Ltwins Lpeak Lrow l3 := hw
    delta lb_X0_make_43 at hw
    refine lv_iload_n hx hb dX0_make_43 rfl (lv_at hl 1 rfl) ?_
    refine lv_if_lt (tgt := 85) hx hb dX0_make_44 (by decide) (fun c_3 => ?_) (fun c_3 => ?_)
    · replace hw := hw.1 c_3
      exact kR85 Lpg Lstuff Ltwins Lpeak Lrow _ _ _ hw hP hD hS
    · replace hw := hw.2 c_3
      refine lv_iconst (v := 0) hx hb dX0_make_47 (by decide) ?_
      refine lv_istore (lv' := [(4, .int (0)), (0, .ref hl_), (3, .int (l3))]) hx hb dX0_make_48 hl (by decide) rfl (fun ls hl => ?_)
      obtain ⟨n1_, hw⟩ := hw
      exact lp_X0_make_50 hx hb hown hts hml hE hT hA hRf hRl hRc hl_ la gq pg pa pk Apk Pst Pce Pgi Pln Pbears Pcosts hKT _ Φ ih kR85 n1_ Lpg Lstuff Ltwins Lpeak Lrow l3 0 _ _ _ hw hP hD hS (lv_sub hl [1, 2, 0] rfl)

def wp_X0_make (Apk : Nat → Int32) (Pst : Int32) (Pln : Int32) (Pbears : Nat → Int32) (Pcosts : Nat → Int32) (pg : Nat) (Lpg : Nat) (Lstuff : Int32) (Ltwins : Int32) (Lpeak : Nat → Int32) (Lrow : Nat → Nat → Int32) (Φ : Nat → Int32 → Int32 → (Nat → Int32) → (Nat → Nat → Int32) → Prop) : Prop := vp_in Pln 17 ∧ wp_J7_fill_53178 65 0 (Lrow ((Pln).toNatClampNeg)) (fun Ar_2 => (∃ n_, lf_X0_make_43 Apk Pst Pln Pbears Pcosts pg  Φ n_ pg Lstuff Ltwins (va_cpy Apk Lpeak 0 0 16) (updR Lrow ((Pln).toNatClampNeg) Ar_2) (Pln - 1)))
set_option maxHeartbeats 4000000 in
set_option maxRecDepth 100000 in
theorem kj_X0_make_e {p : Program} {l : Launch} {e : Env} {R : Room} {s : State} {m : MethodId} {args : Array Value} {below : List Frame} {meth : Method} {c : Code} {cells slots : Nat} {Q : State → Prop} {A : Nat → Prop} {D : va_G} {ak : Nat → ClassId} {ad : Nat → Nat} (hx : p.tables.exec = Jvm.exec) (hb : c.code = cX0_make) (hown : s.vm.findClass RX0 = some m.cls) (hts : ∀ w ∈ wsX0_make, w.before args s = true) (hml : c.maxLocals = 5) (hE : EV D ak s) (hT : ST D ak ad A s s.heap) (hA : ∀ q, s.heap.size ≤ q → A q) (hRf : 1 ≤ R.frames) (hRl : 40 ≤ R.locals) (hRc : cells ≤ R.cells ∧ slots ≤ R.slots) (hl_ : Nat) (la : Nat → Nat) (gq : Nat → Nat) (pg : Nat) (pa : Nat → Nat) (pk : Nat) (Apk : Nat → Int32) (Pst : Int32) (Pce : Int32) (Pgi : Int32) (Pln : Int32) (Pbears : Nat → Int32) (Pcosts : Nat → Int32) (hKT : KT D A (wK_X0_make ak ad pg pa Pst Pce Pgi Pln Pbears Pcosts) s.heap)  (Φ : Nat → Int32 → Int32 → (Nat → Int32) → (Nat → Nat → Int32) → Prop)
    (kR85 : ∀ (Lpg : Nat) (Lstuff : Int32) (Ltwins : Int32) (Lpeak : Nat → Int32) (Lrow : Nat → Nat → Int32) (H : Heap) (locs : List Loc) (ls : Array Slot), Φ Lpg Lstuff Ltwins Lpeak Lrow → va_P D vwCl (wW_X0_make ak ad hl_ la gq pk Apk Lpg Lstuff Ltwins Lpeak Lrow) H → va_D A (wW_X0_make ak ad hl_ la gq pk Apk Lpg Lstuff Ltwins Lpeak Lrow) → va_S A s.heap H locs → W p l e R s m args below meth c H locs cells slots Q (F0 m 85 ls []))
    : ∀ (Lpg : Nat) (Lstuff : Int32) (Ltwins : Int32) (Lpeak : Nat → Int32) (Lrow : Nat → Nat → Int32) (H : Heap) (locs : List Loc) (ls : Array Slot), wp_X0_make Apk Pst Pln Pbears Pcosts pg Lpg Lstuff Ltwins Lpeak Lrow Φ → va_P D vwCl (wW_X0_make ak ad hl_ la gq pk Apk Lpg Lstuff Ltwins Lpeak Lrow) H → va_D A (wW_X0_make ak ad hl_ la gq pk Apk Lpg Lstuff Ltwins Lpeak Lrow) → va_S A s.heap H locs → lv_has ls 5 [(0, .ref hl_), (1, .ref pg), (2, .ref pk)] → W p l e R s m args below meth c H locs cells slots Q (F0 m 0 ls ([])) := by
  have hCW : ∀ {H : Heap} {locs : List Loc}, va_S A s.heap H locs → va_P D vwCl (wK_X0_make ak ad pg pa Pst Pce Pgi Pln Pbears Pcosts) H := fun hS => (hKT.kept hS.2.1).1
  intro Lpg Lstuff Ltwins Lpeak Lrow H locs ls hw hP hD hS hl
  delta wp_X0_make at hw
  refine lv_aload_n hx hb dX0_make_0 rfl (lv_at hl 0 rfl) ?_
  refine lv_aload_n hx hb dX0_make_1 rfl (lv_at hl 1 rfl) ?_
  refine va_put (D := D) (ci := 0) (v := .ref pg) (ty := .object "WornLines$Programme") (C := RX0) (T := TX0) (N := 5) hx hb hts (fun w h => wm_c (wc_X0 w h)) tyX0 tyX0_ok nmX0 hown hE.1 hP hD hS 1 rfl rfl 0 (by decide) (hts (.fieldLink RX0 20 "WornLines$Layout" "programme" "LWornLines$Programme;") (wm_c hw_312)) (fun _ h9 => h9) rfl (by decide +kernel) (rfl) rfl (Nat.le_of_ble_eq_true rfl) dX0_make_2 (fun H locs hP hD hS => ?_)
  have hP : va_P D vwCl (wW_X0_make ak ad hl_ la gq pk Apk pg Lstuff Ltwins Lpeak Lrow) H := hP
  have hD : va_D A (wW_X0_make ak ad hl_ la gq pk Apk pg Lstuff Ltwins Lpeak Lrow) := hD
  refine lv_aload_n hx hb dX0_make_5 rfl (lv_at hl 2 rfl) ?_
  refine lv_iconst (v := 0) hx hb dX0_make_6 (by decide) ?_
  refine lv_aload_n hx hb dX0_make_7 rfl (lv_at hl 0 rfl) ?_
  refine va_get (D := D) (ci := 0) (v := .ref (la 0)) (C := RX0) (T := TX0) (N := 5) hx hb hts (fun w h => wm_c (wc_X0 w h)) hown hE.1 hP 1 rfl rfl 1 (by decide) (hts (.fieldLink RX0 9 "WornLines$Layout" "peak" "[I") (wm_c hw_309)) (fun _ h9 => h9) rfl dX0_make_8 ?_
  refine lv_iconst (v := 0) hx hb dX0_make_11 (by decide) ?_
  refine lv_bipush (v := 16) hx hb dX0_make_12 (by decide) ?_
  refine va_copyi hx hb (by rw [hml]; exact hl.1.symm) hown (hts (.methodLink RX0 24 arraycopyName) (wm_c hw_616)) (hts (.native arraycopyName) (wm_c hw_366)) (hts (.static arraycopyName) (wm_c hw_367)) (hts (.initialized "java/lang/System") (wm_c hw_368)) hE.1 hP hD hS 0 2 0 0 rfl rfl rfl rfl rfl (by decide) (by decide) (by decide) (by decide) (by decide) (fun _ _ => rfl) (Nat.le_trans (Nat.le_of_ble_eq_true rfl) hRf) (Nat.le_trans (Nat.le_of_ble_eq_true rfl) hRl) dX0_make_14 (fun H locs hP hD hS => ?_)
  have hP : va_P D vwCl (wW_X0_make ak ad hl_ la gq pk Apk pg Lstuff Ltwins (va_cpy Apk Lpeak 0 0 16) Lrow) H := hP
  have hD : va_D A (wW_X0_make ak ad hl_ la gq pk Apk pg Lstuff Ltwins (va_cpy Apk Lpeak 0 0 16) Lrow) := hD
  refine lv_aload_n hx hb dX0_make_17 rfl (lv_at hl 0 rfl) ?_
  refine va_get (D := D) (ci := 0) (v := .ref (la 1)) (C := RX0) (T := TX0) (N := 5) hx hb hts (fun w h => wm_c (wc_X0 w h)) hown hE.1 hP 1 rfl rfl 2 (by decide) (hts (.fieldLink RX0 17 "WornLines$Layout" "least" "[[I") (wm_c hw_311)) (fun _ h9 => h9) rfl dX0_make_18 ?_
  refine lv_aload_n hx hb dX0_make_21 rfl (lv_at hl 0 rfl) ?_
  refine va_get (D := D) (ci := 0) (v := .ref pg) (C := RX0) (T := TX0) (N := 5) hx hb hts (fun w h => wm_c (wc_X0 w h)) hown hE.1 hP 1 rfl rfl 0 (by decide) (hts (.fieldLink RX0 20 "WornLines$Layout" "programme" "LWornLines$Programme;") (wm_c hw_312)) (fun _ h9 => h9) rfl dX0_make_22 ?_
  refine va_get (D := D) (ci := 2) (v := .int (Pln)) (C := RX2) (T := TX2) (N := 17) hx hb hts (fun w h => wm_c (wc_X2 w h)) hown hE.1 (hCW hS) 0 rfl rfl 9 (by decide) (hts (.fieldLink RX0 30 "WornLines$Programme" "lines" "I") (wm_c hw_617)) (fun _ h9 => h9) rfl dX0_make_25 ?_
  obtain ⟨h_1, hw⟩ := hw
  refine kg_ald hx hb hE hP 3 rfl (h_1) dX0_make_28 ?_
  refine lv_iconst (v := 0) hx hb dX0_make_29 (by decide) ?_
  refine kc_v1 (w1 := fun u => .inl (ak 0, 65, .inl u)) hP hD hS hA (4 + ((Pln).toNatClampNeg)) (gw_at 4 rfl (vp_lt h_1)) (fun u => rfl) (va_runS (As := [.ref (gq ((Pln).toNatClampNeg)), .int (0)]) (rest := []) ⟨hx, hb, hml, hown, hts⟩ (c_J7_fill_53178 l D ak ad _ (gq ((Pln).toNatClampNeg)) 65 (Lrow ((Pln).toNatClampNeg)) 0 _ hw) (va_cwS 2 hts gX0_make_J7_fill_53178 rfl rfl rfl (by decide +kernel) ⟨(Nat.le_trans (Nat.le_of_ble_eq_true rfl) hRf), (Nat.le_trans (Nat.le_of_ble_eq_true rfl) hRl)⟩) (kc_pre1 hE hT hP hD hS hA (4 + ((Pln).toNatClampNeg)) (gw_at 4 rfl (vp_lt h_1))) rfl rfl hl.1 rfl (lv_room (Nat.le_of_ble_eq_true rfl)) dX0_make_30 ⟨hRc.1, hRc.2⟩) (fun Ar_2 H locs hw hP hD hS => ?_)
  try dsimp -zeta only at hw
  try dsimp -zeta only at hP hD
  rw [show (wW_X0_make ak ad hl_ la gq pk Apk pg Lstuff Ltwins (va_cpy Apk Lpeak 0 0 16) Lrow).set (4 + ((Pln).toNatClampNeg)) (gq ((Pln).toNatClampNeg), .inl (ak 0, 65, .inl Ar_2)) = (wW_X0_make ak ad hl_ la gq pk Apk pg Lstuff Ltwins (va_cpy Apk Lpeak 0 0 16) (updR Lrow ((Pln).toNatClampNeg) Ar_2)) from gw_set 4 rfl (vp_lt h_1)] at hP hD
  refine lv_aload_n hx hb dX0_make_33 rfl (lv_at hl 0 rfl) ?_
  refine va_get (D := D) (ci := 0) (v := .ref pg) (C := RX0) (T := TX0) (N := 5) hx hb hts (fun w h => wm_c (wc_X0 w h)) hown hE.1 hP 1 rfl rfl 0 (by decide) (hts (.fieldLink RX0 20 "WornLines$Layout" "programme" "LWornLines$Programme;") (wm_c hw_312)) (fun _ h9 => h9) rfl dX0_make_34 ?_
  refine va_get (D := D) (ci := 2) (v := .int (Pln)) (C := RX2) (T := TX2) (N := 17) hx hb hts (fun w h => wm_c (wc_X2 w h)) hown hE.1 (hCW hS) 0 rfl rfl 9 (by decide) (hts (.fieldLink RX0 30 "WornLines$Programme" "lines" "I") (wm_c hw_617)) (fun _ h9 => h9) rfl dX0_make_37 ?_
  refine lv_iconst (v := 1) hx hb dX0_make_40 (by decide) ?_
  refine lv_isub hx hb dX0_make_41 ?_
  refine lv_istore_n (lv' := [(3, .int (Pln - 1)), (0, .ref hl_), (1, .ref pg), (2, .ref pk)]) hx hb dX0_make_42 rfl hl (by decide) rfl (fun ls hl => ?_)
  obtain ⟨n1_, hw⟩ := hw
  exact lp_X0_make_43 hx hb hown hts hml hE hT hA hRf hRl hRc hl_ la gq pg pa pk Apk Pst Pce Pgi Pln Pbears Pcosts hKT  Φ  kR85 n1_ pg Lstuff Ltwins (va_cpy Apk Lpeak 0 0 16) (updR Lrow ((Pln).toNatClampNeg) Ar_2) (Pln - 1) _ _ _ hw hP hD hS (lv_sub hl [1, 0] rfl)
set_option maxHeartbeats 4000000 in
set_option maxRecDepth 100000 in
theorem c_X0_make (l : Launch) (D : va_G) (ak : Nat → ClassId) (ad : Nat → Nat) (sz : Nat) (hl_ : Nat) (la : Nat → Nat) (gq : Nat → Nat) (pg : Nat) (pa : Nat → Nat) (pk : Nat) (Apk : Nat → Int32) (Lpg : Nat) (Lstuff : Int32) (Ltwins : Int32) (Lpeak : Nat → Int32) (Lrow : Nat → Nat → Int32) (Pst : Int32) (Pce : Int32) (Pgi : Int32) (Pln : Int32) (Pbears : Nat → Int32) (Pcosts : Nat → Int32) (Φ : Nat → Int32 → Int32 → (Nat → Int32) → (Nat → Nat → Int32) → Prop) (hf : wp_X0_make Apk Pst Pln Pbears Pcosts pg Lpg Lstuff Ltwins Lpeak Lrow Φ) : Met l yX0_make wsX0_make ({ frames := 1, cells := 0, slots := 0, locals := 40 }) (cPreK D ak ad [.ref hl_, .ref pg, .ref pk] ((wW_X0_make ak ad hl_ la gq pk Apk Lpg Lstuff Ltwins Lpeak Lrow)) sz ((wK_X0_make ak ad pg pa Pst Pce Pgi Pln Pbears Pcosts))) (cV D (S := (Nat) × (Int32) × (Int32) × (Nat → Int32) × (Nat → Nat → Int32)) (fun (u : (Nat) × (Int32) × (Int32) × (Nat → Int32) × (Nat → Nat → Int32)) => Φ u.1 u.2.1 u.2.2.1 u.2.2.2.1 u.2.2.2.2) (fun u => (wW_X0_make ak ad hl_ la gq pk Apk u.1 u.2.1 u.2.2.1 u.2.2.2.1 u.2.2.2.2)) ((wW_X0_make ak ad hl_ la gq pk Apk Lpg Lstuff Ltwins Lpeak Lrow)) sz) 0 0 (va_A ((wW_X0_make ak ad hl_ la gq pk Apk Lpg Lstuff Ltwins Lpeak Lrow)) sz) := by
  refine Met.ofW (cc := cX0_make) (maxL := 5) (ret := none) (by decide) rfl ?_
  intro p e s m args below meth c s₁ B hml hv
  obtain ⟨⟨rfl, hsz, hP, hE, hD0, hT⟩, hKT⟩ := hv
  have hx := B.exec
  have hb := B.bytes
  have hr := B.returns
  have hts := atoms_spec (ws := wsX0_make) B.pre
  have hown : s.vm.findClass RX0 = some m.cls := findClass_of_methodNamed B.named
  have hlocks := B.notSynchronized
  subst hsz
  have hD := hD0.self (sz := s.heap.size)
  generalize hAe : va_A ((wW_X0_make ak ad hl_ la gq pk Apk Lpg Lstuff Ltwins Lpeak Lrow)) s.heap.size = A at hD hT hKT ⊢
  have hA : ∀ q : Nat, s.heap.size ≤ q → A q := fun q h => by rw [← hAe]; exact Or.inr h
  have hS : va_S A s.heap s.heap [] := va_S.rf
  have hl := lv_entry ([.ref hl_, .ref pg, .ref pk]) (n := 5) (Nat.le_of_ble_eq_true rfl)
  rw [lg_entry_eq]
  generalize (lg_sl ([.ref hl_, .ref pg, .ref pk]) ++ List.replicate (5 - (lg_sl ([.ref hl_, .ref pg, .ref pk])).length) Slot.unset).toArray = ls at hl ⊢
  have hl : lv_has ls 5 [(0, .ref hl_), (1, .ref pg), (2, .ref pk)] := hl
  exact kj_X0_make_e hx hb hown hts hml hE hT hA (Nat.le_of_ble_eq_true rfl) (Nat.le_of_ble_eq_true rfl) ⟨Nat.le_of_ble_eq_true rfl, Nat.le_of_ble_eq_true rfl⟩ hl_ la gq pg pa pk Apk Pst Pce Pgi Pln Pbears Pcosts hKT Φ (fun Lpg Lstuff Ltwins Lpeak Lrow H locs ls hw hP hD hS => W.vret hx hb hr (fun t ht hW => ⟨⟨(Lpg, Lstuff, Ltwins, Lpeak, Lrow), rfl, hw, by rw [ht]; exact hP, by rw [hAe]; exact hD⟩, by rw [hAe]; exact hS.F ht⟩) hS.2.2 dX0_make_85) Lpg Lstuff Ltwins Lpeak Lrow _ _ _ hf hP hD hS hl
