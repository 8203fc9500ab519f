theorem dX0_leastCost_0 : decode cX0_leastCost 0 = .ok (.aload_n 0, 1) := by decide +kernel
theorem dX0_leastCost_1 : decode cX0_leastCost 1 = .ok (.getfield 17, 3) := by decide +kernel
theorem dX0_leastCost_4 : decode cX0_leastCost 4 = .ok (.iconst 0, 1) := by decide +kernel
theorem dX0_leastCost_5 : decode cX0_leastCost 5 = .ok (.aaload, 1) := by decide +kernel
theorem dX0_leastCost_6 : decode cX0_leastCost 6 = .ok (.iload_n 1, 1) := by decide +kernel
theorem dX0_leastCost_7 : decode cX0_leastCost 7 = .ok (.iaload, 1) := by decide +kernel
theorem dX0_leastCost_8 : decode cX0_leastCost 8 = .ok (.ldc 46, 2) := by decide +kernel
theorem dX0_leastCost_10 : decode cX0_leastCost 10 = .ok (.if_icmp .ge 14, 3) := by decide +kernel
theorem dX0_leastCost_24 : decode cX0_leastCost 24 = .ok (.iconst (-1), 1) := by decide +kernel
theorem dX0_leastCost_13 : decode cX0_leastCost 13 = .ok (.aload_n 0, 1) := by decide +kernel
theorem dX0_leastCost_14 : decode cX0_leastCost 14 = .ok (.getfield 17, 3) := by decide +kernel
theorem dX0_leastCost_17 : decode cX0_leastCost 17 = .ok (.iconst 0, 1) := by decide +kernel
theorem dX0_leastCost_18 : decode cX0_leastCost 18 = .ok (.aaload, 1) := by decide +kernel
theorem dX0_leastCost_19 : decode cX0_leastCost 19 = .ok (.iload_n 1, 1) := by decide +kernel
theorem dX0_leastCost_20 : decode cX0_leastCost 20 = .ok (.iaload, 1) := by decide +kernel
theorem dX0_leastCost_21 : decode cX0_leastCost 21 = .ok (.goto 4, 3) := by decide +kernel
theorem dX0_leastCost_25 : decode cX0_leastCost 25 = .ok (.ireturn, 1) := by decide +kernel
theorem dX0_find_31 : decode cX0_find 31 = .ok (.iload 5, 2) := by decide +kernel
theorem dX0_find_33 : decode cX0_find 33 = .ok (.iconst 4, 1) := by decide +kernel
theorem dX0_find_34 : decode cX0_find 34 = .ok (.if_icmp .gt 87, 3) := by decide +kernel
theorem dX0_find_121 : decode cX0_find 121 = .ok (.iinc 4 1, 3) := by decide +kernel
theorem dX0_find_124 : decode cX0_find 124 = .ok (.goto (-108), 3) := by decide +kernel
theorem dX0_find_37 : decode cX0_find 37 = .ok (.iload 5, 2) := by decide +kernel
theorem dX0_find_39 : decode cX0_find 39 = .ok (.iload_n 2, 1) := by decide +kernel
theorem dX0_find_40 : decode cX0_find 40 = .ok (.if_icmp .gt 81, 3) := by decide +kernel
theorem dX0_find_43 : decode cX0_find 43 = .ok (.aload_n 0, 1) := by decide +kernel
theorem dX0_find_44 : decode cX0_find 44 = .ok (.getfield 20, 3) := by decide +kernel
theorem dX0_find_47 : decode cX0_find 47 = .ok (.getfield 56, 3) := by decide +kernel
theorem dX0_find_50 : decode cX0_find 50 = .ok (.iload 4, 2) := by decide +kernel
theorem dX0_find_52 : decode cX0_find 52 = .ok (.iaload, 1) := by decide +kernel
theorem dX0_find_53 : decode cX0_find 53 = .ok (.iload 5, 2) := by decide +kernel
theorem dX0_find_55 : decode cX0_find 55 = .ok (.imul, 1) := by decide +kernel
theorem dX0_find_56 : decode cX0_find 56 = .ok (.aload_n 0, 1) := by decide +kernel
theorem dX0_find_57 : decode cX0_find 57 = .ok (.getfield 17, 3) := by decide +kernel
theorem dX0_find_60 : decode cX0_find 60 = .ok (.iload_n 1, 1) := by decide +kernel
theorem dX0_find_61 : decode cX0_find 61 = .ok (.iconst 1, 1) := by decide +kernel
theorem dX0_find_62 : decode cX0_find 62 = .ok (.iadd, 1) := by decide +kernel
theorem dX0_find_63 : decode cX0_find 63 = .ok (.aaload, 1) := by decide +kernel
theorem dX0_find_64 : decode cX0_find 64 = .ok (.iload_n 2, 1) := by decide +kernel
theorem dX0_find_65 : decode cX0_find 65 = .ok (.iload 5, 2) := by decide +kernel
theorem dX0_find_67 : decode cX0_find 67 = .ok (.isub, 1) := by decide +kernel
theorem dX0_find_68 : decode cX0_find 68 = .ok (.iaload, 1) := by decide +kernel
theorem dX0_find_69 : decode cX0_find 69 = .ok (.iadd, 1) := by decide +kernel
theorem dX0_find_70 : decode cX0_find 70 = .ok (.istore 6, 2) := by decide +kernel
theorem dX0_find_72 : decode cX0_find 72 = .ok (.aload_n 0, 1) := by decide +kernel
theorem dX0_find_73 : decode cX0_find 73 = .ok (.getfield 20, 3) := by decide +kernel
theorem dX0_find_76 : decode cX0_find 76 = .ok (.getfield 59, 3) := by decide +kernel
theorem dX0_find_79 : decode cX0_find 79 = .ok (.iload 4, 2) := by decide +kernel
theorem dX0_find_81 : decode cX0_find 81 = .ok (.iaload, 1) := by decide +kernel
theorem dX0_find_82 : decode cX0_find 82 = .ok (.iload 5, 2) := by decide +kernel
theorem dX0_find_84 : decode cX0_find 84 = .ok (.imul, 1) := by decide +kernel
theorem dX0_find_85 : decode cX0_find 85 = .ok (.aload_n 0, 1) := by decide +kernel
theorem dX0_find_86 : decode cX0_find 86 = .ok (.getfield 9, 3) := by decide +kernel
theorem dX0_find_89 : decode cX0_find 89 = .ok (.iload_n 1, 1) := by decide +kernel
theorem dX0_find_90 : decode cX0_find 90 = .ok (.iaload, 1) := by decide +kernel
theorem dX0_find_91 : decode cX0_find 91 = .ok (.if_icmp .lt 24, 3) := by decide +kernel
theorem dX0_find_115 : decode cX0_find 115 = .ok (.iinc 5 1, 3) := by decide +kernel
theorem dX0_find_118 : decode cX0_find 118 = .ok (.goto (-87), 3) := by decide +kernel
theorem dX0_find_94 : decode cX0_find 94 = .ok (.iload 6, 2) := by decide +kernel
theorem dX0_find_96 : decode cX0_find 96 = .ok (.iload_n 3, 1) := by decide +kernel
theorem dX0_find_97 : decode cX0_find 97 = .ok (.if_icmp .ge 18, 3) := by decide +kernel
theorem dX0_find_100 : decode cX0_find 100 = .ok (.iload 6, 2) := by decide +kernel
theorem dX0_find_102 : decode cX0_find 102 = .ok (.istore_n 3, 1) := by decide +kernel
theorem dX0_find_103 : decode cX0_find 103 = .ok (.aload_n 0, 1) := by decide +kernel
theorem dX0_find_104 : decode cX0_find 104 = .ok (.iload 4, 2) := by decide +kernel
theorem dX0_find_106 : decode cX0_find 106 = .ok (.putfield 50, 3) := by decide +kernel
theorem dX0_find_109 : decode cX0_find 109 = .ok (.aload_n 0, 1) := by decide +kernel
theorem dX0_find_110 : decode cX0_find 110 = .ok (.iload 5, 2) := by decide +kernel
theorem dX0_find_112 : decode cX0_find 112 = .ok (.putfield 47, 3) := by decide +kernel
theorem dX0_find_16 : decode cX0_find 16 = .ok (.iload 4, 2) := by decide +kernel
theorem dX0_find_18 : decode cX0_find 18 = .ok (.aload_n 0, 1) := by decide +kernel
theorem dX0_find_19 : decode cX0_find 19 = .ok (.getfield 20, 3) := by decide +kernel
theorem dX0_find_22 : decode cX0_find 22 = .ok (.getfield 53, 3) := by decide +kernel
theorem dX0_find_25 : decode cX0_find 25 = .ok (.if_icmp .ge 102, 3) := by decide +kernel
theorem dX0_find_127 : decode cX0_find 127 = .ok (.iload_n 3, 1) := by decide +kernel
theorem dX0_find_28 : decode cX0_find 28 = .ok (.iconst 1, 1) := by decide +kernel
theorem dX0_find_29 : decode cX0_find 29 = .ok (.istore 5, 2) := by decide +kernel
theorem dX0_find_0 : decode cX0_find 0 = .ok (.ldc 46, 2) := by decide +kernel
theorem dX0_find_2 : decode cX0_find 2 = .ok (.istore_n 3, 1) := by decide +kernel
theorem dX0_find_3 : decode cX0_find 3 = .ok (.aload_n 0, 1) := by decide +kernel
theorem dX0_find_4 : decode cX0_find 4 = .ok (.iconst (-1), 1) := by decide +kernel
theorem dX0_find_5 : decode cX0_find 5 = .ok (.putfield 50, 3) := by decide +kernel
theorem dX0_find_8 : decode cX0_find 8 = .ok (.aload_n 0, 1) := by decide +kernel
theorem dX0_find_9 : decode cX0_find 9 = .ok (.iconst 0, 1) := by decide +kernel
theorem dX0_find_10 : decode cX0_find 10 = .ok (.putfield 47, 3) := by decide +kernel
theorem dX0_find_13 : decode cX0_find 13 = .ok (.iconst 0, 1) := by decide +kernel
theorem dX0_find_14 : decode cX0_find 14 = .ok (.istore 4, 2) := by decide +kernel
theorem dX0_find_128 : decode cX0_find 128 = .ok (.ireturn, 1) := by decide +kernel
theorem dX0_choose_5 : decode cX0_choose 5 = .ok (.iload 4, 2) := by decide +kernel
theorem dX0_choose_7 : decode cX0_choose 7 = .ok (.iload_n 2, 1) := by decide +kernel
theorem dX0_choose_8 : decode cX0_choose 8 = .ok (.if_icmp .gt 28, 3) := by decide +kernel
theorem dX0_choose_11 : decode cX0_choose 11 = .ok (.iload_n 3, 1) := by decide +kernel
theorem dX0_choose_12 : decode cX0_choose 12 = .ok (.ifCond .lt 24, 3) := by decide +kernel
theorem dX0_choose_15 : decode cX0_choose 15 = .ok (.aload_n 0, 1) := by decide +kernel
theorem dX0_choose_16 : decode cX0_choose 16 = .ok (.iload 4, 2) := by decide +kernel
theorem dX0_choose_18 : decode cX0_choose 18 = .ok (.iload_n 3, 1) := by decide +kernel
set_option maxRecDepth 20000 in
theorem ggX0_choose_X0_find : GoodIn wsX0_choose wsX0_find := gup gc_X0_find
set_option maxRecDepth 20000 in
theorem gX0_choose_X0_find : GoodIn wsX0_choose (wsV RX0 42 RX0 yX0_find wsX0_find) := gup (glV hw_612 hw_613 hw_614 hw_615 gc_X0_find)
theorem dX0_choose_19 : decode cX0_choose 19 = .ok (.invokevirtual 42, 3) := by decide +kernel
theorem dX0_choose_22 : decode cX0_choose 22 = .ok (.pop, 1) := by decide +kernel
theorem dX0_choose_23 : decode cX0_choose 23 = .ok (.iload_n 3, 1) := by decide +kernel
theorem dX0_choose_24 : decode cX0_choose 24 = .ok (.aload_n 0, 1) := by decide +kernel
theorem dX0_choose_25 : decode cX0_choose 25 = .ok (.getfield 47, 3) := by decide +kernel
theorem dX0_choose_28 : decode cX0_choose 28 = .ok (.isub, 1) := by decide +kernel
theorem dX0_choose_29 : decode cX0_choose 29 = .ok (.istore_n 3, 1) := by decide +kernel
theorem dX0_choose_30 : decode cX0_choose 30 = .ok (.iinc 4 1, 3) := by decide +kernel
theorem dX0_choose_33 : decode cX0_choose 33 = .ok (.goto (-28), 3) := by decide +kernel
theorem dX0_choose_0 : decode cX0_choose 0 = .ok (.iload_n 1, 1) := by decide +kernel
theorem dX0_choose_1 : decode cX0_choose 1 = .ok (.istore_n 3, 1) := by decide +kernel
theorem dX0_choose_2 : decode cX0_choose 2 = .ok (.iconst 0, 1) := by decide +kernel
theorem dX0_choose_3 : decode cX0_choose 3 = .ok (.istore 4, 2) := by decide +kernel
theorem dX0_choose_36 : decode cX0_choose 36 = .ok (.return_, 1) := by decide +kernel
def lob (la : Nat → Nat) (x0 : Nat) (x3 x4 : Int32) : List Value := [.ref x0, .ref (la 0), .ref (la 1), .int x3, .int x4]

def wW_X0_leastCost (ak : Nat → ClassId) (ad : Nat → Nat) (hl_ : Nat) (la : Nat → Nat) (gq : Nat → Nat) (pg : Nat) (Lstuff : Int32) (Ltwins : Int32) (Lrow : Nat → Nat → Int32) : va_W := ([(hl_, .inr (0, lob la (pg) (Lstuff) (Ltwins))), ((la 1), .inl (ak 6, 17, .inr (.inr (.inr (.inr (grA gq))))))] ++ gRows ak gq Lrow)
def wp_X0_leastCost (Lrow : Nat → Nat → Int32) (xr : Int32)  (Φ : Int32 → Prop) : Prop := vp_in xr 65 ∧ (1000000000 ≤ (Lrow 0 (xr).toNatClampNeg) → Φ (-1) ) ∧ (¬ 1000000000 ≤ (Lrow 0 (xr).toNatClampNeg) → vp_in xr 65 ∧ Φ (Lrow 0 (xr).toNatClampNeg) )
set_option maxHeartbeats 4000000 in
set_option maxRecDepth 100000 in
theorem kj_X0_leastCost_e {p : Program} {l : Launch} {e : Env} {R : Room} {s : State} {m : MethodId} {args : Array Value} {below : List Frame} {meth : Method} {c : Code} {cells slots : Nat} {Q : State → Prop} {A : Nat → Prop} {D : va_G} {ak : Nat → ClassId} {ad : Nat → Nat} (hx : p.tables.exec = Jvm.exec) (hb : c.code = cX0_leastCost) (hown : s.vm.findClass RX0 = some m.cls) (hts : ∀ w ∈ wsX0_leastCost, w.before args s = true) (hml : c.maxLocals = 2) (hE : EV D ak s) (hT : ST D ak ad A s s.heap) (hA : ∀ q, s.heap.size ≤ q → A q) (hl_ : Nat) (la : Nat → Nat) (gq : Nat → Nat) (pg : Nat) (Lstuff : Int32) (Ltwins : Int32) (Lrow : Nat → Nat → Int32) (xr : Int32)  (Φ : Int32 → Prop)
    (kR25 : ∀ (r : Int32)  (H : Heap) (locs : List Loc) (ls : Array Slot), Φ r  → va_P D vwCl (wW_X0_leastCost ak ad hl_ la gq pg Lstuff Ltwins Lrow) H → va_D A (wW_X0_leastCost ak ad hl_ la gq pg Lstuff Ltwins Lrow) → va_S A s.heap H locs → W p l e R s m args below meth c H locs cells slots Q (F0 m 25 ls [.int r]))
    : ∀  (H : Heap) (locs : List Loc) (ls : Array Slot), wp_X0_leastCost Lrow xr  Φ → va_P D vwCl (wW_X0_leastCost ak ad hl_ la gq pg Lstuff Ltwins Lrow) H → va_D A (wW_X0_leastCost ak ad hl_ la gq pg Lstuff Ltwins Lrow) → va_S A s.heap H locs → lv_has ls 2 [(0, .ref hl_), (1, .int (xr))] → W p l e R s m args below meth c H locs cells slots Q (F0 m 0 ls ([])) := by
  intro  H locs ls hw hP hD hS hl
  delta wp_X0_leastCost at hw
  refine lv_aload_n hx hb dX0_leastCost_0 rfl (lv_at hl 0 rfl) ?_
  refine va_get (D := D) (ci := 0) (v := .ref (la 1)) (C := RX0) (T := TX0) (N := 5) hx hb hts (fun w h => wm_c (wc_X0 w h)) hown hE.1 hP 0 rfl rfl 2 (by decide) (hts (.fieldLink RX0 17 "WornLines$Layout" "least" "[[I") (wm_c hw_311)) (fun _ h9 => h9) rfl dX0_leastCost_1 ?_
  refine lv_iconst (v := 0) hx hb dX0_leastCost_4 (by decide) ?_
  refine kg_ald hx hb hE hP 1 rfl (by unfold vp_in; decide) dX0_leastCost_5 ?_
  refine W.eq (g2 := F0 m 6 ls (.ref (gq 0) :: [])) rfl ?_
  refine lv_iload_n hx hb dX0_leastCost_6 rfl (lv_at hl 1 rfl) ?_
  obtain ⟨h_1, hw⟩ := hw
  refine va_iald hx hb hE.1 hP (2 + 0) 0 (gw_at 2 rfl (by decide)) rfl (h_1) dX0_leastCost_7 ?_
  refine lv_ldc hx hb hown (hts (.constant RX0 46 (1000000000)) (wm_c hw_606)) dX0_leastCost_8 ?_
  refine lv_icmp_ge (tgt := 24) hx hb dX0_leastCost_10 (by decide) (fun c_2 => ?_) (fun c_2 => ?_)
  · replace hw := hw.1 c_2
    refine lv_iconst (v := (-1)) hx hb dX0_leastCost_24 (by decide) ?_
    exact kR25 (-1)  _ _ _ hw hP hD hS
  · replace hw := hw.2 c_2
    refine lv_aload_n hx hb dX0_leastCost_13 rfl (lv_at hl 0 rfl) ?_
    refine va_get (D := D) (ci := 0) (v := .ref (la 1)) (C := RX0) (T := TX0) (N := 5) hx hb hts (fun w h => wm_c (wc_X0 w h)) hown hE.1 hP 0 rfl rfl 2 (by decide) (hts (.fieldLink RX0 17 "WornLines$Layout" "least" "[[I") (wm_c hw_311)) (fun _ h9 => h9) rfl dX0_leastCost_14 ?_
    refine lv_iconst (v := 0) hx hb dX0_leastCost_17 (by decide) ?_
    refine kg_ald hx hb hE hP 1 rfl (by unfold vp_in; decide) dX0_leastCost_18 ?_
    refine W.eq (g2 := F0 m 19 ls (.ref (gq 0) :: [])) rfl ?_
    refine lv_iload_n hx hb dX0_leastCost_19 rfl (lv_at hl 1 rfl) ?_
    obtain ⟨h_3, hw⟩ := hw
    refine va_iald hx hb hE.1 hP (2 + 0) 0 (gw_at 2 rfl (by decide)) rfl (h_3) dX0_leastCost_20 ?_
    refine lv_goto (tgt := 25) hx hb dX0_leastCost_21 (by decide) ?_
    exact kR25 (Lrow 0 (xr).toNatClampNeg)  _ _ _ hw hP hD hS
set_option maxHeartbeats 4000000 in
set_option maxRecDepth 100000 in
theorem c_X0_leastCost (l : Launch) (D : va_G) (ak : Nat → ClassId) (ad : Nat → Nat) (sz : Nat) (hl_ : Nat) (la : Nat → Nat) (gq : Nat → Nat) (pg : Nat) (Lstuff : Int32) (Ltwins : Int32) (Lrow : Nat → Nat → Int32) (xr : Int32) (Φ : Int32 → Prop) (hf : wp_X0_leastCost Lrow xr Φ) : Met l yX0_leastCost wsX0_leastCost ({ frames := 0, cells := 0, slots := 0, locals := 0 }) (cPre D ak ad [.ref hl_, .int (xr)] ((wW_X0_leastCost ak ad hl_ la gq pg Lstuff Ltwins Lrow)) sz) (cI D (S := Unit) (fun (r : Int32) (u : Unit) => Φ r ) (fun u => (wW_X0_leastCost ak ad hl_ la gq pg Lstuff Ltwins Lrow)) ((wW_X0_leastCost ak ad hl_ la gq pg Lstuff Ltwins Lrow)) sz) 0 0 (va_A ((wW_X0_leastCost ak ad hl_ la gq pg Lstuff Ltwins Lrow)) sz) := by
  refine Met.ofW (cc := cX0_leastCost) (maxL := 2) (ret := (some .int)) (by decide) rfl ?_
  intro p e s m args below meth c s₁ B hml hv
  obtain ⟨rfl, hsz, hP, hE, hD0, hT⟩ := hv
  have hx := B.exec
  have hb := B.bytes
  have hr := B.returns
  have hts := atoms_spec (ws := wsX0_leastCost) B.pre
  have hown : s.vm.findClass RX0 = some m.cls := findClass_of_methodNamed B.named
  have hlocks := B.notSynchronized
  subst hsz
  have hD := hD0.self (sz := s.heap.size)
  generalize hAe : va_A ((wW_X0_leastCost ak ad hl_ la gq pg Lstuff Ltwins Lrow)) s.heap.size = A at hD hT ⊢
  have hA : ∀ q : Nat, s.heap.size ≤ q → A q := fun q h => by rw [← hAe]; exact Or.inr h
  have hS : va_S A s.heap s.heap [] := va_S.rf
  have hl := lv_entry ([.ref hl_, .int (xr)]) (n := 2) (Nat.le_of_ble_eq_true rfl)
  rw [lg_entry_eq]
  generalize (lg_sl ([.ref hl_, .int (xr)]) ++ List.replicate (2 - (lg_sl ([.ref hl_, .int (xr)])).length) Slot.unset).toArray = ls at hl ⊢
  have hl : lv_has ls 2 [(0, .ref hl_), (1, .int (xr))] := hl
  exact kj_X0_leastCost_e hx hb hown hts hml hE hT hA hl_ la gq pg Lstuff Ltwins Lrow xr Φ (fun r  H locs ls hw hP hD hS => W.iret (v := r) hx hb hr (fun t ht hW => ⟨⟨r, (), rfl, hw, by rw [ht]; exact hP, by rw [hAe]; exact hD⟩, by rw [hAe]; exact hS.F ht⟩) hS.2.2 dX0_leastCost_25)  _ _ _ hf hP hD hS hl

def wW_X0_find (ak : Nat → ClassId) (ad : Nat → Nat) (hl_ : Nat) (la : Nat → Nat) (gq : Nat → Nat) (pg : Nat) (Lstuff : Int32) (Ltwins : Int32) (Lpeak : Nat → Int32) (Lrow : Nat → Nat → Int32) : va_W := ([(hl_, .inr (0, lob la (pg) (Lstuff) (Ltwins))), ((la 0), .inl (ak 0, 16, .inl (Lpeak))), ((la 1), .inl (ak 6, 17, .inr (.inr (.inr (.inr (grA gq))))))] ++ gRows ak gq Lrow)
def wK_X0_find (ak : Nat → ClassId) (ad : Nat → Nat) (pg : Nat) (pa : Nat → Nat) (Pst : Int32) (Pce : Int32) (Pgi : Int32) (Pln : Int32) (Pbears : Nat → Int32) (Pcosts : Nat → Int32) : va_W := [(pg, .inr (2, pob pa (Pst) (Pce) (Pgi) (Pln))), ((pa 0), .inl (ak 0, 4, .inl (Pbears))), ((pa 1), .inl (ak 0, 4, .inl (Pcosts)))]
def lb_X0_find_31 (Lpeak : Nat → Int32) (Lrow : Nat → Nat → Int32) (Pst : Int32) (Pbears : Nat → Int32) (Pcosts : Nat → Int32) (xl : Int32) (xr : Int32) (κ16 : Int32 → Int32 → Int32 → Int32 → Prop) (Φ : Int32 → Int32 → Int32 → Prop) (back : Int32 → Int32 → Int32 → Int32 → Int32 → Prop) (Lstuff : Int32) (Ltwins : Int32) (l3 : Int32) (l4 : Int32) (l5 : Int32) : Prop := (4 < l5 → κ16 Lstuff Ltwins l3 (l4 + 1)) ∧ (¬ 4 < l5 → (xr < l5 → κ16 Lstuff Ltwins l3 (l4 + 1)) ∧ (¬ xr < l5 → vp_in l4 4 ∧ vp_in (xl + 1) 17 ∧ vp_in (xr - l5) 65 ∧ vp_in l4 4 ∧ vp_in xl 16 ∧ (((Pbears (l4).toNatClampNeg) * l5) < (Lpeak (xl).toNatClampNeg) → back Lstuff Ltwins l3 l4 (l5 + 1)) ∧ (¬ ((Pbears (l4).toNatClampNeg) * l5) < (Lpeak (xl).toNatClampNeg) → (l3 ≤ (((Pcosts (l4).toNatClampNeg) * l5) + (Lrow ((xl + 1).toNatClampNeg) (xr - l5).toNatClampNeg)) → back Lstuff Ltwins l3 l4 (l5 + 1)) ∧ (¬ l3 ≤ (((Pcosts (l4).toNatClampNeg) * l5) + (Lrow ((xl + 1).toNatClampNeg) (xr - l5).toNatClampNeg)) → back l4 l5 (((Pcosts (l4).toNatClampNeg) * l5) + (Lrow ((xl + 1).toNatClampNeg) (xr - l5).toNatClampNeg)) l4 (l5 + 1)))))
def lf_X0_find_31 (Lpeak : Nat → Int32) (Lrow : Nat → Nat → Int32) (Pst : Int32) (Pbears : Nat → Int32) (Pcosts : Nat → Int32) (xl : Int32) (xr : Int32) (κ16 : Int32 → Int32 → Int32 → Int32 → Prop) (Φ : Int32 → Int32 → Int32 → Prop) : Nat → Int32 → Int32 → Int32 → Int32 → Int32 → Prop
  | 0, _, _, _, _, _ => False
  | n_ + 1, Lstuff, Ltwins, l3, l4, l5 => lb_X0_find_31 Lpeak Lrow Pst Pbears Pcosts xl xr κ16 Φ (lf_X0_find_31 Lpeak Lrow Pst Pbears Pcosts xl xr κ16 Φ n_) Lstuff Ltwins l3 l4 l5
theorem li_X0_find_31 (Lpeak : Nat → Int32) (Lrow : Nat → Nat → Int32) (Pst : Int32) (Pbears : Nat → Int32) (Pcosts : Nat → Int32) (xl : Int32) (xr : Int32) (κ16 : Int32 → Int32 → Int32 → Int32 → Prop) (Φ : Int32 → Int32 → Int32 → Prop) (Inv : Int32 → Int32 → Int32 → Int32 → Int32 → Prop) (mu : Int32 → Int32 → Int32 → Int32 → Int32 → Nat) (hs : ∀ (back : Int32 → Int32 → Int32 → Int32 → Int32 → Prop) (Lstuff : Int32) (Ltwins : Int32) (l3 : Int32) (l4 : Int32) (l5 : Int32), Inv Lstuff Ltwins l3 l4 l5 → (∀ (Lstuff' : Int32) (Ltwins' : Int32) (l3' : Int32) (l4' : Int32) (l5' : Int32), Inv Lstuff' Ltwins' l3' l4' l5' → mu Lstuff' Ltwins' l3' l4' l5' < mu Lstuff Ltwins l3 l4 l5 → back Lstuff' Ltwins' l3' l4' l5') → lb_X0_find_31 Lpeak Lrow Pst Pbears Pcosts xl xr κ16 Φ back Lstuff Ltwins l3 l4 l5) : ∀ (n_ : Nat) (Lstuff : Int32) (Ltwins : Int32) (l3 : Int32) (l4 : Int32) (l5 : Int32), Inv Lstuff Ltwins l3 l4 l5 → mu Lstuff Ltwins l3 l4 l5 < n_ → lf_X0_find_31 Lpeak Lrow Pst Pbears Pcosts xl xr κ16 Φ n_ Lstuff Ltwins l3 l4 l5 := by
  intro n_
  induction n_ with
  | zero => intro Lstuff Ltwins l3 l4 l5 _ h; exact absurd h (Nat.not_lt_zero _)
  | succ n_ ih => intro Lstuff Ltwins l3 l4 l5 hI hm; exact hs _ Lstuff Ltwins l3 l4 l5 hI (fun Lstuff' Ltwins' l3' l4' l5' h1 h2 => ih Lstuff' Ltwins' l3' l4' l5' h1 (by omega))
set_option maxHeartbeats 4000000 in
set_option maxRecDepth 100000 in
theorem lp_X0_find_31 {p : Program} {l : Launch} {e : Env} {R : Room} {s : State} {m : MethodId} {args : Array Value} {below : List Frame} {meth : Method} {c : Code} {cells slots : Nat} {Q : State → Prop} {A : Nat → Prop} {D : va_G} {ak : Nat → ClassId} {ad : Nat → Nat} (hx : p.tables.exec = Jvm.exec) (hb : c.code = cX0_find) (hown : s.vm.findClass RX0 = some m.cls) (hts : ∀ w ∈ wsX0_find, w.before args s = true) (hml : c.maxLocals = 7) (hE : EV D ak s) (hT : ST D ak ad A s s.heap) (hA : ∀ q, s.heap.size ≤ q → A q) (hl_ : Nat) (la : Nat → Nat) (gq : Nat → Nat) (pg : Nat) (pa : Nat → Nat) (Lpeak : Nat → Int32) (Lrow : Nat → Nat → Int32) (Pst : Int32) (Pce : Int32) (Pgi : Int32) (Pln : Int32) (Pbears : Nat → Int32) (Pcosts : Nat → Int32) (xl : Int32) (xr : Int32) (hKT : KT D A (wK_X0_find ak ad pg pa Pst Pce Pgi Pln Pbears Pcosts) s.heap) (κ16 : Int32 → Int32 → Int32 → Int32 → Prop) (Φ : Int32 → Int32 → Int32 → Prop)
    (kk16 : ∀ (Lstuff : Int32) (Ltwins : Int32) (l3 : Int32) (l4 : Int32) (H : Heap) (locs : List Loc) (ls : Array Slot), κ16 Lstuff Ltwins l3 l4 → va_P D vwCl (wW_X0_find ak ad hl_ la gq pg Lstuff Ltwins Lpeak Lrow) H → va_D A (wW_X0_find ak ad hl_ la gq pg Lstuff Ltwins Lpeak Lrow) → va_S A s.heap H locs → lv_has ls 7 [(0, .ref hl_), (1, .int (xl)), (2, .int (xr)), (3, .int (l3)), (4, .int (l4))] → W p l e R s m args below meth c H locs cells slots Q (F0 m 16 ls ([])))
    (kR128 : ∀ (r : Int32) (Lstuff : Int32) (Ltwins : Int32) (H : Heap) (locs : List Loc) (ls : Array Slot), Φ r Lstuff Ltwins → va_P D vwCl (wW_X0_find ak ad hl_ la gq pg Lstuff Ltwins Lpeak Lrow) H → va_D A (wW_X0_find ak ad hl_ la gq pg Lstuff Ltwins Lpeak Lrow) → va_S A s.heap H locs → W p l e R s m args below meth c H locs cells slots Q (F0 m 128 ls [.int r]))
    : ∀ (n_ : Nat) (Lstuff : Int32) (Ltwins : Int32) (l3 : Int32) (l4 : Int32) (l5 : Int32) (H : Heap) (locs : List Loc) (ls : Array Slot), lf_X0_find_31 Lpeak Lrow Pst Pbears Pcosts xl xr κ16 Φ n_ Lstuff Ltwins l3 l4 l5 → va_P D vwCl (wW_X0_find ak ad hl_ la gq pg Lstuff Ltwins Lpeak Lrow) H → va_D A (wW_X0_find ak ad hl_ la gq pg Lstuff Ltwins Lpeak Lrow) → va_S A s.heap H locs → lv_has ls 7 [(0, .ref hl_), (1, .int (xl)), (2, .int (xr)), (3, .int (l3)), (4, .int (l4)), (5, .int (l5))] → W p l e R s m args below meth c H locs cells slots Q (F0 m 31 ls ([])) := by
  have hCW : ∀ {H : Heap} {locs : List Loc}, va_S A s.heap H locs → va_P D vwCl (wK_X0_find ak ad pg pa Pst Pce Pgi Pln Pbears Pcosts) H := fun hS => (hKT.kept hS.2.1).1
  intro n_
  induction n_ with
  | zero =>
    intro Lstuff Ltwins l3 l4 l5 H locs ls hw
    exact hw.elim
  | succ n_ ih =>
    intro Lstuff Ltwins l3 l4 l5 H locs ls hw hP hD hS hl
    have hw : lb_X0_find_31 Lpeak Lrow Pst Pbears Pcosts xl xr κ16 Φ (lf_X0_find_31 Lpeak Lrow Pst Pbears Pcosts xl xr κ16 Φ n_) Lstuff Ltwins l3 l4 l5 := hw
    delta lb_X0_find_31 at hw
    refine lv_iload hx hb dX0_find_31 (lv_at hl 5 rfl) ?_
    refine lv_iconst (v := 4) hx hb dX0_find_33 (by decide) ?_
    refine lv_icmp_gt (tgt := 121) hx hb dX0_find_34 (by decide) (fun c_2 => ?_) (fun c_2 => ?_)
    · replace hw := hw.1 c_2
      refine lv_iinc (v := (l4 + 1)) (lv' := [(4, .int (l4 + 1)), (0, .ref hl_), (1, .int (xl)), (2, .int (xr)), (3, .int (l3)), (5, .int (l5))]) hx hb dX0_find_121 hl (k := 4) rfl (rfl) (by decide) rfl (fun ls hl => ?_)
      refine lv_goto (tgt := 16) hx hb dX0_find_124 (by decide) ?_
      exact kk16 Lstuff Ltwins l3 (l4 + 1) _ _ _ hw hP hD hS (lv_sub hl [1, 2, 3, 4, 0] rfl)
    · replace hw := hw.2 c_2
      refine lv_iload hx hb dX0_find_37 (lv_at hl 5 rfl) ?_
      refine lv_iload_n hx hb dX0_find_39 rfl (lv_at hl 2 rfl) ?_
      refine lv_icmp_gt (tgt := 121) hx hb dX0_find_40 (by decide) (fun c_3 => ?_) (fun c_3 => ?_)
      · replace hw := hw.1 c_3
        refine lv_iinc (v := (l4 + 1)) (lv' := [(4, .int (l4 + 1)), (0, .ref hl_), (1, .int (xl)), (2, .int (xr)), (3, .int (l3)), (5, .int (l5))]) hx hb dX0_find_121 hl (k := 4) rfl (rfl) (by decide) rfl (fun ls hl => ?_)
        refine lv_goto (tgt := 16) hx hb dX0_find_124 (by decide) ?_
        exact kk16 Lstuff Ltwins l3 (l4 + 1) _ _ _ hw hP hD hS (lv_sub hl [1, 2, 3, 4, 0] rfl)
      · replace hw := hw.2 c_3
        refine lv_aload_n hx hb dX0_find_43 rfl (lv_at hl 0 rfl) ?_
        refine va_get (D := D) (ci := 0) (v := .ref pg) (C := RX0) (T := TX0) (N := 5) hx hb hts (fun w h => wm_c (wc_X0 w h)) hown hE.1 hP 0 rfl rfl 0 (by decide) (hts (.fieldLink RX0 20 "WornLines$Layout" "programme" "LWornLines$Programme;") (wm_c hw_312)) (fun _ h9 => h9) rfl dX0_find_44 ?_
        refine va_get (D := D) (ci := 2) (v := .ref (pa 1)) (C := RX2) (T := TX2) (N := 17) hx hb hts (fun w h => wm_c (wc_X2 w h)) hown hE.1 (hCW hS) 0 rfl rfl 2 (by decide) (hts (.fieldLink RX0 56 "WornLines$Programme" "costs" "[I") (wm_c hw_607)) (fun _ h9 => h9) rfl dX0_find_47 ?_
        refine lv_iload hx hb dX0_find_50 (lv_at hl 4 rfl) ?_
        obtain ⟨h_4, hw⟩ := hw
        refine va_iald hx hb hE.1 (hCW hS) 2 0 rfl rfl (h_4) dX0_find_52 ?_
        refine lv_iload hx hb dX0_find_53 (lv_at hl 5 rfl) ?_
        refine lv_imul hx hb dX0_find_55 ?_
        refine lv_aload_n hx hb dX0_find_56 rfl (lv_at hl 0 rfl) ?_
        refine va_get (D := D) (ci := 0) (v := .ref (la 1)) (C := RX0) (T := TX0) (N := 5) hx hb hts (fun w h => wm_c (wc_X0 w h)) hown hE.1 hP 0 rfl rfl 2 (by decide) (hts (.fieldLink RX0 17 "WornLines$Layout" "least" "[[I") (wm_c hw_311)) (fun _ h9 => h9) rfl dX0_find_57 ?_
        refine lv_iload_n hx hb dX0_find_60 rfl (lv_at hl 1 rfl) ?_
        refine lv_iconst (v := 1) hx hb dX0_find_61 (by decide) ?_
        refine lv_iadd hx hb dX0_find_62 ?_
        obtain ⟨h_5, hw⟩ := hw
        refine kg_ald hx hb hE hP 2 rfl (h_5) dX0_find_63 ?_
        refine lv_iload_n hx hb dX0_find_64 rfl (lv_at hl 2 rfl) ?_
        refine lv_iload hx hb dX0_find_65 (lv_at hl 5 rfl) ?_
        refine lv_isub hx hb dX0_find_67 ?_
        obtain ⟨h_6, hw⟩ := hw
        refine va_iald hx hb hE.1 hP (3 + ((xl + 1).toNatClampNeg)) 0 (gw_at 3 rfl (vp_lt h_5)) rfl (h_6) dX0_find_68 ?_
        refine lv_iadd hx hb dX0_find_69 ?_
        refine lv_istore (lv' := [(6, .int (((Pcosts (l4).toNatClampNeg) * l5) + (Lrow ((xl + 1).toNatClampNeg) (xr - l5).toNatClampNeg))), (0, .ref hl_), (1, .int (xl)), (2, .int (xr)), (3, .int (l3)), (4, .int (l4)), (5, .int (l5))]) hx hb dX0_find_70 hl (by decide) rfl (fun ls hl => ?_)
        refine lv_aload_n hx hb dX0_find_72 rfl (lv_at hl 1 rfl) ?_
        refine va_get (D := D) (ci := 0) (v := .ref pg) (C := RX0) (T := TX0) (N := 5) hx hb hts (fun w h => wm_c (wc_X0 w h)) hown hE.1 hP 0 rfl rfl 0 (by decide) (hts (.fieldLink RX0 20 "WornLines$Layout" "programme" "LWornLines$Programme;") (wm_c hw_312)) (fun _ h9 => h9) rfl dX0_find_73 ?_
        refine va_get (D := D) (ci := 2) (v := .ref (pa 0)) (C := RX2) (T := TX2) (N := 17) hx hb hts (fun w h => wm_c (wc_X2 w h)) hown hE.1 (hCW hS) 0 rfl rfl 1 (by decide) (hts (.fieldLink RX0 59 "WornLines$Programme" "bears" "[I") (wm_c hw_608)) (fun _ h9 => h9) rfl dX0_find_76 ?_
        refine lv_iload hx hb dX0_find_79 (lv_at hl 5 rfl) ?_
        obtain ⟨h_7, hw⟩ := hw
        refine va_iald hx hb hE.1 (hCW hS) 1 0 rfl rfl (h_7) dX0_find_81 ?_
        refine lv_iload hx hb dX0_find_82 (lv_at hl 6 rfl) ?_
        refine lv_imul hx hb dX0_find_84 ?_
        refine lv_aload_n hx hb dX0_find_85 rfl (lv_at hl 1 rfl) ?_
        refine va_get (D := D) (ci := 0) (v := .ref (la 0)) (C := RX0) (T := TX0) (N := 5) hx hb hts (fun w h => wm_c (wc_X0 w h)) hown hE.1 hP 0 rfl rfl 1 (by decide) (hts (.fieldLink RX0 9 "WornLines$Layout" "peak" "[I") (wm_c hw_309)) (fun _ h9 => h9) rfl dX0_find_86 ?_
        refine lv_iload_n hx hb dX0_find_89 rfl (lv_at hl 2 rfl) ?_
        obtain ⟨h_8, hw⟩ := hw
        refine va_iald hx hb hE.1 hP 1 0 rfl rfl (h_8) dX0_find_90 ?_
        refine lv_icmp_lt (tgt := 115) hx hb dX0_find_91 (by decide) (fun c_9 => ?_) (fun c_9 => ?_)
        · replace hw := hw.1 c_9
          refine lv_iinc (v := (l5 + 1)) (lv' := [(5, .int (l5 + 1)), (6, .int (((Pcosts (l4).toNatClampNeg) * l5) + (Lrow ((xl + 1).toNatClampNeg) (xr - l5).toNatClampNeg))), (0, .ref hl_), (1, .int (xl)), (2, .int (xr)), (3, .int (l3)), (4, .int (l4))]) hx hb dX0_find_115 hl (k := 6) rfl (rfl) (by decide) rfl (fun ls hl => ?_)
          refine lv_goto (tgt := 31) hx hb dX0_find_118 (by decide) ?_
          exact ih Lstuff Ltwins l3 l4 (l5 + 1) _ _ _ hw hP hD hS (lv_sub hl [2, 3, 4, 5, 6, 0] rfl)
        · replace hw := hw.2 c_9
          refine lv_iload hx hb dX0_find_94 (lv_at hl 0 rfl) ?_
          refine lv_iload_n hx hb dX0_find_96 rfl (lv_at hl 4 rfl) ?_
          refine lv_icmp_ge (tgt := 115) hx hb dX0_find_97 (by decide) (fun c_10 => ?_) (fun c_10 => ?_)
          · replace hw := hw.1 c_10
            refine lv_iinc (v := (l5 + 1)) (lv' := [(5, .int (l5 + 1)), (6, .int (((Pcosts (l4).toNatClampNeg) * l5) + (Lrow ((xl + 1).toNatClampNeg) (xr - l5).toNatClampNeg))), (0, .ref hl_), (1, .int (xl)), (2, .int (xr)), (3, .int (l3)), (4, .int (l4))]) hx hb dX0_find_115 hl (k := 6) rfl (rfl) (by decide) rfl (fun ls hl => ?_)
            refine lv_goto (tgt := 31) hx hb dX0_find_118 (by decide) ?_
            exact ih Lstuff Ltwins l3 l4 (l5 + 1) _ _ _ hw hP hD hS (lv_sub hl [2, 3, 4, 5, 6, 0] rfl)
          · replace hw := hw.2 c_10
            refine lv_iload hx hb dX0_find_100 (lv_at hl 0 rfl) ?_
            refine lv_istore_n (lv' := [(3, .int (((Pcosts (l4).toNatClampNeg) * l5) + (Lrow ((xl + 1).toNatClampNeg) (xr - l5).toNatClampNeg))), (6, .int (((Pcosts (l4).toNatClampNeg) * l5) + (Lrow ((xl + 1).toNatClampNeg) (xr - l5).toNatClampNeg))), (0, .ref hl_), (1, .int (xl)), (2, .int (xr)), (4, .int (l4)), (5, .int (l5))]) hx hb dX0_find_102 rfl hl (by decide) rfl (fun ls hl => ?_)
            refine lv_aload_n hx hb dX0_find_103 rfl (lv_at hl 2 rfl) ?_
            refine lv_iload hx hb dX0_find_104 (lv_at hl 5 rfl) ?_
            refine va_put (D := D) (ci := 0) (v := .int (l4)) (ty := .int) (C := RX0) (T := TX0) (N := 5) hx hb hts (fun w h => wm_c (wc_X0 w h)) tyX0 tyX0_ok nmX0 hown hE.1 hP hD hS 0 rfl rfl 3 (by decide) (hts (.fieldLink RX0 50 "WornLines$Layout" "stuff" "I") (wm_c hw_609)) (fun _ h9 => h9) rfl (by decide +kernel) (rfl) rfl (Nat.le_of_ble_eq_true rfl) dX0_find_106 (fun H locs hP hD hS => ?_)
            have hP : va_P D vwCl (wW_X0_find ak ad hl_ la gq pg l4 Ltwins Lpeak Lrow) H := hP
            have hD : va_D A (wW_X0_find ak ad hl_ la gq pg l4 Ltwins Lpeak Lrow) := hD
            refine lv_aload_n hx hb dX0_find_109 rfl (lv_at hl 2 rfl) ?_
            refine lv_iload hx hb dX0_find_110 (lv_at hl 6 rfl) ?_
            refine va_put (D := D) (ci := 0) (v := .int (l5)) (ty := .int) (C := RX0) (T := TX0) (N := 5) hx hb hts (fun w h => wm_c (wc_X0 w h)) tyX0 tyX0_ok nmX0 hown hE.1 hP hD hS 0 rfl rfl 4 (by decide) (hts (.fieldLink RX0 47 "WornLines$Layout" "twins" "I") (wm_c hw_610)) (fun _ h9 => h9) rfl (by decide +kernel) (rfl) rfl (Nat.le_of_ble_eq_true rfl) dX0_find_112 (fun H locs hP hD hS => ?_)
            have hP : va_P D vwCl (wW_X0_find ak ad hl_ la gq pg l4 l5 Lpeak Lrow) H := hP
            have hD : va_D A (wW_X0_find ak ad hl_ la gq pg l4 l5 Lpeak Lrow) := hD
            refine lv_iinc (v := (l5 + 1)) (lv' := [(5, .int (l5 + 1)), (3, .int (((Pcosts (l4).toNatClampNeg) * l5) + (Lrow ((xl + 1).toNatClampNeg) (xr - l5).toNatClampNeg))), (6, .int (((Pcosts (l4).toNatClampNeg) * l5) + (Lrow ((xl + 1).toNatClampNeg) (xr - l5).toNatClampNeg))), (0, .ref hl_), (1, .int (xl)), (2, .int (xr)), (4, .int (l4))]) hx hb dX0_find_115 hl (k := 6) rfl (rfl) (by decide) rfl (fun ls hl => ?_)
            refine lv_goto (tgt := 31) hx hb dX0_find_118 (by decide) ?_
            exact ih l4 l5 (((Pcosts (l4).toNatClampNeg) * l5) + (Lrow ((xl + 1).toNatClampNeg) (xr - l5).toNatClampNeg)) l4 (l5 + 1) _ _ _ hw hP hD hS (lv_sub hl [3, 4, 5, 1, 6, 0] rfl)

def lb_X0_find_16 (Lpeak : Nat → Int32) (Lrow : Nat → Nat → Int32) (Pst : Int32) (Pbears : Nat → Int32) (Pcosts : Nat → Int32) (xl : Int32) (xr : Int32)  (Φ : Int32 → Int32 → Int32 → Prop) (back : Int32 → Int32 → Int32 → Int32 → Prop) (Lstuff : Int32) (Ltwins : Int32) (l3 : Int32) (l4 : Int32) : Prop := (Pst ≤ l4 → Φ l3 Lstuff Ltwins) ∧ (¬ Pst ≤ l4 → (∃ n_, lf_X0_find_31 Lpeak Lrow Pst Pbears Pcosts xl xr back Φ n_ Lstuff Ltwins l3 l4 1))
def lf_X0_find_16 (Lpeak : Nat → Int32) (Lrow : Nat → Nat → Int32) (Pst : Int32) (Pbears : Nat → Int32) (Pcosts : Nat → Int32) (xl : Int32) (xr : Int32)  (Φ : Int32 → Int32 → Int32 → Prop) : Nat → Int32 → Int32 → Int32 → Int32 → Prop
  | 0, _, _, _, _ => False
  | n_ + 1, Lstuff, Ltwins, l3, l4 => lb_X0_find_16 Lpeak Lrow Pst Pbears Pcosts xl xr  Φ (lf_X0_find_16 Lpeak Lrow Pst Pbears Pcosts xl xr  Φ n_) Lstuff Ltwins l3 l4
theorem li_X0_find_16 (Lpeak : Nat → Int32) (Lrow : Nat → Nat → Int32) (Pst : Int32) (Pbears : Nat → Int32) (Pcosts : Nat → Int32) (xl : Int32) (xr : Int32)  (Φ : Int32 → Int32 → Int32 → Prop) (Inv : Int32 → Int32 → Int32 → Int32 → Prop) (mu : Int32 → Int32 → Int32 → Int32 → Nat) (hs : ∀ (back : Int32 → Int32 → Int32 → Int32 → Prop) (Lstuff : Int32) (Ltwins : Int32) (l3 : Int32) (l4 : Int32), Inv Lstuff Ltwins l3 l4 → (∀ (Lstuff' : Int32) (Ltwins' : Int32) (l3' : Int32) (l4' : Int32), Inv Lstuff' Ltwins' l3' l4' → mu Lstuff' Ltwins' l3' l4' < mu Lstuff Ltwins l3 l4 → back Lstuff' Ltwins' l3' l4') → lb_X0_find_16 Lpeak Lrow Pst Pbears Pcosts xl xr  Φ back Lstuff Ltwins l3 l4) : ∀ (n_ : Nat) (Lstuff : Int32) (Ltwins : Int32) (l3 : Int32) (l4 : Int32), Inv Lstuff Ltwins l3 l4 → mu Lstuff Ltwins l3 l4 < n_ → lf_X0_find_16 Lpeak Lrow Pst Pbears Pcosts xl xr  Φ n_ Lstuff Ltwins l3 l4 := by
  intro n_
  induction n_ with
  | zero => intro Lstuff Ltwins l3 l4 _ h; exact absurd h (Nat.not_lt_zero _)
  | succ n_ ih => intro Lstuff Ltwins l3 l4 hI hm; exact hs _ Lstuff Ltwins l3 l4 hI (fun Lstuff' Ltwins' l3' l4' h1 h2 => ih Lstuff' Ltwins' l3' l4' h1 (by omega))
set_option maxHeartbeats 4000000 in
set_option maxRecDepth 100000 in
theorem lp_X0_find_16 {p : Program} {l : Launch} {e : Env} {R : Room} {s : State} {m : MethodId} {args : Array Value} {below : List Frame} {meth : Method} {c : Code} {cells slots : Nat} {Q : State → Prop} {A : Nat → Prop} {D : va_G} {ak : Nat → ClassId} {ad : Nat → Nat} (hx : p.tables.exec = Jvm.exec) (hb : c.code = cX0_find) (hown : s.vm.findClass RX0 = some m.cls) (hts : ∀ w ∈ wsX0_find, w.before args s = true) (hml : c.maxLocals = 7) (hE : EV D ak s) (hT : ST D ak ad A s s.heap) (hA : ∀ q, s.heap.size ≤ q → A q) (hl_ : Nat) (la : Nat → Nat) (gq : Nat → Nat) (pg : Nat) (pa : Nat → Nat) (Lpeak : Nat → Int32) (Lrow : Nat → Nat → Int32) (Pst : Int32) (Pce : Int32) (Pgi : Int32) (Pln : Int32) (Pbears : Nat → Int32) (Pcosts : Nat → Int32) (xl : Int32) (xr : Int32) (hKT : KT D A (wK_X0_find ak ad pg pa Pst Pce Pgi Pln Pbears Pcosts) s.heap)  (Φ : Int32 → Int32 → Int32 → Prop)
    (kR128 : ∀ (r : Int32) (Lstuff : Int32) (Ltwins : Int32) (H : Heap) (locs : List Loc) (ls : Array Slot), Φ r Lstuff Ltwins → va_P D vwCl (wW_X0_find ak ad hl_ la gq pg Lstuff Ltwins Lpeak Lrow) H → va_D A (wW_X0_find ak ad hl_ la gq pg Lstuff Ltwins Lpeak Lrow) → va_S A s.heap H locs → W p l e R s m args below meth c H locs cells slots Q (F0 m 128 ls [.int r]))
    : ∀ (n_ : Nat) (Lstuff : Int32) (Ltwins : Int32) (l3 : Int32) (l4 : Int32) (H : Heap) (locs : List Loc) (ls : Array Slot), lf_X0_find_16 Lpeak Lrow Pst Pbears Pcosts xl xr  Φ n_ Lstuff Ltwins l3 l4 → va_P D vwCl (wW_X0_find ak ad hl_ la gq pg Lstuff Ltwins Lpeak Lrow) H → va_D A (wW_X0_find ak ad hl_ la gq pg Lstuff Ltwins Lpeak Lrow) → va_S A s.heap H locs → lv_has ls 7 [(0, .ref hl_), (1, .int (xl)), (2, .int (xr)), (3, .int (l3)), (4, .int (l4))] → W p l e R s m args below meth c H locs cells slots Q (F0 m 16 ls ([])) := by
  have hCW : ∀ {H : Heap} {locs : List Loc}, va_S A s.heap H locs → va_P D vwCl (wK_X0_find ak ad pg pa Pst Pce Pgi Pln Pbears Pcosts) H := fun hS => (hKT.kept hS.2.1).1
  intro n_
  induction n_ with
  | zero =>
    intro Lstuff Ltwins l3 l4 H locs ls hw
    exact hw.elim
  | succ n_ ih =>
    intro Lstuff Ltwins l3 l4 H locs ls hw hP hD hS hl
    have hw : lb_X0_find_16 Lpeak Lrow Pst Pbears Pcosts xl xr  Φ (lf_X0_find_16 Lpeak Lrow Pst Pbears Pcosts xl xr  Φ n_) Lstuff Ltwins l3 l4 := hw
    delta lb_X0_find_16 at hw
    refine lv_iload hx hb dX0_find_16 (lv_at hl 4 rfl) ?_
    refine lv_aload_n hx hb dX0_find_18 rfl (lv_at hl 0 rfl) ?_
    refine va_get (D := D) (ci := 0) (v := .ref pg) (C := RX0) (T := TX0) (N := 5) hx hb hts (fun w h => wm_c (wc_X0 w h)) hown hE.1 hP 0 rfl rfl 0 (by decide) (hts (.fieldLink RX0 20 "WornLines$Layout" "programme" "LWornLines$Programme;") (wm_c hw_312)) (fun _ h9 => h9) rfl dX0_find_19 ?_
    refine va_get (D := D) (ci := 2) (v := .int (Pst)) (C := RX2) (T := TX2) (N := 17) hx hb hts (fun w h => wm_c (wc_X2 w h)) hown hE.1 (hCW hS) 0 rfl rfl 0 (by decide) (hts (.fieldLink RX0 53 "WornLines$Programme" "stuffs" "I") (wm_c hw_611)) (fun _ h9 => h9) rfl dX0_find_22 ?_
    refine lv_icmp_ge (tgt := 127) hx hb dX0_find_25 (by decide) (fun c_1 => ?_) (fun c_1 => ?_)
    · replace hw := hw.1 c_1
      refine lv_iload_n hx hb dX0_find_127 rfl (lv_at hl 3 rfl) ?_
      exact kR128 l3 Lstuff Ltwins _ _ _ hw hP hD hS
    · replace hw := hw.2 c_1
      refine lv_iconst (v := 1) hx hb dX0_find_28 (by decide) ?_
      refine lv_istore (lv' := [(5, .int (1)), (0, .ref hl_), (1, .int (xl)), (2, .int (xr)), (3, .int (l3)), (4, .int (l4))]) hx hb dX0_find_29 hl (by decide) rfl (fun ls hl => ?_)
      obtain ⟨n1_, hw⟩ := hw
      exact lp_X0_find_31 hx hb hown hts hml hE hT hA hl_ la gq pg pa Lpeak Lrow Pst Pce Pgi Pln Pbears Pcosts xl xr hKT _ Φ ih kR128 n1_ Lstuff Ltwins l3 l4 1 _ _ _ hw hP hD hS (lv_sub hl [1, 2, 3, 4, 5, 0] rfl)

def wp_X0_find (Lpeak : Nat → Int32) (Lrow : Nat → Nat → Int32) (Pst : Int32) (Pbears : Nat → Int32) (Pcosts : Nat → Int32) (xl : Int32) (xr : Int32) (Lstuff : Int32) (Ltwins : Int32) (Φ : Int32 → Int32 → Int32 → Prop) : Prop := (∃ n_, lf_X0_find_16 Lpeak Lrow Pst Pbears Pcosts xl xr  Φ n_ (-1) 0 1000000000 0)
set_option maxHeartbeats 4000000 in
set_option maxRecDepth 100000 in
theorem kj_X0_find_e {p : Program} {l : Launch} {e : Env} {R : Room} {s : State} {m : MethodId} {args : Array Value} {below : List Frame} {meth : Method} {c : Code} {cells slots : Nat} {Q : State → Prop} {A : Nat → Prop} {D : va_G} {ak : Nat → ClassId} {ad : Nat → Nat} (hx : p.tables.exec = Jvm.exec) (hb : c.code = cX0_find) (hown : s.vm.findClass RX0 = some m.cls) (hts : ∀ w ∈ wsX0_find, w.before args s = true) (hml : c.maxLocals = 7) (hE : EV D ak s) (hT : ST D ak ad A s s.heap) (hA : ∀ q, s.heap.size ≤ q → A q) (hl_ : Nat) (la : Nat → Nat) (gq : Nat → Nat) (pg : Nat) (pa : Nat → Nat) (Lpeak : Nat → Int32) (Lrow : Nat → Nat → Int32) (Pst : Int32) (Pce : Int32) (Pgi : Int32) (Pln : Int32) (Pbears : Nat → Int32) (Pcosts : Nat → Int32) (xl : Int32) (xr : Int32) (hKT : KT D A (wK_X0_find ak ad pg pa Pst Pce Pgi Pln Pbears Pcosts) s.heap)  (Φ : Int32 → Int32 → Int32 → Prop)
    (kR128 : ∀ (r : Int32) (Lstuff : Int32) (Ltwins : Int32) (H : Heap) (locs : List Loc) (ls : Array Slot), Φ r Lstuff Ltwins → va_P D vwCl (wW_X0_find ak ad hl_ la gq pg Lstuff Ltwins Lpeak Lrow) H → va_D A (wW_X0_find ak ad hl_ la gq pg Lstuff Ltwins Lpeak Lrow) → va_S A s.heap H locs → W p l e R s m args below meth c H locs cells slots Q (F0 m 128 ls [.int r]))
    : ∀ (Lstuff : Int32) (Ltwins : Int32) (H : Heap) (locs : List Loc) (ls : Array Slot), wp_X0_find Lpeak Lrow Pst Pbears Pcosts xl xr Lstuff Ltwins Φ → va_P D vwCl (wW_X0_find ak ad hl_ la gq pg Lstuff Ltwins Lpeak Lrow) H → va_D A (wW_X0_find ak ad hl_ la gq pg Lstuff Ltwins Lpeak Lrow) → va_S A s.heap H locs → lv_has ls 7 [(0, .ref hl_), (1, .int (xl)), (2, .int (xr))] → W p l e R s m args below meth c H locs cells slots Q (F0 m 0 ls ([])) := by
  have hCW : ∀ {H : Heap} {locs : List Loc}, va_S A s.heap H locs → va_P D vwCl (wK_X0_find ak ad pg pa Pst Pce Pgi Pln Pbears Pcosts) H := fun hS => (hKT.kept hS.2.1).1
  intro Lstuff Ltwins H locs ls hw hP hD hS hl
  delta wp_X0_find at hw
  refine lv_ldc hx hb hown (hts (.constant RX0 46 (1000000000)) (wm_c hw_606)) dX0_find_0 ?_
  refine lv_istore_n (lv' := [(3, .int (1000000000)), (0, .ref hl_), (1, .int (xl)), (2, .int (xr))]) hx hb dX0_find_2 rfl hl (by decide) rfl (fun ls hl => ?_)
  refine lv_aload_n hx hb dX0_find_3 rfl (lv_at hl 1 rfl) ?_
  refine lv_iconst (v := (-1)) hx hb dX0_find_4 (by decide) ?_
  refine va_put (D := D) (ci := 0) (v := .int (-1)) (ty := .int) (C := RX0) (T := TX0) (N := 5) hx hb hts (fun w h => wm_c (wc_X0 w h)) tyX0 tyX0_ok nmX0 hown hE.1 hP hD hS 0 rfl rfl 3 (by decide) (hts (.fieldLink RX0 50 "WornLines$Layout" "stuff" "I") (wm_c hw_609)) (fun _ h9 => h9) rfl (by decide +kernel) (rfl) rfl (Nat.le_of_ble_eq_true rfl) dX0_find_5 (fun H locs hP hD hS => ?_)
  have hP : va_P D vwCl (wW_X0_find ak ad hl_ la gq pg (-1) Ltwins Lpeak Lrow) H := hP
  have hD : va_D A (wW_X0_find ak ad hl_ la gq pg (-1) Ltwins Lpeak Lrow) := hD
  refine lv_aload_n hx hb dX0_find_8 rfl (lv_at hl 1 rfl) ?_
  refine lv_iconst (v := 0) hx hb dX0_find_9 (by decide) ?_
  refine va_put (D := D) (ci := 0) (v := .int (0)) (ty := .int) (C := RX0) (T := TX0) (N := 5) hx hb hts (fun w h => wm_c (wc_X0 w h)) tyX0 tyX0_ok nmX0 hown hE.1 hP hD hS 0 rfl rfl 4 (by decide) (hts (.fieldLink RX0 47 "WornLines$Layout" "twins" "I") (wm_c hw_610)) (fun _ h9 => h9) rfl (by decide +kernel) (rfl) rfl (Nat.le_of_ble_eq_true rfl) dX0_find_10 (fun H locs hP hD hS => ?_)
  have hP : va_P D vwCl (wW_X0_find ak ad hl_ la gq pg (-1) 0 Lpeak Lrow) H := hP
  have hD : va_D A (wW_X0_find ak ad hl_ la gq pg (-1) 0 Lpeak Lrow) := hD
  refine lv_iconst (v := 0) hx hb dX0_find_13 (by decide) ?_
  refine lv_istore (lv' := [(4, .int (0)), (3, .int (1000000000)), (0, .ref hl_), (1, .int (xl)), (2, .int (xr))]) hx hb dX0_find_14 hl (by decide) rfl (fun ls hl => ?_)
  obtain ⟨n1_, hw⟩ := hw
  exact lp_X0_find_16 hx hb hown hts hml hE hT hA hl_ la gq pg pa Lpeak Lrow Pst Pce Pgi Pln Pbears Pcosts xl xr hKT  Φ  kR128 n1_ (-1) 0 1000000000 0 _ _ _ hw hP hD hS (lv_sub hl [2, 3, 4, 1, 0] rfl)
set_option maxHeartbeats 4000000 in
set_option maxRecDepth 100000 in
theorem c_X0_find (l : Launch) (D : va_G) (ak : Nat → ClassId) (ad : Nat → Nat) (sz : Nat) (hl_ : Nat) (la : Nat → Nat) (gq : Nat → Nat) (pg : Nat) (pa : Nat → Nat) (Lstuff : Int32) (Ltwins : Int32) (Lpeak : Nat → Int32) (Lrow : Nat → Nat → Int32) (Pst : Int32) (Pce : Int32) (Pgi : Int32) (Pln : Int32) (Pbears : Nat → Int32) (Pcosts : Nat → Int32) (xl : Int32) (xr : Int32) (Φ : Int32 → Int32 → Int32 → Prop) (hf : wp_X0_find Lpeak Lrow Pst Pbears Pcosts xl xr Lstuff Ltwins Φ) : Met l yX0_find wsX0_find ({ frames := 0, cells := 0, slots := 0, locals := 0 }) (cPreK D ak ad [.ref hl_, .int (xl), .int (xr)] ((wW_X0_find ak ad hl_ la gq pg Lstuff Ltwins Lpeak Lrow)) sz ((wK_X0_find ak ad pg pa Pst Pce Pgi Pln Pbears Pcosts))) (cI D (S := (Int32) × (Int32)) (fun (r : Int32) (u : (Int32) × (Int32)) => Φ r u.1 u.2) (fun u => (wW_X0_find ak ad hl_ la gq pg u.1 u.2 Lpeak Lrow)) ((wW_X0_find ak ad hl_ la gq pg Lstuff Ltwins Lpeak Lrow)) sz) 0 0 (va_A ((wW_X0_find ak ad hl_ la gq pg Lstuff Ltwins Lpeak Lrow)) sz) := by
  refine Met.ofW (cc := cX0_find) (maxL := 7) (ret := (some .int)) (by decide) rfl ?_
  intro p e s m args below meth c s₁ B hml hv
  obtain ⟨⟨rfl, hsz, hP, hE, hD0, hT⟩, hKT⟩ := hv
  have hx := B.exec
  have hb := B.bytes
  have hr := B.returns
  have hts := atoms_spec (ws := wsX0_find) B.pre
  have hown : s.vm.findClass RX0 = some m.cls := findClass_of_methodNamed B.named
  have hlocks := B.notSynchronized
  subst hsz
  have hD := hD0.self (sz := s.heap.size)
  generalize hAe : va_A ((wW_X0_find ak ad hl_ la gq pg Lstuff Ltwins Lpeak Lrow)) s.heap.size = A at hD hT hKT ⊢
  have hA : ∀ q : Nat, s.heap.size ≤ q → A q := fun q h => by rw [← hAe]; exact Or.inr h
  have hS : va_S A s.heap s.heap [] := va_S.rf
  have hl := lv_entry ([.ref hl_, .int (xl), .int (xr)]) (n := 7) (Nat.le_of_ble_eq_true rfl)
  rw [lg_entry_eq]
  generalize (lg_sl ([.ref hl_, .int (xl), .int (xr)]) ++ List.replicate (7 - (lg_sl ([.ref hl_, .int (xl), .int (xr)])).length) Slot.unset).toArray = ls at hl ⊢
  have hl : lv_has ls 7 [(0, .ref hl_), (1, .int (xl)), (2, .int (xr))] := hl
  exact kj_X0_find_e hx hb hown hts hml hE hT hA hl_ la gq pg pa Lpeak Lrow Pst Pce Pgi Pln Pbears Pcosts xl xr hKT Φ (fun r Lstuff Ltwins H locs ls hw hP hD hS => W.iret (v := r) hx hb hr (fun t ht hW => ⟨⟨r, (Lstuff, Ltwins), rfl, hw, by rw [ht]; exact hP, by rw [hAe]; exact hD⟩, by rw [hAe]; exact hS.F ht⟩) hS.2.2 dX0_find_128) Lstuff Ltwins _ _ _ hf hP hD hS hl

def wW_X0_choose (ak : Nat → ClassId) (ad : Nat → Nat) (hl_ : Nat) (la : Nat → Nat) (gq : Nat → Nat) (pg : Nat) (Lstuff : Int32) (Ltwins : Int32) (Lpeak : Nat → Int32) (Lrow : Nat → Nat → Int32) : va_W := ([(hl_, .inr (0, lob la (pg) (Lstuff) (Ltwins))), ((la 0), .inl (ak 0, 16, .inl (Lpeak))), ((la 1), .inl (ak 6, 17, .inr (.inr (.inr (.inr (grA gq))))))] ++ gRows ak gq Lrow)
def wK_X0_choose (ak : Nat → ClassId) (ad : Nat → Nat) (pg : Nat) (pa : Nat → Nat) (Pst : Int32) (Pce : Int32) (Pgi : Int32) (Pln : Int32) (Pbears : Nat → Int32) (Pcosts : Nat → Int32) : va_W := [(pg, .inr (2, pob pa (Pst) (Pce) (Pgi) (Pln))), ((pa 0), .inl (ak 0, 4, .inl (Pbears))), ((pa 1), .inl (ak 0, 4, .inl (Pcosts)))]
def lb_X0_choose_5 (Lpeak : Nat → Int32) (Lrow : Nat → Nat → Int32) (Pst : Int32) (Pbears : Nat → Int32) (Pcosts : Nat → Int32) (xr : Int32) (xl : Int32)  (Φ : Int32 → Int32 → Prop) (back : Int32 → Int32 → Int32 → Int32 → Prop) (Lstuff : Int32) (Ltwins : Int32) (l3 : Int32) (l4 : Int32) : Prop := (xl < l4 → Φ Lstuff Ltwins) ∧ (¬ xl < l4 → (l3 < 0 → Φ Lstuff Ltwins) ∧ (¬ l3 < 0 → wp_X0_find Lpeak Lrow Pst Pbears Pcosts l4 l3 Lstuff Ltwins (fun r_6 Lstuff_4 Ltwins_5 => back Lstuff_4 Ltwins_5 (l3 - Ltwins_5) (l4 + 1))))
def lf_X0_choose_5 (Lpeak : Nat → Int32) (Lrow : Nat → Nat → Int32) (Pst : Int32) (Pbears : Nat → Int32) (Pcosts : Nat → Int32) (xr : Int32) (xl : Int32)  (Φ : Int32 → Int32 → Prop) : Nat → Int32 → Int32 → Int32 → Int32 → Prop
  | 0, _, _, _, _ => False
  | n_ + 1, Lstuff, Ltwins, l3, l4 => lb_X0_choose_5 Lpeak Lrow Pst Pbears Pcosts xr xl  Φ (lf_X0_choose_5 Lpeak Lrow Pst Pbears Pcosts xr xl  Φ n_) Lstuff Ltwins l3 l4
theorem li_X0_choose_5 (Lpeak : Nat → Int32) (Lrow : Nat → Nat → Int32) (Pst : Int32) (Pbears : Nat → Int32) (Pcosts : Nat → Int32) (xr : Int32) (xl : Int32)  (Φ : Int32 → Int32 → Prop) (Inv : Int32 → Int32 → Int32 → Int32 → Prop) (mu : Int32 → Int32 → Int32 → Int32 → Nat) (hs : ∀ (back : Int32 → Int32 → Int32 → Int32 → Prop) (Lstuff : Int32) (Ltwins : Int32) (l3 : Int32) (l4 : Int32), Inv Lstuff Ltwins l3 l4 → (∀ (Lstuff' : Int32) (Ltwins' : Int32) (l3' : Int32) (l4' : Int32), Inv Lstuff' Ltwins' l3' l4' → mu Lstuff' Ltwins' l3' l4' < mu Lstuff Ltwins l3 l4 → back Lstuff' Ltwins' l3' l4') → lb_X0_choose_5 Lpeak Lrow Pst Pbears Pcosts xr xl  Φ back Lstuff Ltwins l3 l4) : ∀ (n_ : Nat) (Lstuff : Int32) (Ltwins : Int32) (l3 : Int32) (l4 : Int32), Inv Lstuff Ltwins l3 l4 → mu Lstuff Ltwins l3 l4 < n_ → lf_X0_choose_5 Lpeak Lrow Pst Pbears Pcosts xr xl  Φ n_ Lstuff Ltwins l3 l4 := by
  intro n_
  induction n_ with
  | zero => intro Lstuff Ltwins l3 l4 _ h; exact absurd h (Nat.not_lt_zero _)
  | succ n_ ih => intro Lstuff Ltwins l3 l4 hI hm; exact hs _ Lstuff Ltwins l3 l4 hI (fun Lstuff' Ltwins' l3' l4' h1 h2 => ih Lstuff' Ltwins' l3' l4' h1 (by omega))
set_option maxHeartbeats 4000000 in
set_option maxRecDepth 100000 in
theorem lp_X0_choose_5 {p : Program} {l : Launch} {e : Env} {R : Room} {s : State} {m : MethodId} {args : Array Value} {below : List Frame} {meth : Method} {c : Code} {cells slots : Nat} {Q : State → Prop} {A : Nat → Prop} {D : va_G} {ak : Nat → ClassId} {ad : Nat → Nat} (hx : p.tables.exec = Jvm.exec) (hb : c.code = cX0_choose) (hown : s.vm.findClass RX0 = some m.cls) (hts : ∀ w ∈ wsX0_choose, w.before args s = true) (hml : c.maxLocals = 5) (hE : EV D ak s) (hT : ST D ak ad A s s.heap) (hA : ∀ q, s.heap.size ≤ q → A q) (hRf : 1 ≤ R.frames) (hRl : 26 ≤ R.locals) (hRc : cells ≤ R.cells ∧ slots ≤ R.slots) (hl_ : Nat) (la : Nat → Nat) (gq : Nat → Nat) (pg : Nat) (pa : Nat → Nat) (Lpeak : Nat → Int32) (Lrow : Nat → Nat → Int32) (Pst : Int32) (Pce : Int32) (Pgi : Int32) (Pln : Int32) (Pbears : Nat → Int32) (Pcosts : Nat → Int32) (xr : Int32) (xl : Int32) (hKT : KT D A (wK_X0_choose ak ad pg pa Pst Pce Pgi Pln Pbears Pcosts) s.heap)  (Φ : Int32 → Int32 → Prop)
    (kR36 : ∀ (Lstuff : Int32) (Ltwins : Int32) (H : Heap) (locs : List Loc) (ls : Array Slot), Φ Lstuff Ltwins → va_P D vwCl (wW_X0_choose ak ad hl_ la gq pg Lstuff Ltwins Lpeak Lrow) H → va_D A (wW_X0_choose ak ad hl_ la gq pg Lstuff Ltwins Lpeak Lrow) → va_S A s.heap H locs → W p l e R s m args below meth c H locs cells slots Q (F0 m 36 ls []))
    : ∀ (n_ : Nat) (Lstuff : Int32) (Ltwins : Int32) (l3 : Int32) (l4 : Int32) (H : Heap) (locs : List Loc) (ls : Array Slot), lf_X0_choose_5 Lpeak Lrow Pst Pbears Pcosts xr xl  Φ n_ Lstuff Ltwins l3 l4 → va_P D vwCl (wW_X0_choose ak ad hl_ la gq pg Lstuff Ltwins Lpeak Lrow) H → va_D A (wW_X0_choose ak ad hl_ la gq pg Lstuff Ltwins Lpeak Lrow) → va_S A s.heap H locs → lv_has ls 5 [(0, .ref hl_), (2, .int (xl)), (3, .int (l3)), (4, .int (l4))] → W p l e R s m args below meth c H locs cells slots Q (F0 m 5 ls ([])) := by
  have hCW : ∀ {H : Heap} {locs : List Loc}, va_S A s.heap H locs → va_P D vwCl (wK_X0_choose ak ad pg pa Pst Pce Pgi Pln Pbears Pcosts) H := fun hS => (hKT.kept hS.2.1).1
  intro n_
  induction n_ with
  | zero =>
    intro Lstuff Ltwins l3 l4 H locs ls hw
    exact hw.elim
  | succ n_ ih =>
    intro Lstuff Ltwins l3 l4 H locs ls hw hP hD hS hl
    have hw : lb_X0_choose_5 Lpeak Lrow Pst Pbears Pcosts xr xl  Φ (lf_X0_choose_5 Lpeak Lrow Pst Pbears Pcosts xr xl  Φ n_) Lstuff Ltwins l3 l4 := hw
    delta lb_X0_choose_5 at hw
    refine lv_iload hx hb dX0_choose_5 (lv_at hl 3 rfl) ?_
    refine lv_iload_n hx hb dX0_choose_7 rfl (lv_at hl 1 rfl) ?_
    refine lv_icmp_gt (tgt := 36) hx hb dX0_choose_8 (by decide) (fun c_1 => ?_) (fun c_1 => ?_)
    · replace hw := hw.1 c_1
      exact kR36 Lstuff Ltwins _ _ _ hw hP hD hS
    · replace hw := hw.2 c_1
      refine lv_iload_n hx hb dX0_choose_11 rfl (lv_at hl 2 rfl) ?_
      refine lv_if_lt (tgt := 36) hx hb dX0_choose_12 (by decide) (fun c_2 => ?_) (fun c_2 => ?_)
      · replace hw := hw.1 c_2
        exact kR36 Lstuff Ltwins _ _ _ hw hP hD hS
      · replace hw := hw.2 c_2
        refine lv_aload_n hx hb dX0_choose_15 rfl (lv_at hl 0 rfl) ?_
        refine lv_iload hx hb dX0_choose_16 (lv_at hl 3 rfl) ?_
        refine lv_iload_n hx hb dX0_choose_18 rfl (lv_at hl 2 rfl) ?_
        refine kc_i (wc := (wW_X0_find ak ad hl_ la gq pg Lstuff Ltwins Lpeak Lrow)) (wr := []) hP hD hS hA [0, 1, 2, 3, 4, 5, 6, 7, 8, 9, 10, 11, 12, 13, 14, 15, 16, 17, 18, 19] [] rfl rfl (by decide) (by decide) (va_runV (As := [.int (l4), .int (l3)]) (rest := []) ⟨hx, hb, hml, hown, hts⟩ (c_X0_find l D ak ad _ hl_ la gq pg pa Lstuff Ltwins Lpeak Lrow Pst Pce Pgi Pln Pbears Pcosts l4 l3 _ hw) (cwV 2 hts gX0_choose_X0_find rfl rfl rfl (by decide +kernel) ⟨(Nat.le_trans (Nat.le_of_ble_eq_true rfl) hRf), (Nat.le_trans (Nat.le_of_ble_eq_true rfl) hRl)⟩) (kc_preVK (As := [.int (l4), .int (l3)]) (wc := (wW_X0_find ak ad hl_ la gq pg Lstuff Ltwins Lpeak Lrow)) (ck := (wK_X0_find ak ad pg pa Pst Pce Pgi Pln Pbears Pcosts)) hKT hE hT hP hD hS hA [0, 1, 2, 3, 4, 5, 6, 7, 8, 9, 10, 11, 12, 13, 14, 15, 16, 17, 18, 19] [0, 1, 2] (by decide) rfl rfl rfl hP 0 0 rfl rfl rfl) rfl rfl hl.1 rfl (lv_room (Nat.le_of_ble_eq_true rfl)) dX0_choose_19 ⟨hRc.1, hRc.2⟩) (fun r_6 u_3 H locs hw hP hD hS => ?_)
        obtain ⟨Lstuff_4, Ltwins_5⟩ := u_3
        try dsimp -zeta only at hw
        have hP : va_P D vwCl (wW_X0_choose ak ad hl_ la gq pg Lstuff_4 Ltwins_5 Lpeak Lrow) H := hP.sub [0, 1, 2, 3, 4, 5, 6, 7, 8, 9, 10, 11, 12, 13, 14, 15, 16, 17, 18, 19] rfl
        have hD : va_D A (wW_X0_choose ak ad hl_ la gq pg Lstuff_4 Ltwins_5 Lpeak Lrow) := hD.sub [0, 1, 2, 3, 4, 5, 6, 7, 8, 9, 10, 11, 12, 13, 14, 15, 16, 17, 18, 19] (by decide) rfl
        refine lv_pop hx hb dX0_choose_22 rfl ?_
        refine lv_iload_n hx hb dX0_choose_23 rfl (lv_at hl 2 rfl) ?_
        refine lv_aload_n hx hb dX0_choose_24 rfl (lv_at hl 0 rfl) ?_
        refine va_get (D := D) (ci := 0) (v := .int (Ltwins_5)) (C := RX0) (T := TX0) (N := 5) hx hb hts (fun w h => wm_c (wc_X0 w h)) hown hE.1 hP 0 rfl rfl 4 (by decide) (hts (.fieldLink RX0 47 "WornLines$Layout" "twins" "I") (wm_c hw_610)) (fun _ h9 => h9) rfl dX0_choose_25 ?_
        refine lv_isub hx hb dX0_choose_28 ?_
        refine lv_istore_n (lv' := [(3, .int (l3 - Ltwins_5)), (0, .ref hl_), (2, .int (xl)), (4, .int (l4))]) hx hb dX0_choose_29 rfl hl (by decide) rfl (fun ls hl => ?_)
        refine lv_iinc (v := (l4 + 1)) (lv' := [(4, .int (l4 + 1)), (3, .int (l3 - Ltwins_5)), (0, .ref hl_), (2, .int (xl))]) hx hb dX0_choose_30 hl (k := 3) rfl (rfl) (by decide) rfl (fun ls hl => ?_)
        refine lv_goto (tgt := 5) hx hb dX0_choose_33 (by decide) ?_
        exact ih Lstuff_4 Ltwins_5 (l3 - Ltwins_5) (l4 + 1) _ _ _ hw hP hD hS (lv_sub hl [2, 3, 1, 0] rfl)

def wp_X0_choose (Lpeak : Nat → Int32) (Lrow : Nat → Nat → Int32) (Pst : Int32) (Pbears : Nat → Int32) (Pcosts : Nat → Int32) (xr : Int32) (xl : Int32) (Lstuff : Int32) (Ltwins : Int32) (Φ : Int32 → Int32 → Prop) : Prop := (∃ n_, lf_X0_choose_5 Lpeak Lrow Pst Pbears Pcosts xr xl  Φ n_ Lstuff Ltwins xr 0)
set_option maxHeartbeats 4000000 in
set_option maxRecDepth 100000 in
theorem kj_X0_choose_e {p : Program} {l : Launch} {e : Env} {R : Room} {s : State} {m : MethodId} {args : Array Value} {below : List Frame} {meth : Method} {c : Code} {cells slots : Nat} {Q : State → Prop} {A : Nat → Prop} {D : va_G} {ak : Nat → ClassId} {ad : Nat → Nat} (hx : p.tables.exec = Jvm.exec) (hb : c.code = cX0_choose) (hown : s.vm.findClass RX0 = some m.cls) (hts : ∀ w ∈ wsX0_choose, w.before args s = true) (hml : c.maxLocals = 5) (hE : EV D ak s) (hT : ST D ak ad A s s.heap) (hA : ∀ q, s.heap.size ≤ q → A q) (hRf : 1 ≤ R.frames) (hRl : 26 ≤ R.locals) (hRc : cells ≤ R.cells ∧ slots ≤ R.slots) (hl_ : Nat) (la : Nat → Nat) (gq : Nat → Nat) (pg : Nat) (pa : Nat → Nat) (Lpeak : Nat → Int32) (Lrow : Nat → Nat → Int32) (Pst : Int32) (Pce : Int32) (Pgi : Int32) (Pln : Int32) (Pbears : Nat → Int32) (Pcosts : Nat → Int32) (xr : Int32) (xl : Int32) (hKT : KT D A (wK_X0_choose ak ad pg pa Pst Pce Pgi Pln Pbears Pcosts) s.heap)  (Φ : Int32 → Int32 → Prop)
    (kR36 : ∀ (Lstuff : Int32) (Ltwins : Int32) (H : Heap) (locs : List Loc) (ls : Array Slot), Φ Lstuff Ltwins → va_P D vwCl (wW_X0_choose ak ad hl_ la gq pg Lstuff Ltwins Lpeak Lrow) H → va_D A (wW_X0_choose ak ad hl_ la gq pg Lstuff Ltwins Lpeak Lrow) → va_S A s.heap H locs → W p l e R s m args below meth c H locs cells slots Q (F0 m 36 ls []))
    : ∀ (Lstuff : Int32) (Ltwins : Int32) (H : Heap) (locs : List Loc) (ls : Array Slot), wp_X0_choose Lpeak Lrow Pst Pbears Pcosts xr xl Lstuff Ltwins Φ → va_P D vwCl (wW_X0_choose ak ad hl_ la gq pg Lstuff Ltwins Lpeak Lrow) H → va_D A (wW_X0_choose ak ad hl_ la gq pg Lstuff Ltwins Lpeak Lrow) → va_S A s.heap H locs → lv_has ls 5 [(0, .ref hl_), (1, .int (xr)), (2, .int (xl))] → W p l e R s m args below meth c H locs cells slots Q (F0 m 0 ls ([])) := by
  have hCW : ∀ {H : Heap} {locs : List Loc}, va_S A s.heap H locs → va_P D vwCl (wK_X0_choose ak ad pg pa Pst Pce Pgi Pln Pbears Pcosts) H := fun hS => (hKT.kept hS.2.1).1
  intro Lstuff Ltwins H locs ls hw hP hD hS hl
  delta wp_X0_choose at hw
  refine lv_iload_n hx hb dX0_choose_0 rfl (lv_at hl 1 rfl) ?_
  refine lv_istore_n (lv' := [(3, .int (xr)), (0, .ref hl_), (1, .int (xr)), (2, .int (xl))]) hx hb dX0_choose_1 rfl hl (by decide) rfl (fun ls hl => ?_)
  refine lv_iconst (v := 0) hx hb dX0_choose_2 (by decide) ?_
  refine lv_istore (lv' := [(4, .int (0)), (3, .int (xr)), (0, .ref hl_), (1, .int (xr)), (2, .int (xl))]) hx hb dX0_choose_3 hl (by decide) rfl (fun ls hl => ?_)
  obtain ⟨n1_, hw⟩ := hw
  exact lp_X0_choose_5 hx hb hown hts hml hE hT hA hRf hRl hRc hl_ la gq pg pa Lpeak Lrow Pst Pce Pgi Pln Pbears Pcosts xr xl hKT  Φ  kR36 n1_ Lstuff Ltwins xr 0 _ _ _ hw hP hD hS (lv_sub hl [2, 4, 1, 0] rfl)
set_option maxHeartbeats 4000000 in
set_option maxRecDepth 100000 in
theorem c_X0_choose (l : Launch) (D : va_G) (ak : Nat → ClassId) (ad : Nat → Nat) (sz : Nat) (hl_ : Nat) (la : Nat → Nat) (gq : Nat → Nat) (pg : Nat) (pa : Nat → Nat) (Lstuff : Int32) (Ltwins : Int32) (Lpeak : Nat → Int32) (Lrow : Nat → Nat → Int32) (Pst : Int32) (Pce : Int32) (Pgi : Int32) (Pln : Int32) (Pbears : Nat → Int32) (Pcosts : Nat → Int32) (xr : Int32) (xl : Int32) (Φ : Int32 → Int32 → Prop) (hf : wp_X0_choose Lpeak Lrow Pst Pbears Pcosts xr xl Lstuff Ltwins Φ) : Met l yX0_choose wsX0_choose ({ frames := 1, cells := 0, slots := 0, locals := 26 }) (cPreK D ak ad [.ref hl_, .int (xr), .int (xl)] ((wW_X0_choose ak ad hl_ la gq pg Lstuff Ltwins Lpeak Lrow)) sz ((wK_X0_choose ak ad pg pa Pst Pce Pgi Pln Pbears Pcosts))) (cV D (S := (Int32) × (Int32)) (fun (u : (Int32) × (Int32)) => Φ u.1 u.2) (fun u => (wW_X0_choose ak ad hl_ la gq pg u.1 u.2 Lpeak Lrow)) ((wW_X0_choose ak ad hl_ la gq pg Lstuff Ltwins Lpeak Lrow)) sz) 0 0 (va_A ((wW_X0_choose ak ad hl_ la gq pg Lstuff Ltwins Lpeak Lrow)) sz) := by
  refine Met.ofW (cc := cX0_choose) (maxL := 5) (ret := none) (by decide) rfl ?_
  intro p e s m args below meth c s₁ B hml hv
  obtain ⟨⟨rfl, hsz, hP, hE, hD0, hT⟩, hKT⟩ := hv
  have hx := B.exec
  have hb := B.bytes
  have hr := B.returns
  have hts := atoms_spec (ws := wsX0_choose) B.pre
  have hown : s.vm.findClass RX0 = some m.cls := findClass_of_methodNamed B.named
  have hlocks := B.notSynchronized
  subst hsz
  have hD := hD0.self (sz := s.heap.size)
  generalize hAe : va_A ((wW_X0_choose ak ad hl_ la gq pg Lstuff Ltwins Lpeak Lrow)) s.heap.size = A at hD hT hKT ⊢
  have hA : ∀ q : Nat, s.heap.size ≤ q → A q := fun q h => by rw [← hAe]; exact Or.inr h
  have hS : va_S A s.heap s.heap [] := va_S.rf
  have hl := lv_entry ([.ref hl_, .int (xr), .int (xl)]) (n := 5) (Nat.le_of_ble_eq_true rfl)
  rw [lg_entry_eq]
  generalize (lg_sl ([.ref hl_, .int (xr), .int (xl)]) ++ List.replicate (5 - (lg_sl ([.ref hl_, .int (xr), .int (xl)])).length) Slot.unset).toArray = ls at hl ⊢
  have hl : lv_has ls 5 [(0, .ref hl_), (1, .int (xr)), (2, .int (xl))] := hl
  exact kj_X0_choose_e hx hb hown hts hml hE hT hA (Nat.le_of_ble_eq_true rfl) (Nat.le_of_ble_eq_true rfl) ⟨Nat.le_of_ble_eq_true rfl, Nat.le_of_ble_eq_true rfl⟩ hl_ la gq pg pa Lpeak Lrow Pst Pce Pgi Pln Pbears Pcosts xr xl hKT Φ (fun Lstuff Ltwins H locs ls hw hP hD hS => W.vret hx hb hr (fun t ht hW => ⟨⟨(Lstuff, Ltwins), rfl, hw, by rw [ht]; exact hP, by rw [hAe]; exact hD⟩, by rw [hAe]; exact hS.F ht⟩) hS.2.2 dX0_choose_36) Lstuff Ltwins _ _ _ hf hP hD hS hl
