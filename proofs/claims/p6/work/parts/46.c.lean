theorem dX5_isBlank_0 : decode cX5_isBlank 0 = .ok (.iload_n 0, 1) := by decide +kernel
theorem dX5_isBlank_1 : decode cX5_isBlank 1 = .ok (.bipush 10, 2) := by decide +kernel
theorem dX5_isBlank_3 : decode cX5_isBlank 3 = .ok (.if_icmp .eq 9, 3) := by decide +kernel
theorem dX5_isBlank_12 : decode cX5_isBlank 12 = .ok (.iconst 1, 1) := by decide +kernel
theorem dX5_isBlank_13 : decode cX5_isBlank 13 = .ok (.goto 4, 3) := by decide +kernel
theorem dX5_isBlank_6 : decode cX5_isBlank 6 = .ok (.iload_n 0, 1) := by decide +kernel
theorem dX5_isBlank_7 : decode cX5_isBlank 7 = .ok (.bipush 32, 2) := by decide +kernel
theorem dX5_isBlank_9 : decode cX5_isBlank 9 = .ok (.if_icmp .ne 7, 3) := by decide +kernel
theorem dX5_isBlank_16 : decode cX5_isBlank 16 = .ok (.iconst 0, 1) := by decide +kernel
theorem dX5_isBlank_17 : decode cX5_isBlank 17 = .ok (.ireturn, 1) := by decide +kernel
theorem dX5_kindOf_15 : decode cX5_kindOf 15 = .ok (.iload_n 0, 1) := by decide +kernel
theorem dX5_kindOf_16 : decode cX5_kindOf 16 = .ok (.bipush 48, 2) := by decide +kernel
theorem dX5_kindOf_18 : decode cX5_kindOf 18 = .ok (.if_icmp .lt 14, 3) := by decide +kernel
theorem dX5_kindOf_32 : decode cX5_kindOf 32 = .ok (.iconst 0, 1) := by decide +kernel
theorem dX5_kindOf_21 : decode cX5_kindOf 21 = .ok (.iload_n 0, 1) := by decide +kernel
theorem dX5_kindOf_22 : decode cX5_kindOf 22 = .ok (.bipush 57, 2) := by decide +kernel
theorem dX5_kindOf_24 : decode cX5_kindOf 24 = .ok (.if_icmp .gt 8, 3) := by decide +kernel
theorem dX5_kindOf_27 : decode cX5_kindOf 27 = .ok (.bipush 48, 2) := by decide +kernel
theorem dX5_kindOf_29 : decode cX5_kindOf 29 = .ok (.goto 4, 3) := by decide +kernel
theorem dX5_kindOf_0 : decode cX5_kindOf 0 = .ok (.iload_n 0, 1) := by decide +kernel
theorem dX5_kindOf_1 : decode cX5_kindOf 1 = .ok (.bipush 97, 2) := by decide +kernel
theorem dX5_kindOf_3 : decode cX5_kindOf 3 = .ok (.if_icmp .lt 12, 3) := by decide +kernel
theorem dX5_kindOf_6 : decode cX5_kindOf 6 = .ok (.iload_n 0, 1) := by decide +kernel
theorem dX5_kindOf_7 : decode cX5_kindOf 7 = .ok (.bipush 122, 2) := by decide +kernel
theorem dX5_kindOf_9 : decode cX5_kindOf 9 = .ok (.if_icmp .gt 6, 3) := by decide +kernel
theorem dX5_kindOf_12 : decode cX5_kindOf 12 = .ok (.bipush 97, 2) := by decide +kernel
theorem dX5_kindOf_14 : decode cX5_kindOf 14 = .ok (.ireturn, 1) := by decide +kernel
theorem dX5_kindOf_33 : decode cX5_kindOf 33 = .ok (.ireturn, 1) := by decide +kernel
theorem dX5_addBytes_48 : decode cX5_addBytes 48 = .ok (.aload_n 0, 1) := by decide +kernel
theorem dX5_addBytes_49 : decode cX5_addBytes 49 = .ok (.getfield 9, 3) := by decide +kernel
theorem dX5_addBytes_52 : decode cX5_addBytes 52 = .ok (.aload_n 0, 1) := by decide +kernel
theorem dX5_addBytes_53 : decode cX5_addBytes 53 = .ok (.getfield 29, 3) := by decide +kernel
theorem dX5_addBytes_56 : decode cX5_addBytes 56 = .ok (.iload 4, 2) := by decide +kernel
theorem dX5_addBytes_58 : decode cX5_addBytes 58 = .ok (.i2c, 1) := by decide +kernel
theorem dX5_addBytes_59 : decode cX5_addBytes 59 = .ok (.castore, 1) := by decide +kernel
theorem dX5_addBytes_60 : decode cX5_addBytes 60 = .ok (.aload_n 0, 1) := by decide +kernel
theorem dX5_addBytes_61 : decode cX5_addBytes 61 = .ok (.dup, 1) := by decide +kernel
theorem dX5_addBytes_62 : decode cX5_addBytes 62 = .ok (.getfield 29, 3) := by decide +kernel
theorem dX5_addBytes_65 : decode cX5_addBytes 65 = .ok (.iconst 1, 1) := by decide +kernel
theorem dX5_addBytes_66 : decode cX5_addBytes 66 = .ok (.iadd, 1) := by decide +kernel
theorem dX5_addBytes_67 : decode cX5_addBytes 67 = .ok (.putfield 29, 3) := by decide +kernel
theorem dX5_addBytes_70 : decode cX5_addBytes 70 = .ok (.iinc 3 (-8), 3) := by decide +kernel
theorem dX5_addBytes_73 : decode cX5_addBytes 73 = .ok (.goto (-70), 3) := by decide +kernel
theorem dX5_addBytes_3 : decode cX5_addBytes 3 = .ok (.iload_n 3, 1) := by decide +kernel
theorem dX5_addBytes_4 : decode cX5_addBytes 4 = .ok (.ifCond .lt 72, 3) := by decide +kernel
theorem dX5_addBytes_7 : decode cX5_addBytes 7 = .ok (.lload_n 1, 1) := by decide +kernel
theorem dX5_addBytes_8 : decode cX5_addBytes 8 = .ok (.iload_n 3, 1) := by decide +kernel
theorem dX5_addBytes_9 : decode cX5_addBytes 9 = .ok (.lushr, 1) := by decide +kernel
theorem dX5_addBytes_10 : decode cX5_addBytes 10 = .ok (.l2i, 1) := by decide +kernel
theorem dX5_addBytes_11 : decode cX5_addBytes 11 = .ok (.sipush 255, 3) := by decide +kernel
theorem dX5_addBytes_14 : decode cX5_addBytes 14 = .ok (.iand, 1) := by decide +kernel
theorem dX5_addBytes_15 : decode cX5_addBytes 15 = .ok (.istore 4, 2) := by decide +kernel
theorem dX5_addBytes_17 : decode cX5_addBytes 17 = .ok (.aload_n 0, 1) := by decide +kernel
theorem dX5_addBytes_18 : decode cX5_addBytes 18 = .ok (.getfield 29, 3) := by decide +kernel
theorem dX5_addBytes_21 : decode cX5_addBytes 21 = .ok (.sipush 1000, 3) := by decide +kernel
theorem dX5_addBytes_24 : decode cX5_addBytes 24 = .ok (.if_icmp .ge 46, 3) := by decide +kernel
theorem dX5_addBytes_27 : decode cX5_addBytes 27 = .ok (.iload 4, 2) := by decide +kernel
theorem dX5_addBytes_29 : decode cX5_addBytes 29 = .ok (.bipush 10, 2) := by decide +kernel
theorem dX5_addBytes_31 : decode cX5_addBytes 31 = .ok (.if_icmp .eq 17, 3) := by decide +kernel
theorem dX5_addBytes_34 : decode cX5_addBytes 34 = .ok (.iload 4, 2) := by decide +kernel
theorem dX5_addBytes_36 : decode cX5_addBytes 36 = .ok (.bipush 32, 2) := by decide +kernel
theorem dX5_addBytes_38 : decode cX5_addBytes 38 = .ok (.if_icmp .lt 32, 3) := by decide +kernel
theorem dX5_addBytes_41 : decode cX5_addBytes 41 = .ok (.iload 4, 2) := by decide +kernel
theorem dX5_addBytes_43 : decode cX5_addBytes 43 = .ok (.bipush 126, 2) := by decide +kernel
theorem dX5_addBytes_45 : decode cX5_addBytes 45 = .ok (.if_icmp .gt 25, 3) := by decide +kernel
theorem dX5_addBytes_0 : decode cX5_addBytes 0 = .ok (.bipush 56, 2) := by decide +kernel
theorem dX5_addBytes_2 : decode cX5_addBytes 2 = .ok (.istore_n 3, 1) := by decide +kernel
theorem dX5_addBytes_76 : decode cX5_addBytes 76 = .ok (.return_, 1) := by decide +kernel
theorem dX5_add_0 : decode cX5_add 0 = .ok (.aload_n 0, 1) := by decide +kernel
theorem dX5_add_1 : decode cX5_add 1 = .ok (.getfield 33, 3) := by decide +kernel
theorem dX5_add_4 : decode cX5_add 4 = .ok (.aload_n 0, 1) := by decide +kernel
theorem dX5_add_5 : decode cX5_add 5 = .ok (.getfield 17, 3) := by decide +kernel
theorem dX5_add_8 : decode cX5_add 8 = .ok (.arraylength, 1) := by decide +kernel
theorem dX5_add_9 : decode cX5_add 9 = .ok (.if_icmp .ge 43, 3) := by decide +kernel
theorem dX5_add_12 : decode cX5_add 12 = .ok (.aload_n 0, 1) := by decide +kernel
theorem dX5_add_13 : decode cX5_add 13 = .ok (.getfield 17, 3) := by decide +kernel
theorem dX5_add_16 : decode cX5_add 16 = .ok (.aload_n 0, 1) := by decide +kernel
theorem dX5_add_17 : decode cX5_add 17 = .ok (.getfield 33, 3) := by decide +kernel
theorem dX5_add_20 : decode cX5_add 20 = .ok (.aload_n 1, 1) := by decide +kernel
theorem dX5_add_21 : decode cX5_add 21 = .ok (.aastore, 1) := by decide +kernel
theorem dX5_add_22 : decode cX5_add 22 = .ok (.aload_n 0, 1) := by decide +kernel
theorem dX5_add_23 : decode cX5_add 23 = .ok (.getfield 21, 3) := by decide +kernel
theorem dX5_add_26 : decode cX5_add 26 = .ok (.aload_n 0, 1) := by decide +kernel
theorem dX5_add_27 : decode cX5_add 27 = .ok (.getfield 33, 3) := by decide +kernel
theorem dX5_add_30 : decode cX5_add 30 = .ok (.iload_n 2, 1) := by decide +kernel
theorem dX5_add_31 : decode cX5_add 31 = .ok (.iastore, 1) := by decide +kernel
theorem dX5_add_32 : decode cX5_add 32 = .ok (.aload_n 0, 1) := by decide +kernel
theorem dX5_add_33 : decode cX5_add 33 = .ok (.getfield 25, 3) := by decide +kernel
theorem dX5_add_36 : decode cX5_add 36 = .ok (.aload_n 0, 1) := by decide +kernel
theorem dX5_add_37 : decode cX5_add 37 = .ok (.getfield 33, 3) := by decide +kernel
theorem dX5_add_40 : decode cX5_add 40 = .ok (.lload_n 3, 1) := by decide +kernel
theorem dX5_add_41 : decode cX5_add 41 = .ok (.lastore, 1) := by decide +kernel
theorem dX5_add_42 : decode cX5_add 42 = .ok (.aload_n 0, 1) := by decide +kernel
theorem dX5_add_43 : decode cX5_add 43 = .ok (.dup, 1) := by decide +kernel
theorem dX5_add_44 : decode cX5_add 44 = .ok (.getfield 33, 3) := by decide +kernel
theorem dX5_add_47 : decode cX5_add 47 = .ok (.iconst 1, 1) := by decide +kernel
theorem dX5_add_48 : decode cX5_add 48 = .ok (.iadd, 1) := by decide +kernel
theorem dX5_add_49 : decode cX5_add 49 = .ok (.putfield 33, 3) := by decide +kernel
theorem dX5_add_52 : decode cX5_add 52 = .ok (.return_, 1) := by decide +kernel
def wp_X5_isBlank (xs : Int32)  (Φ : Int32 → Prop) : Prop := (xs = 10 → Φ 1 ) ∧ (¬ xs = 10 → (¬ xs = 32 → Φ 0 ) ∧ (xs = 32 → Φ 1 ))
set_option maxHeartbeats 4000000 in
set_option maxRecDepth 100000 in
theorem kj_X5_isBlank_e {p : Program} {l : Launch} {e : Env} {R : Room} {s : State} {m : MethodId} {args : Array Value} {below : List Frame} {meth : Method} {c : Code} {cells slots : Nat} {Q : State → Prop} {A : Nat → Prop} {D : va_G} {ak : Nat → ClassId} {ad : Nat → Nat} (hx : p.tables.exec = Jvm.exec) (hb : c.code = cX5_isBlank) (hown : s.vm.findClass RX5 = some m.cls) (hts : ∀ w ∈ wsX5_isBlank, w.before args s = true) (hml : c.maxLocals = 1) (hE : EV D ak s) (hT : ST D ak ad A s s.heap) (hA : ∀ q, s.heap.size ≤ q → A q) (xs : Int32)  (Φ : Int32 → Prop)
    (kR17 : ∀ (r : Int32)  (H : Heap) (locs : List Loc) (ls : Array Slot), (r = 0 ∨ r = 1) → Φ r  → va_P D vwCl [] H → va_D A [] → va_S A s.heap H locs → W p l e R s m args below meth c H locs cells slots Q (F0 m 17 ls [.int r]))
    : ∀  (H : Heap) (locs : List Loc) (ls : Array Slot), wp_X5_isBlank xs  Φ → va_P D vwCl [] H → va_D A [] → va_S A s.heap H locs → lv_has ls 1 [(0, .int (xs))] → W p l e R s m args below meth c H locs cells slots Q (F0 m 0 ls ([])) := by
  intro  H locs ls hw hP hD hS hl
  delta wp_X5_isBlank at hw
  refine lv_iload_n hx hb dX5_isBlank_0 rfl (lv_at hl 0 rfl) ?_
  refine lv_bipush (v := 10) hx hb dX5_isBlank_1 (by decide) ?_
  refine lv_icmp_eq (tgt := 12) hx hb dX5_isBlank_3 (by decide) (fun c_1 => ?_) (fun c_1 => ?_)
  · replace hw := hw.1 c_1
    refine lv_iconst (v := 1) hx hb dX5_isBlank_12 (by decide) ?_
    refine lv_goto (tgt := 17) hx hb dX5_isBlank_13 (by decide) ?_
    exact kR17 1  _ _ _ (Or.inr rfl) hw hP hD hS
  · replace hw := hw.2 c_1
    refine lv_iload_n hx hb dX5_isBlank_6 rfl (lv_at hl 0 rfl) ?_
    refine lv_bipush (v := 32) hx hb dX5_isBlank_7 (by decide) ?_
    refine lv_icmp_ne (tgt := 16) hx hb dX5_isBlank_9 (by decide) (fun c_2 => ?_) (fun c_2 => ?_)
    · replace hw := hw.1 c_2
      refine lv_iconst (v := 0) hx hb dX5_isBlank_16 (by decide) ?_
      exact kR17 0  _ _ _ (Or.inl rfl) hw hP hD hS
    · replace hw := hw.2 c_2
      refine lv_iconst (v := 1) hx hb dX5_isBlank_12 (by decide) ?_
      refine lv_goto (tgt := 17) hx hb dX5_isBlank_13 (by decide) ?_
      exact kR17 1  _ _ _ (Or.inr rfl) hw hP hD hS
set_option maxHeartbeats 4000000 in
set_option maxRecDepth 100000 in
theorem c_X5_isBlank (l : Launch) (D : va_G) (ak : Nat → ClassId) (ad : Nat → Nat) (sz : Nat) (xs : Int32) (Φ : Int32 → Prop) (hf : wp_X5_isBlank xs Φ) : Met l yX5_isBlank wsX5_isBlank ({ frames := 0, cells := 0, slots := 0, locals := 0 }) (cPre D ak ad [.int (xs)] ([]) sz) (cI D (S := Unit) (fun (r : Int32) (u : Unit) => Φ r ) (fun u => []) ([]) sz) 0 0 (va_A ([]) sz) := by
  refine Met.ofW (cc := cX5_isBlank) (maxL := 1) (ret := (some .boolean)) (by decide) rfl ?_
  intro p e s m args below meth c s₁ B hml hv
  obtain ⟨rfl, hsz, hP, hE, hD0, hT⟩ := hv
  have hx := B.exec
  have hb := B.bytes
  have hr := B.returns
  have hts := atoms_spec (ws := wsX5_isBlank) B.pre
  have hown : s.vm.findClass RX5 = some m.cls := findClass_of_methodNamed B.named
  have hlocks := B.notSynchronized
  subst hsz
  have hD := hD0.self (sz := s.heap.size)
  generalize hAe : va_A ([]) s.heap.size = A at hD hT ⊢
  have hA : ∀ q : Nat, s.heap.size ≤ q → A q := fun q h => by rw [← hAe]; exact Or.inr h
  have hS : va_S A s.heap s.heap [] := va_S.rf
  have hl := lv_entry ([.int (xs)]) (n := 1) (Nat.le_of_ble_eq_true rfl)
  rw [lg_entry_eq]
  generalize (lg_sl ([.int (xs)]) ++ List.replicate (1 - (lg_sl ([.int (xs)])).length) Slot.unset).toArray = ls at hl ⊢
  have hl : lv_has ls 1 [(0, .int (xs))] := hl
  exact kj_X5_isBlank_e hx hb hown hts hml hE hT hA xs Φ (fun r  H locs ls hz hw hP hD hS => W.zret (v := r) hx hb hr (bl_zn hz) (fun t ht hW => ⟨⟨r, (), rfl, hw, by rw [ht]; exact hP, by rw [hAe]; exact hD⟩, by rw [hAe]; exact hS.F ht⟩) hS.2.2 dX5_isBlank_17)  _ _ _ hf hP hD hS hl

def kf_X5_kindOf_15 (xs : Int32)  (Φ : Int32 → Prop)  : Prop := (xs < 48 → Φ 0 ) ∧ (¬ xs < 48 → (57 < xs → Φ 0 ) ∧ (¬ 57 < xs → Φ 48 ))
set_option maxHeartbeats 4000000 in
set_option maxRecDepth 100000 in
theorem kj_X5_kindOf_15 {p : Program} {l : Launch} {e : Env} {R : Room} {s : State} {m : MethodId} {args : Array Value} {below : List Frame} {meth : Method} {c : Code} {cells slots : Nat} {Q : State → Prop} {A : Nat → Prop} {D : va_G} {ak : Nat → ClassId} {ad : Nat → Nat} (hx : p.tables.exec = Jvm.exec) (hb : c.code = cX5_kindOf) (hown : s.vm.findClass RX5 = some m.cls) (hts : ∀ w ∈ wsX5_kindOf, w.before args s = true) (hml : c.maxLocals = 1) (hE : EV D ak s) (hT : ST D ak ad A s s.heap) (hA : ∀ q, s.heap.size ≤ q → A q) (xs : Int32)  (Φ : Int32 → Prop)
    (kR14 : ∀ (r : Int32)  (H : Heap) (locs : List Loc) (ls : Array Slot), Φ r  → va_P D vwCl [] H → va_D A [] → va_S A s.heap H locs → W p l e R s m args below meth c H locs cells slots Q (F0 m 14 ls [.int r]))
    (kR33 : ∀ (r : Int32)  (H : Heap) (locs : List Loc) (ls : Array Slot), Φ r  → va_P D vwCl [] H → va_D A [] → va_S A s.heap H locs → W p l e R s m args below meth c H locs cells slots Q (F0 m 33 ls [.int r]))
    : ∀  (H : Heap) (locs : List Loc) (ls : Array Slot), kf_X5_kindOf_15 xs  Φ  → va_P D vwCl [] H → va_D A [] → va_S A s.heap H locs → lv_has ls 1 [(0, .int (xs))] → W p l e R s m args below meth c H locs cells slots Q (F0 m 15 ls ([])) := by
  intro  H locs ls hw hP hD hS hl
  delta kf_X5_kindOf_15 at hw
  refine lv_iload_n hx hb dX5_kindOf_15 rfl (lv_at hl 0 rfl) ?_
  refine lv_bipush (v := 48) hx hb dX5_kindOf_16 (by decide) ?_
  refine lv_icmp_lt (tgt := 32) hx hb dX5_kindOf_18 (by decide) (fun c_2 => ?_) (fun c_2 => ?_)
  · replace hw := hw.1 c_2
    refine lv_iconst (v := 0) hx hb dX5_kindOf_32 (by decide) ?_
    exact kR33 0  _ _ _ hw hP hD hS
  · replace hw := hw.2 c_2
    refine lv_iload_n hx hb dX5_kindOf_21 rfl (lv_at hl 0 rfl) ?_
    refine lv_bipush (v := 57) hx hb dX5_kindOf_22 (by decide) ?_
    refine lv_icmp_gt (tgt := 32) hx hb dX5_kindOf_24 (by decide) (fun c_3 => ?_) (fun c_3 => ?_)
    · replace hw := hw.1 c_3
      refine lv_iconst (v := 0) hx hb dX5_kindOf_32 (by decide) ?_
      exact kR33 0  _ _ _ hw hP hD hS
    · replace hw := hw.2 c_3
      refine lv_bipush (v := 48) hx hb dX5_kindOf_27 (by decide) ?_
      refine lv_goto (tgt := 33) hx hb dX5_kindOf_29 (by decide) ?_
      exact kR33 48  _ _ _ hw hP hD hS

def wp_X5_kindOf (xs : Int32)  (Φ : Int32 → Prop) : Prop := (xs < 97 → kf_X5_kindOf_15 xs  Φ ) ∧ (¬ xs < 97 → (122 < xs → kf_X5_kindOf_15 xs  Φ ) ∧ (¬ 122 < xs → Φ 97 ))
set_option maxHeartbeats 4000000 in
set_option maxRecDepth 100000 in
theorem kj_X5_kindOf_e {p : Program} {l : Launch} {e : Env} {R : Room} {s : State} {m : MethodId} {args : Array Value} {below : List Frame} {meth : Method} {c : Code} {cells slots : Nat} {Q : State → Prop} {A : Nat → Prop} {D : va_G} {ak : Nat → ClassId} {ad : Nat → Nat} (hx : p.tables.exec = Jvm.exec) (hb : c.code = cX5_kindOf) (hown : s.vm.findClass RX5 = some m.cls) (hts : ∀ w ∈ wsX5_kindOf, w.before args s = true) (hml : c.maxLocals = 1) (hE : EV D ak s) (hT : ST D ak ad A s s.heap) (hA : ∀ q, s.heap.size ≤ q → A q) (xs : Int32)  (Φ : Int32 → Prop)
    (kR14 : ∀ (r : Int32)  (H : Heap) (locs : List Loc) (ls : Array Slot), Φ r  → va_P D vwCl [] H → va_D A [] → va_S A s.heap H locs → W p l e R s m args below meth c H locs cells slots Q (F0 m 14 ls [.int r]))
    (kR33 : ∀ (r : Int32)  (H : Heap) (locs : List Loc) (ls : Array Slot), Φ r  → va_P D vwCl [] H → va_D A [] → va_S A s.heap H locs → W p l e R s m args below meth c H locs cells slots Q (F0 m 33 ls [.int r]))
    : ∀  (H : Heap) (locs : List Loc) (ls : Array Slot), wp_X5_kindOf xs  Φ → va_P D vwCl [] H → va_D A [] → va_S A s.heap H locs → lv_has ls 1 [(0, .int (xs))] → W p l e R s m args below meth c H locs cells slots Q (F0 m 0 ls ([])) := by
  intro  H locs ls hw hP hD hS hl
  delta wp_X5_kindOf at hw
  refine lv_iload_n hx hb dX5_kindOf_0 rfl (lv_at hl 0 rfl) ?_
  refine lv_bipush (v := 97) hx hb dX5_kindOf_1 (by decide) ?_
  refine lv_icmp_lt (tgt := 15) hx hb dX5_kindOf_3 (by decide) (fun c_1 => ?_) (fun c_1 => ?_)
  · replace hw := hw.1 c_1
    exact kj_X5_kindOf_15 hx hb hown hts hml hE hT hA xs  Φ  kR14 kR33  _ _ _ hw hP hD hS (lv_sub hl [0] rfl)
  · replace hw := hw.2 c_1
    refine lv_iload_n hx hb dX5_kindOf_6 rfl (lv_at hl 0 rfl) ?_
    refine lv_bipush (v := 122) hx hb dX5_kindOf_7 (by decide) ?_
    refine lv_icmp_gt (tgt := 15) hx hb dX5_kindOf_9 (by decide) (fun c_4 => ?_) (fun c_4 => ?_)
    · replace hw := hw.1 c_4
      exact kj_X5_kindOf_15 hx hb hown hts hml hE hT hA xs  Φ  kR14 kR33  _ _ _ hw hP hD hS (lv_sub hl [0] rfl)
    · replace hw := hw.2 c_4
      refine lv_bipush (v := 97) hx hb dX5_kindOf_12 (by decide) ?_
      exact kR14 97  _ _ _ hw hP hD hS
set_option maxHeartbeats 4000000 in
set_option maxRecDepth 100000 in
theorem c_X5_kindOf (l : Launch) (D : va_G) (ak : Nat → ClassId) (ad : Nat → Nat) (sz : Nat) (xs : Int32) (Φ : Int32 → Prop) (hf : wp_X5_kindOf xs Φ) : Met l yX5_kindOf wsX5_kindOf ({ frames := 0, cells := 0, slots := 0, locals := 0 }) (cPre D ak ad [.int (xs)] ([]) sz) (cI D (S := Unit) (fun (r : Int32) (u : Unit) => Φ r ) (fun u => []) ([]) sz) 0 0 (va_A ([]) sz) := by
  refine Met.ofW (cc := cX5_kindOf) (maxL := 1) (ret := (some .int)) (by decide) rfl ?_
  intro p e s m args below meth c s₁ B hml hv
  obtain ⟨rfl, hsz, hP, hE, hD0, hT⟩ := hv
  have hx := B.exec
  have hb := B.bytes
  have hr := B.returns
  have hts := atoms_spec (ws := wsX5_kindOf) B.pre
  have hown : s.vm.findClass RX5 = some m.cls := findClass_of_methodNamed B.named
  have hlocks := B.notSynchronized
  subst hsz
  have hD := hD0.self (sz := s.heap.size)
  generalize hAe : va_A ([]) s.heap.size = A at hD hT ⊢
  have hA : ∀ q : Nat, s.heap.size ≤ q → A q := fun q h => by rw [← hAe]; exact Or.inr h
  have hS : va_S A s.heap s.heap [] := va_S.rf
  have hl := lv_entry ([.int (xs)]) (n := 1) (Nat.le_of_ble_eq_true rfl)
  rw [lg_entry_eq]
  generalize (lg_sl ([.int (xs)]) ++ List.replicate (1 - (lg_sl ([.int (xs)])).length) Slot.unset).toArray = ls at hl ⊢
  have hl : lv_has ls 1 [(0, .int (xs))] := hl
  exact kj_X5_kindOf_e hx hb hown hts hml hE hT hA xs Φ (fun r  H locs ls hw hP hD hS => W.iret (v := r) hx hb hr (fun t ht hW => ⟨⟨r, (), rfl, hw, by rw [ht]; exact hP, by rw [hAe]; exact hD⟩, by rw [hAe]; exact hS.F ht⟩) hS.2.2 dX5_kindOf_14) (fun r  H locs ls hw hP hD hS => W.iret (v := r) hx hb hr (fun t ht hW => ⟨⟨r, (), rfl, hw, by rw [ht]; exact hP, by rw [hAe]; exact hD⟩, by rw [hAe]; exact hS.F ht⟩) hS.2.2 dX5_kindOf_33)  _ _ _ hf hP hD hS hl

def wW_X5_addBytes (ak : Nat → ClassId) (ad : Nat → Nat) (ht : Nat) (ta : Nat → Nat) (Tlen : Int32) (Tcnt : Int32) (Tsigns : Nat → Int32) : va_W := [(ht, .inr (5, tob ta (Tlen) (Tcnt))), ((ta 0), .inl (ak 2, 1000, .inl (Tsigns)))]
def kf_X5_addBytes_48 (xb : Int64) (κ3 : Int32 → (Nat → Int32) → Int32 → Prop) (Φ : Int32 → (Nat → Int32) → Prop) (Tlen : Int32) (Tsigns : Nat → Int32) (l3 : Int32) (l4 : Int32) : Prop := vp_in Tlen 1000 ∧ κ3 (Tlen + 1) (upd Tsigns (Tlen).toNatClampNeg (vp_nar .char ((l4.toUInt32 % 65536).toInt32))) (l3 + (-8))
set_option maxHeartbeats 4000000 in
set_option maxRecDepth 100000 in
theorem kj_X5_addBytes_48 {p : Program} {l : Launch} {e : Env} {R : Room} {s : State} {m : MethodId} {args : Array Value} {below : List Frame} {meth : Method} {c : Code} {cells slots : Nat} {Q : State → Prop} {A : Nat → Prop} {D : va_G} {ak : Nat → ClassId} {ad : Nat → Nat} (hx : p.tables.exec = Jvm.exec) (hb : c.code = cX5_addBytes) (hown : s.vm.findClass RX5 = some m.cls) (hts : ∀ w ∈ wsX5_addBytes, w.before args s = true) (hml : c.maxLocals = 5) (hE : EV D ak s) (hT : ST D ak ad A s s.heap) (hA : ∀ q, s.heap.size ≤ q → A q) (ht : Nat) (ta : Nat → Nat) (Tcnt : Int32) (xb : Int64) (κ3 : Int32 → (Nat → Int32) → Int32 → Prop) (Φ : Int32 → (Nat → Int32) → Prop)
    (kk3 : ∀ (Tlen : Int32) (Tsigns : Nat → Int32) (l3 : Int32) (H : Heap) (locs : List Loc) (ls : Array Slot), κ3 Tlen Tsigns l3 → va_P D vwCl (wW_X5_addBytes ak ad ht ta Tlen Tcnt Tsigns) H → va_D A (wW_X5_addBytes ak ad ht ta Tlen Tcnt Tsigns) → va_S A s.heap H locs → lv_has ls 5 [(0, .ref ht), (1, .long (xb)), (3, .int (l3))] → W p l e R s m args below meth c H locs cells slots Q (F0 m 3 ls ([])))
    (kR76 : ∀ (Tlen : Int32) (Tsigns : Nat → Int32) (H : Heap) (locs : List Loc) (ls : Array Slot), Φ Tlen Tsigns → va_P D vwCl (wW_X5_addBytes ak ad ht ta Tlen Tcnt Tsigns) H → va_D A (wW_X5_addBytes ak ad ht ta Tlen Tcnt Tsigns) → va_S A s.heap H locs → W p l e R s m args below meth c H locs cells slots Q (F0 m 76 ls []))
    : ∀ (Tlen : Int32) (Tsigns : Nat → Int32) (l3 : Int32) (l4 : Int32) (H : Heap) (locs : List Loc) (ls : Array Slot), kf_X5_addBytes_48 xb κ3 Φ Tlen Tsigns l3 l4 → va_P D vwCl (wW_X5_addBytes ak ad ht ta Tlen Tcnt Tsigns) H → va_D A (wW_X5_addBytes ak ad ht ta Tlen Tcnt Tsigns) → va_S A s.heap H locs → lv_has ls 5 [(0, .ref ht), (1, .long (xb)), (3, .int (l3)), (4, .int (l4))] → W p l e R s m args below meth c H locs cells slots Q (F0 m 48 ls ([])) := by
  intro Tlen Tsigns l3 l4 H locs ls hw hP hD hS hl
  delta kf_X5_addBytes_48 at hw
  refine lv_aload_n hx hb dX5_addBytes_48 rfl (lv_at hl 0 rfl) ?_
  refine va_get (D := D) (ci := 5) (v := .ref (ta 0)) (C := RX5) (T := TX5) (N := 6) hx hb hts (fun w h => wm_c (wc_X5 w h)) hown hE.1 hP 0 rfl rfl 0 (by decide) (hts (.fieldLink RX5 9 "WornLines$Tape" "signs" "[C") (wm_c hw_264)) (fun _ h9 => h9) rfl dX5_addBytes_49 ?_
  refine lv_aload_n hx hb dX5_addBytes_52 rfl (lv_at hl 0 rfl) ?_
  refine va_get (D := D) (ci := 5) (v := .int (Tlen)) (C := RX5) (T := TX5) (N := 6) hx hb hts (fun w h => wm_c (wc_X5 w h)) hown hE.1 hP 0 rfl rfl 1 (by decide) (hts (.fieldLink RX5 29 "WornLines$Tape" "length" "I") (wm_c hw_392)) (fun _ h9 => h9) rfl dX5_addBytes_53 ?_
  refine lv_iload hx hb dX5_addBytes_56 (lv_at hl 3 rfl) ?_
  refine lv_i2c (v := (l4.toUInt32 % 65536).toInt32) hx hb dX5_addBytes_58 rfl ?_
  obtain ⟨h_4, hw⟩ := hw
  refine va_cast hx hb hE.1 hP hD hS 1 2 rfl rfl (h_4) dX5_addBytes_59 (fun H locs hP hD hS => ?_)
  have hP : va_P D vwCl (wW_X5_addBytes ak ad ht ta Tlen Tcnt (upd Tsigns (Tlen).toNatClampNeg (vp_nar .char ((l4.toUInt32 % 65536).toInt32)))) H := hP
  have hD : va_D A (wW_X5_addBytes ak ad ht ta Tlen Tcnt (upd Tsigns (Tlen).toNatClampNeg (vp_nar .char ((l4.toUInt32 % 65536).toInt32)))) := hD
  refine lv_aload_n hx hb dX5_addBytes_60 rfl (lv_at hl 0 rfl) ?_
  refine lv_dup hx hb dX5_addBytes_61 rfl ?_
  refine va_get (D := D) (ci := 5) (v := .int (Tlen)) (C := RX5) (T := TX5) (N := 6) hx hb hts (fun w h => wm_c (wc_X5 w h)) hown hE.1 hP 0 rfl rfl 1 (by decide) (hts (.fieldLink RX5 29 "WornLines$Tape" "length" "I") (wm_c hw_392)) (fun _ h9 => h9) rfl dX5_addBytes_62 ?_
  refine lv_iconst (v := 1) hx hb dX5_addBytes_65 (by decide) ?_
  refine lv_iadd hx hb dX5_addBytes_66 ?_
  refine va_put (D := D) (ci := 5) (v := .int (Tlen + 1)) (ty := .int) (C := RX5) (T := TX5) (N := 6) hx hb hts (fun w h => wm_c (wc_X5 w h)) tyX5 tyX5_ok nmX5 hown hE.1 hP hD hS 0 rfl rfl 1 (by decide) (hts (.fieldLink RX5 29 "WornLines$Tape" "length" "I") (wm_c hw_392)) (fun _ h9 => h9) rfl (by decide +kernel) (rfl) rfl (Nat.le_of_ble_eq_true rfl) dX5_addBytes_67 (fun H locs hP hD hS => ?_)
  have hP : va_P D vwCl (wW_X5_addBytes ak ad ht ta (Tlen + 1) Tcnt (upd Tsigns (Tlen).toNatClampNeg (vp_nar .char ((l4.toUInt32 % 65536).toInt32)))) H := hP
  have hD : va_D A (wW_X5_addBytes ak ad ht ta (Tlen + 1) Tcnt (upd Tsigns (Tlen).toNatClampNeg (vp_nar .char ((l4.toUInt32 % 65536).toInt32)))) := hD
  refine lv_iinc (v := (l3 + (-8))) (lv' := [(3, .int (l3 + (-8))), (0, .ref ht), (1, .long (xb)), (4, .int (l4))]) hx hb dX5_addBytes_70 hl (k := 2) rfl (rfl) (by decide) rfl (fun ls hl => ?_)
  refine lv_goto (tgt := 3) hx hb dX5_addBytes_73 (by decide) ?_
  exact kk3 (Tlen + 1) (upd Tsigns (Tlen).toNatClampNeg (vp_nar .char ((l4.toUInt32 % 65536).toInt32))) (l3 + (-8)) _ _ _ hw hP hD hS (lv_sub hl [1, 2, 0] rfl)

def lb_X5_addBytes_3 (xb : Int64)  (Φ : Int32 → (Nat → Int32) → Prop) (back : Int32 → (Nat → Int32) → Int32 → Prop) (Tlen : Int32) (Tsigns : Nat → Int32) (l3 : Int32) : Prop := (l3 < 0 → Φ Tlen Tsigns) ∧ (¬ l3 < 0 → (1000 ≤ Tlen → back Tlen Tsigns (l3 + (-8))) ∧ (¬ 1000 ≤ Tlen → ((((((xb).toUInt64 >>> (l3.toInt64.toUInt64 &&& Int64.toUInt64 63)).toInt64).toInt32) &&& 255) = 10 → kf_X5_addBytes_48 xb back Φ Tlen Tsigns l3 (((((xb).toUInt64 >>> (l3.toInt64.toUInt64 &&& Int64.toUInt64 63)).toInt64).toInt32) &&& 255)) ∧ (¬ (((((xb).toUInt64 >>> (l3.toInt64.toUInt64 &&& Int64.toUInt64 63)).toInt64).toInt32) &&& 255) = 10 → ((((((xb).toUInt64 >>> (l3.toInt64.toUInt64 &&& Int64.toUInt64 63)).toInt64).toInt32) &&& 255) < 32 → back Tlen Tsigns (l3 + (-8))) ∧ (¬ (((((xb).toUInt64 >>> (l3.toInt64.toUInt64 &&& Int64.toUInt64 63)).toInt64).toInt32) &&& 255) < 32 → (126 < (((((xb).toUInt64 >>> (l3.toInt64.toUInt64 &&& Int64.toUInt64 63)).toInt64).toInt32) &&& 255) → back Tlen Tsigns (l3 + (-8))) ∧ (¬ 126 < (((((xb).toUInt64 >>> (l3.toInt64.toUInt64 &&& Int64.toUInt64 63)).toInt64).toInt32) &&& 255) → kf_X5_addBytes_48 xb back Φ Tlen Tsigns l3 (((((xb).toUInt64 >>> (l3.toInt64.toUInt64 &&& Int64.toUInt64 63)).toInt64).toInt32) &&& 255))))))
def lf_X5_addBytes_3 (xb : Int64)  (Φ : Int32 → (Nat → Int32) → Prop) : Nat → Int32 → (Nat → Int32) → Int32 → Prop
  | 0, _, _, _ => False
  | n_ + 1, Tlen, Tsigns, l3 => lb_X5_addBytes_3 xb  Φ (lf_X5_addBytes_3 xb  Φ n_) Tlen Tsigns l3
theorem li_X5_addBytes_3 (xb : Int64)  (Φ : Int32 → (Nat → Int32) → Prop) (Inv : Int32 → (Nat → Int32) → Int32 → Prop) (mu : Int32 → (Nat → Int32) → Int32 → Nat) (hs : ∀ (back : Int32 → (Nat → Int32) → Int32 → Prop) (Tlen : Int32) (Tsigns : Nat → Int32) (l3 : Int32), Inv Tlen Tsigns l3 → (∀ (Tlen' : Int32) (Tsigns' : Nat → Int32) (l3' : Int32), Inv Tlen' Tsigns' l3' → mu Tlen' Tsigns' l3' < mu Tlen Tsigns l3 → back Tlen' Tsigns' l3') → lb_X5_addBytes_3 xb  Φ back Tlen Tsigns l3) : ∀ (n_ : Nat) (Tlen : Int32) (Tsigns : Nat → Int32) (l3 : Int32), Inv Tlen Tsigns l3 → mu Tlen Tsigns l3 < n_ → lf_X5_addBytes_3 xb  Φ n_ Tlen Tsigns l3 := by
  intro n_
  induction n_ with
  | zero => intro Tlen Tsigns l3 _ h; exact absurd h (Nat.not_lt_zero _)
  | succ n_ ih => intro Tlen Tsigns l3 hI hm; exact hs _ Tlen Tsigns l3 hI (fun Tlen' Tsigns' l3' h1 h2 => ih Tlen' Tsigns' l3' h1 (by omega))
set_option maxHeartbeats 4000000 in
set_option maxRecDepth 100000 in
theorem lp_X5_addBytes_3 {p : Program} {l : Launch} {e : Env} {R : Room} {s : State} {m : MethodId} {args : Array Value} {below : List Frame} {meth : Method} {c : Code} {cells slots : Nat} {Q : State → Prop} {A : Nat → Prop} {D : va_G} {ak : Nat → ClassId} {ad : Nat → Nat} (hx : p.tables.exec = Jvm.exec) (hb : c.code = cX5_addBytes) (hown : s.vm.findClass RX5 = some m.cls) (hts : ∀ w ∈ wsX5_addBytes, w.before args s = true) (hml : c.maxLocals = 5) (hE : EV D ak s) (hT : ST D ak ad A s s.heap) (hA : ∀ q, s.heap.size ≤ q → A q) (ht : Nat) (ta : Nat → Nat) (Tcnt : Int32) (xb : Int64)  (Φ : Int32 → (Nat → Int32) → Prop)
    (kR76 : ∀ (Tlen : Int32) (Tsigns : Nat → Int32) (H : Heap) (locs : List Loc) (ls : Array Slot), Φ Tlen Tsigns → va_P D vwCl (wW_X5_addBytes ak ad ht ta Tlen Tcnt Tsigns) H → va_D A (wW_X5_addBytes ak ad ht ta Tlen Tcnt Tsigns) → va_S A s.heap H locs → W p l e R s m args below meth c H locs cells slots Q (F0 m 76 ls []))
    : ∀ (n_ : Nat) (Tlen : Int32) (Tsigns : Nat → Int32) (l3 : Int32) (H : Heap) (locs : List Loc) (ls : Array Slot), lf_X5_addBytes_3 xb  Φ n_ Tlen Tsigns l3 → va_P D vwCl (wW_X5_addBytes ak ad ht ta Tlen Tcnt Tsigns) H → va_D A (wW_X5_addBytes ak ad ht ta Tlen Tcnt Tsigns) → va_S A s.heap H locs → lv_has ls 5 [(0, .ref ht), (1, .long (xb)), (3, .int (l3))] → W p l e R s m args below meth c H locs cells slots Q (F0 m 3 ls ([])) := by
  intro n_
  induction n_ with
  | zero =>
    intro Tlen Tsigns l3 H locs ls hw
    exact hw.elim
  | succ n_ ih =>
    intro Tlen Tsigns l3 H locs ls hw hP hD hS hl
    have hw : lb_X5_addBytes_3 xb  Φ (lf_X5_addBytes_3 xb  Φ n_) Tlen Tsigns l3 := hw
    delta lb_X5_addBytes_3 at hw
    refine lv_iload_n hx hb dX5_addBytes_3 rfl (lv_at hl 2 rfl) ?_
    refine lv_if_lt (tgt := 76) hx hb dX5_addBytes_4 (by decide) (fun c_1 => ?_) (fun c_1 => ?_)
    · replace hw := hw.1 c_1
      exact kR76 Tlen Tsigns _ _ _ hw hP hD hS
    · replace hw := hw.2 c_1
      refine lv_lload_n hx hb dX5_addBytes_7 rfl (lv_at hl 1 rfl) ?_
      refine lv_iload_n hx hb dX5_addBytes_8 rfl (lv_at hl 2 rfl) ?_
      refine lv_lushr (v := ((xb).toUInt64 >>> (l3.toInt64.toUInt64 &&& Int64.toUInt64 63)).toInt64) hx hb dX5_addBytes_9 rfl ?_
      refine lv_l2i (v := (((xb).toUInt64 >>> (l3.toInt64.toUInt64 &&& Int64.toUInt64 63)).toInt64).toInt32) hx hb dX5_addBytes_10 rfl ?_
      refine lv_sipush (v := 255) hx hb dX5_addBytes_11 (by decide) ?_
      refine lv_iand hx hb dX5_addBytes_14 ?_
      refine lv_istore (lv' := [(4, .int (((((xb).toUInt64 >>> (l3.toInt64.toUInt64 &&& Int64.toUInt64 63)).toInt64).toInt32) &&& 255)), (0, .ref ht), (1, .long (xb)), (3, .int (l3))]) hx hb dX5_addBytes_15 hl (by decide) rfl (fun ls hl => ?_)
      refine lv_aload_n hx hb dX5_addBytes_17 rfl (lv_at hl 1 rfl) ?_
      refine va_get (D := D) (ci := 5) (v := .int (Tlen)) (C := RX5) (T := TX5) (N := 6) hx hb hts (fun w h => wm_c (wc_X5 w h)) hown hE.1 hP 0 rfl rfl 1 (by decide) (hts (.fieldLink RX5 29 "WornLines$Tape" "length" "I") (wm_c hw_392)) (fun _ h9 => h9) rfl dX5_addBytes_18 ?_
      refine lv_sipush (v := 1000) hx hb dX5_addBytes_21 (by decide) ?_
      refine lv_icmp_ge (tgt := 70) hx hb dX5_addBytes_24 (by decide) (fun c_2 => ?_) (fun c_2 => ?_)
      · replace hw := hw.1 c_2
        refine lv_iinc (v := (l3 + (-8))) (lv' := [(3, .int (l3 + (-8))), (4, .int (((((xb).toUInt64 >>> (l3.toInt64.toUInt64 &&& Int64.toUInt64 63)).toInt64).toInt32) &&& 255)), (0, .ref ht), (1, .long (xb))]) hx hb dX5_addBytes_70 hl (k := 3) rfl (rfl) (by decide) rfl (fun ls hl => ?_)
        refine lv_goto (tgt := 3) hx hb dX5_addBytes_73 (by decide) ?_
        exact ih Tlen Tsigns (l3 + (-8)) _ _ _ hw hP hD hS (lv_sub hl [2, 3, 0] rfl)
      · replace hw := hw.2 c_2
        refine lv_iload hx hb dX5_addBytes_27 (lv_at hl 0 rfl) ?_
        refine lv_bipush (v := 10) hx hb dX5_addBytes_29 (by decide) ?_
        refine lv_icmp_eq (tgt := 48) hx hb dX5_addBytes_31 (by decide) (fun c_3 => ?_) (fun c_3 => ?_)
        · replace hw := hw.1 c_3
          exact kj_X5_addBytes_48 hx hb hown hts hml hE hT hA ht ta Tcnt xb _ Φ ih kR76 Tlen Tsigns l3 (((((xb).toUInt64 >>> (l3.toInt64.toUInt64 &&& Int64.toUInt64 63)).toInt64).toInt32) &&& 255) _ _ _ hw hP hD hS (lv_sub hl [1, 2, 3, 0] rfl)
        · replace hw := hw.2 c_3
          refine lv_iload hx hb dX5_addBytes_34 (lv_at hl 0 rfl) ?_
          refine lv_bipush (v := 32) hx hb dX5_addBytes_36 (by decide) ?_
          refine lv_icmp_lt (tgt := 70) hx hb dX5_addBytes_38 (by decide) (fun c_5 => ?_) (fun c_5 => ?_)
          · replace hw := hw.1 c_5
            refine lv_iinc (v := (l3 + (-8))) (lv' := [(3, .int (l3 + (-8))), (4, .int (((((xb).toUInt64 >>> (l3.toInt64.toUInt64 &&& Int64.toUInt64 63)).toInt64).toInt32) &&& 255)), (0, .ref ht), (1, .long (xb))]) hx hb dX5_addBytes_70 hl (k := 3) rfl (rfl) (by decide) rfl (fun ls hl => ?_)
            refine lv_goto (tgt := 3) hx hb dX5_addBytes_73 (by decide) ?_
            exact ih Tlen Tsigns (l3 + (-8)) _ _ _ hw hP hD hS (lv_sub hl [2, 3, 0] rfl)
          · replace hw := hw.2 c_5
            refine lv_iload hx hb dX5_addBytes_41 (lv_at hl 0 rfl) ?_
            refine lv_bipush (v := 126) hx hb dX5_addBytes_43 (by decide) ?_
            refine lv_icmp_gt (tgt := 70) hx hb dX5_addBytes_45 (by decide) (fun c_6 => ?_) (fun c_6 => ?_)
            · replace hw := hw.1 c_6
              refine lv_iinc (v := (l3 + (-8))) (lv' := [(3, .int (l3 + (-8))), (4, .int (((((xb).toUInt64 >>> (l3.toInt64.toUInt64 &&& Int64.toUInt64 63)).toInt64).toInt32) &&& 255)), (0, .ref ht), (1, .long (xb))]) hx hb dX5_addBytes_70 hl (k := 3) rfl (rfl) (by decide) rfl (fun ls hl => ?_)
              refine lv_goto (tgt := 3) hx hb dX5_addBytes_73 (by decide) ?_
              exact ih Tlen Tsigns (l3 + (-8)) _ _ _ hw hP hD hS (lv_sub hl [2, 3, 0] rfl)
            · replace hw := hw.2 c_6
              exact kj_X5_addBytes_48 hx hb hown hts hml hE hT hA ht ta Tcnt xb _ Φ ih kR76 Tlen Tsigns l3 (((((xb).toUInt64 >>> (l3.toInt64.toUInt64 &&& Int64.toUInt64 63)).toInt64).toInt32) &&& 255) _ _ _ hw hP hD hS (lv_sub hl [1, 2, 3, 0] rfl)

def wp_X5_addBytes (xb : Int64) (Tlen : Int32) (Tsigns : Nat → Int32) (Φ : Int32 → (Nat → Int32) → Prop) : Prop := (∃ n_, lf_X5_addBytes_3 xb  Φ n_ Tlen Tsigns 56)
set_option maxHeartbeats 4000000 in
set_option maxRecDepth 100000 in
theorem kj_X5_addBytes_e {p : Program} {l : Launch} {e : Env} {R : Room} {s : State} {m : MethodId} {args : Array Value} {below : List Frame} {meth : Method} {c : Code} {cells slots : Nat} {Q : State → Prop} {A : Nat → Prop} {D : va_G} {ak : Nat → ClassId} {ad : Nat → Nat} (hx : p.tables.exec = Jvm.exec) (hb : c.code = cX5_addBytes) (hown : s.vm.findClass RX5 = some m.cls) (hts : ∀ w ∈ wsX5_addBytes, w.before args s = true) (hml : c.maxLocals = 5) (hE : EV D ak s) (hT : ST D ak ad A s s.heap) (hA : ∀ q, s.heap.size ≤ q → A q) (ht : Nat) (ta : Nat → Nat) (Tcnt : Int32) (xb : Int64)  (Φ : Int32 → (Nat → Int32) → Prop)
    (kR76 : ∀ (Tlen : Int32) (Tsigns : Nat → Int32) (H : Heap) (locs : List Loc) (ls : Array Slot), Φ Tlen Tsigns → va_P D vwCl (wW_X5_addBytes ak ad ht ta Tlen Tcnt Tsigns) H → va_D A (wW_X5_addBytes ak ad ht ta Tlen Tcnt Tsigns) → va_S A s.heap H locs → W p l e R s m args below meth c H locs cells slots Q (F0 m 76 ls []))
    : ∀ (Tlen : Int32) (Tsigns : Nat → Int32) (H : Heap) (locs : List Loc) (ls : Array Slot), wp_X5_addBytes xb Tlen Tsigns Φ → va_P D vwCl (wW_X5_addBytes ak ad ht ta Tlen Tcnt Tsigns) H → va_D A (wW_X5_addBytes ak ad ht ta Tlen Tcnt Tsigns) → va_S A s.heap H locs → lv_has ls 5 [(0, .ref ht), (1, .long (xb))] → W p l e R s m args below meth c H locs cells slots Q (F0 m 0 ls ([])) := by
  intro Tlen Tsigns H locs ls hw hP hD hS hl
  delta wp_X5_addBytes at hw
  refine lv_bipush (v := 56) hx hb dX5_addBytes_0 (by decide) ?_
  refine lv_istore_n (lv' := [(3, .int (56)), (0, .ref ht), (1, .long (xb))]) hx hb dX5_addBytes_2 rfl hl (by decide) rfl (fun ls hl => ?_)
  obtain ⟨n1_, hw⟩ := hw
  exact lp_X5_addBytes_3 hx hb hown hts hml hE hT hA ht ta Tcnt xb  Φ  kR76 n1_ Tlen Tsigns 56 _ _ _ hw hP hD hS (lv_sub hl [1, 2, 0] rfl)
set_option maxHeartbeats 4000000 in
set_option maxRecDepth 100000 in
theorem c_X5_addBytes (l : Launch) (D : va_G) (ak : Nat → ClassId) (ad : Nat → Nat) (sz : Nat) (ht : Nat) (ta : Nat → Nat) (Tlen : Int32) (Tcnt : Int32) (Tsigns : Nat → Int32) (xb : Int64) (Φ : Int32 → (Nat → Int32) → Prop) (hf : wp_X5_addBytes xb Tlen Tsigns Φ) : Met l yX5_addBytes wsX5_addBytes ({ frames := 0, cells := 0, slots := 0, locals := 0 }) (cPre D ak ad [.ref ht, .long (xb)] ((wW_X5_addBytes ak ad ht ta Tlen Tcnt Tsigns)) sz) (cV D (S := (Int32) × (Nat → Int32)) (fun (u : (Int32) × (Nat → Int32)) => Φ u.1 u.2) (fun u => (wW_X5_addBytes ak ad ht ta u.1 Tcnt u.2)) ((wW_X5_addBytes ak ad ht ta Tlen Tcnt Tsigns)) sz) 0 0 (va_A ((wW_X5_addBytes ak ad ht ta Tlen Tcnt Tsigns)) sz) := by
  refine Met.ofW (cc := cX5_addBytes) (maxL := 5) (ret := none) (by decide) rfl ?_
  intro p e s m args below meth c s₁ B hml hv
  obtain ⟨rfl, hsz, hP, hE, hD0, hT⟩ := hv
  have hx := B.exec
  have hb := B.bytes
  have hr := B.returns
  have hts := atoms_spec (ws := wsX5_addBytes) B.pre
  have hown : s.vm.findClass RX5 = some m.cls := findClass_of_methodNamed B.named
  have hlocks := B.notSynchronized
  subst hsz
  have hD := hD0.self (sz := s.heap.size)
  generalize hAe : va_A ((wW_X5_addBytes ak ad ht ta Tlen Tcnt Tsigns)) s.heap.size = A at hD hT ⊢
  have hA : ∀ q : Nat, s.heap.size ≤ q → A q := fun q h => by rw [← hAe]; exact Or.inr h
  have hS : va_S A s.heap s.heap [] := va_S.rf
  have hl := lv_entry ([.ref ht, .long (xb)]) (n := 5) (Nat.le_of_ble_eq_true rfl)
  rw [lg_entry_eq]
  generalize (lg_sl ([.ref ht, .long (xb)]) ++ List.replicate (5 - (lg_sl ([.ref ht, .long (xb)])).length) Slot.unset).toArray = ls at hl ⊢
  have hl : lv_has ls 5 [(0, .ref ht), (1, .long (xb))] := hl
  exact kj_X5_addBytes_e hx hb hown hts hml hE hT hA ht ta Tcnt xb Φ (fun Tlen Tsigns H locs ls hw hP hD hS => W.vret hx hb hr (fun t ht hW => ⟨⟨(Tlen, Tsigns), rfl, hw, by rw [ht]; exact hP, by rw [hAe]; exact hD⟩, by rw [hAe]; exact hS.F ht⟩) hS.2.2 dX5_addBytes_76) Tlen Tsigns _ _ _ hf hP hD hS hl

def wW_X5_add (ak : Nat → ClassId) (ad : Nat → Nat) (ht : Nat) (ta : Nat → Nat) (Tlen : Int32) (Tcnt : Int32) (Ttoks : Nat → Nat) (Tplc : Nat → Int32) (Tvals : Nat → Int64) : va_W := [(ht, .inr (5, tob ta (Tlen) (Tcnt))), ((ta 1), .inl (ak 4, 1001, .inr (.inr (.inr (.inr (tokA ad (Ttoks))))))), ((ta 2), .inl (ak 0, 1001, .inl (Tplc))), ((ta 3), .inl (ak 1, 1001, .inr (.inl (Tvals))))]
def wp_X5_add (xt : Nat) (xp : Int32) (xv : Int64) (Tcnt : Int32) (Ttoks : Nat → Nat) (Tplc : Nat → Int32) (Tvals : Nat → Int64) (Φ : Int32 → (Nat → Nat) → (Nat → Int32) → (Nat → Int64) → Prop) : Prop := (1001 ≤ Tcnt → Φ Tcnt Ttoks Tplc Tvals) ∧ (¬ 1001 ≤ Tcnt → vp_in Tcnt 1001 ∧ xt < 31 ∧ vp_in Tcnt 1001 ∧ vp_in Tcnt 1001 ∧ Φ (Tcnt + 1) (updN Ttoks (Tcnt).toNatClampNeg xt) (upd Tplc (Tcnt).toNatClampNeg xp) (vp_updL Tvals (Tcnt).toNatClampNeg xv))
set_option maxHeartbeats 4000000 in
set_option maxRecDepth 100000 in
theorem kj_X5_add_e {p : Program} {l : Launch} {e : Env} {R : Room} {s : State} {m : MethodId} {args : Array Value} {below : List Frame} {meth : Method} {c : Code} {cells slots : Nat} {Q : State → Prop} {A : Nat → Prop} {D : va_G} {ak : Nat → ClassId} {ad : Nat → Nat} (hx : p.tables.exec = Jvm.exec) (hb : c.code = cX5_add) (hown : s.vm.findClass RX5 = some m.cls) (hts : ∀ w ∈ wsX5_add, w.before args s = true) (hml : c.maxLocals = 5) (hE : EV D ak s) (hT : ST D ak ad A s s.heap) (hA : ∀ q, s.heap.size ≤ q → A q) (ht : Nat) (ta : Nat → Nat) (Tlen : Int32) (xt : Nat) (xp : Int32) (xv : Int64)  (Φ : Int32 → (Nat → Nat) → (Nat → Int32) → (Nat → Int64) → Prop)
    (kR52 : ∀ (Tcnt : Int32) (Ttoks : Nat → Nat) (Tplc : Nat → Int32) (Tvals : Nat → Int64) (H : Heap) (locs : List Loc) (ls : Array Slot), Φ Tcnt Ttoks Tplc Tvals → va_P D vwCl (wW_X5_add ak ad ht ta Tlen Tcnt Ttoks Tplc Tvals) H → va_D A (wW_X5_add ak ad ht ta Tlen Tcnt Ttoks Tplc Tvals) → va_S A s.heap H locs → W p l e R s m args below meth c H locs cells slots Q (F0 m 52 ls []))
    : ∀ (Tcnt : Int32) (Ttoks : Nat → Nat) (Tplc : Nat → Int32) (Tvals : Nat → Int64) (H : Heap) (locs : List Loc) (ls : Array Slot), wp_X5_add xt xp xv Tcnt Ttoks Tplc Tvals Φ → va_P D vwCl (wW_X5_add ak ad ht ta Tlen Tcnt Ttoks Tplc Tvals) H → va_D A (wW_X5_add ak ad ht ta Tlen Tcnt Ttoks Tplc Tvals) → va_S A s.heap H locs → lv_has ls 5 [(0, .ref ht), (1, .ref (ad xt)), (2, .int (xp)), (3, .long (xv))] → W p l e R s m args below meth c H locs cells slots Q (F0 m 0 ls ([])) := by
  intro Tcnt Ttoks Tplc Tvals H locs ls hw hP hD hS hl
  delta wp_X5_add at hw
  refine lv_aload_n hx hb dX5_add_0 rfl (lv_at hl 0 rfl) ?_
  refine va_get (D := D) (ci := 5) (v := .int (Tcnt)) (C := RX5) (T := TX5) (N := 6) hx hb hts (fun w h => wm_c (wc_X5 w h)) hown hE.1 hP 0 rfl rfl 5 (by decide) (hts (.fieldLink RX5 33 "WornLines$Tape" "count" "I") (wm_c hw_393)) (fun _ h9 => h9) rfl dX5_add_1 ?_
  refine lv_aload_n hx hb dX5_add_4 rfl (lv_at hl 0 rfl) ?_
  refine va_get (D := D) (ci := 5) (v := .ref (ta 1)) (C := RX5) (T := TX5) (N := 6) hx hb hts (fun w h => wm_c (wc_X5 w h)) hown hE.1 hP 0 rfl rfl 2 (by decide) (hts (.fieldLink RX5 17 "WornLines$Tape" "tokens" "[LWornLines$Token;") (wm_c hw_266)) (fun _ h9 => h9) rfl dX5_add_5 ?_
  refine va_alen hx hb hE.1 hP 1 4 rfl rfl (v := 1001) rfl dX5_add_8 ?_
  refine lv_icmp_ge (tgt := 52) hx hb dX5_add_9 (by decide) (fun c_1 => ?_) (fun c_1 => ?_)
  · replace hw := hw.1 c_1
    exact kR52 Tcnt Ttoks Tplc Tvals _ _ _ hw hP hD hS
  · replace hw := hw.2 c_1
    refine lv_aload_n hx hb dX5_add_12 rfl (lv_at hl 0 rfl) ?_
    refine va_get (D := D) (ci := 5) (v := .ref (ta 1)) (C := RX5) (T := TX5) (N := 6) hx hb hts (fun w h => wm_c (wc_X5 w h)) hown hE.1 hP 0 rfl rfl 2 (by decide) (hts (.fieldLink RX5 17 "WornLines$Tape" "tokens" "[LWornLines$Token;") (wm_c hw_266)) (fun _ h9 => h9) rfl dX5_add_13 ?_
    refine lv_aload_n hx hb dX5_add_16 rfl (lv_at hl 0 rfl) ?_
    refine va_get (D := D) (ci := 5) (v := .int (Tcnt)) (C := RX5) (T := TX5) (N := 6) hx hb hts (fun w h => wm_c (wc_X5 w h)) hown hE.1 hP 0 rfl rfl 5 (by decide) (hts (.fieldLink RX5 33 "WornLines$Tape" "count" "I") (wm_c hw_393)) (fun _ h9 => h9) rfl dX5_add_17 ?_
    refine lv_aload_n hx hb dX5_add_20 rfl (lv_at hl 1 rfl) ?_
    obtain ⟨h_2, hw⟩ := hw
    obtain ⟨h_3, hw⟩ := hw
    refine va_astqM hx hb hE.1 hP hD hS 1 4 rfl rfl (tk_any hT hS xt h_3) (h_2) dX5_add_21 (fun H locs hP hD hS => ?_)
    rw [tokA_up h_3] at hP hD
    have hP : va_P D vwCl (wW_X5_add ak ad ht ta Tlen Tcnt (updN Ttoks (Tcnt).toNatClampNeg xt) Tplc Tvals) H := hP
    have hD : va_D A (wW_X5_add ak ad ht ta Tlen Tcnt (updN Ttoks (Tcnt).toNatClampNeg xt) Tplc Tvals) := hD
    refine lv_aload_n hx hb dX5_add_22 rfl (lv_at hl 0 rfl) ?_
    refine va_get (D := D) (ci := 5) (v := .ref (ta 2)) (C := RX5) (T := TX5) (N := 6) hx hb hts (fun w h => wm_c (wc_X5 w h)) hown hE.1 hP 0 rfl rfl 3 (by decide) (hts (.fieldLink RX5 21 "WornLines$Tape" "places" "[I") (wm_c hw_268)) (fun _ h9 => h9) rfl dX5_add_23 ?_
    refine lv_aload_n hx hb dX5_add_26 rfl (lv_at hl 0 rfl) ?_
    refine va_get (D := D) (ci := 5) (v := .int (Tcnt)) (C := RX5) (T := TX5) (N := 6) hx hb hts (fun w h => wm_c (wc_X5 w h)) hown hE.1 hP 0 rfl rfl 5 (by decide) (hts (.fieldLink RX5 33 "WornLines$Tape" "count" "I") (wm_c hw_393)) (fun _ h9 => h9) rfl dX5_add_27 ?_
    refine lv_iload_n hx hb dX5_add_30 rfl (lv_at hl 2 rfl) ?_
    obtain ⟨h_4, hw⟩ := hw
    refine va_iast hx hb hE.1 hP hD hS 2 0 rfl rfl (h_4) dX5_add_31 (fun H locs hP hD hS => ?_)
    have hP : va_P D vwCl (wW_X5_add ak ad ht ta Tlen Tcnt (updN Ttoks (Tcnt).toNatClampNeg xt) (upd Tplc (Tcnt).toNatClampNeg xp) Tvals) H := hP
    have hD : va_D A (wW_X5_add ak ad ht ta Tlen Tcnt (updN Ttoks (Tcnt).toNatClampNeg xt) (upd Tplc (Tcnt).toNatClampNeg xp) Tvals) := hD
    refine lv_aload_n hx hb dX5_add_32 rfl (lv_at hl 0 rfl) ?_
    refine va_get (D := D) (ci := 5) (v := .ref (ta 3)) (C := RX5) (T := TX5) (N := 6) hx hb hts (fun w h => wm_c (wc_X5 w h)) hown hE.1 hP 0 rfl rfl 4 (by decide) (hts (.fieldLink RX5 25 "WornLines$Tape" "values" "[J") (wm_c hw_270)) (fun _ h9 => h9) rfl dX5_add_33 ?_
    refine lv_aload_n hx hb dX5_add_36 rfl (lv_at hl 0 rfl) ?_
    refine va_get (D := D) (ci := 5) (v := .int (Tcnt)) (C := RX5) (T := TX5) (N := 6) hx hb hts (fun w h => wm_c (wc_X5 w h)) hown hE.1 hP 0 rfl rfl 5 (by decide) (hts (.fieldLink RX5 33 "WornLines$Tape" "count" "I") (wm_c hw_393)) (fun _ h9 => h9) rfl dX5_add_37 ?_
    refine lv_lload_n hx hb dX5_add_40 rfl (lv_at hl 3 rfl) ?_
    obtain ⟨h_5, hw⟩ := hw
    refine va_last hx hb hE.1 hP hD hS 3 1 rfl rfl (h_5) dX5_add_41 (fun H locs hP hD hS => ?_)
    have hP : va_P D vwCl (wW_X5_add ak ad ht ta Tlen Tcnt (updN Ttoks (Tcnt).toNatClampNeg xt) (upd Tplc (Tcnt).toNatClampNeg xp) (vp_updL Tvals (Tcnt).toNatClampNeg xv)) H := hP
    have hD : va_D A (wW_X5_add ak ad ht ta Tlen Tcnt (updN Ttoks (Tcnt).toNatClampNeg xt) (upd Tplc (Tcnt).toNatClampNeg xp) (vp_updL Tvals (Tcnt).toNatClampNeg xv)) := hD
    refine lv_aload_n hx hb dX5_add_42 rfl (lv_at hl 0 rfl) ?_
    refine lv_dup hx hb dX5_add_43 rfl ?_
    refine va_get (D := D) (ci := 5) (v := .int (Tcnt)) (C := RX5) (T := TX5) (N := 6) hx hb hts (fun w h => wm_c (wc_X5 w h)) hown hE.1 hP 0 rfl rfl 5 (by decide) (hts (.fieldLink RX5 33 "WornLines$Tape" "count" "I") (wm_c hw_393)) (fun _ h9 => h9) rfl dX5_add_44 ?_
    refine lv_iconst (v := 1) hx hb dX5_add_47 (by decide) ?_
    refine lv_iadd hx hb dX5_add_48 ?_
    refine va_put (D := D) (ci := 5) (v := .int (Tcnt + 1)) (ty := .int) (C := RX5) (T := TX5) (N := 6) hx hb hts (fun w h => wm_c (wc_X5 w h)) tyX5 tyX5_ok nmX5 hown hE.1 hP hD hS 0 rfl rfl 5 (by decide) (hts (.fieldLink RX5 33 "WornLines$Tape" "count" "I") (wm_c hw_393)) (fun _ h9 => h9) rfl (by decide +kernel) (rfl) rfl (Nat.le_of_ble_eq_true rfl) dX5_add_49 (fun H locs hP hD hS => ?_)
    have hP : va_P D vwCl (wW_X5_add ak ad ht ta Tlen (Tcnt + 1) (updN Ttoks (Tcnt).toNatClampNeg xt) (upd Tplc (Tcnt).toNatClampNeg xp) (vp_updL Tvals (Tcnt).toNatClampNeg xv)) H := hP
    have hD : va_D A (wW_X5_add ak ad ht ta Tlen (Tcnt + 1) (updN Ttoks (Tcnt).toNatClampNeg xt) (upd Tplc (Tcnt).toNatClampNeg xp) (vp_updL Tvals (Tcnt).toNatClampNeg xv)) := hD
    exact kR52 (Tcnt + 1) (updN Ttoks (Tcnt).toNatClampNeg xt) (upd Tplc (Tcnt).toNatClampNeg xp) (vp_updL Tvals (Tcnt).toNatClampNeg xv) _ _ _ hw hP hD hS
set_option maxHeartbeats 4000000 in
set_option maxRecDepth 100000 in
theorem c_X5_add (l : Launch) (D : va_G) (ak : Nat → ClassId) (ad : Nat → Nat) (sz : Nat) (ht : Nat) (ta : Nat → Nat) (Tlen : Int32) (Tcnt : Int32) (Ttoks : Nat → Nat) (Tplc : Nat → Int32) (Tvals : Nat → Int64) (xt : Nat) (xp : Int32) (xv : Int64) (Φ : Int32 → (Nat → Nat) → (Nat → Int32) → (Nat → Int64) → Prop) (hf : wp_X5_add xt xp xv Tcnt Ttoks Tplc Tvals Φ) : Met l yX5_add wsX5_add ({ frames := 0, cells := 0, slots := 0, locals := 0 }) (cPre D ak ad [.ref ht, .ref (ad xt), .int (xp), .long (xv)] ((wW_X5_add ak ad ht ta Tlen Tcnt Ttoks Tplc Tvals)) sz) (cV D (S := (Int32) × (Nat → Nat) × (Nat → Int32) × (Nat → Int64)) (fun (u : (Int32) × (Nat → Nat) × (Nat → Int32) × (Nat → Int64)) => Φ u.1 u.2.1 u.2.2.1 u.2.2.2) (fun u => (wW_X5_add ak ad ht ta Tlen u.1 u.2.1 u.2.2.1 u.2.2.2)) ((wW_X5_add ak ad ht ta Tlen Tcnt Ttoks Tplc Tvals)) sz) 0 0 (va_A ((wW_X5_add ak ad ht ta Tlen Tcnt Ttoks Tplc Tvals)) sz) := by
  refine Met.ofW (cc := cX5_add) (maxL := 5) (ret := none) (by decide) rfl ?_
  intro p e s m args below meth c s₁ B hml hv
  obtain ⟨rfl, hsz, hP, hE, hD0, hT⟩ := hv
  have hx := B.exec
  have hb := B.bytes
  have hr := B.returns
  have hts := atoms_spec (ws := wsX5_add) B.pre
  have hown : s.vm.findClass RX5 = some m.cls := findClass_of_methodNamed B.named
  have hlocks := B.notSynchronized
  subst hsz
  have hD := hD0.self (sz := s.heap.size)
  generalize hAe : va_A ((wW_X5_add ak ad ht ta Tlen Tcnt Ttoks Tplc Tvals)) s.heap.size = A at hD hT ⊢
  have hA : ∀ q : Nat, s.heap.size ≤ q → A q := fun q h => by rw [← hAe]; exact Or.inr h
  have hS : va_S A s.heap s.heap [] := va_S.rf
  have hl := lv_entry ([.ref ht, .ref (ad xt), .int (xp), .long (xv)]) (n := 5) (Nat.le_of_ble_eq_true rfl)
  rw [lg_entry_eq]
  generalize (lg_sl ([.ref ht, .ref (ad xt), .int (xp), .long (xv)]) ++ List.replicate (5 - (lg_sl ([.ref ht, .ref (ad xt), .int (xp), .long (xv)])).length) Slot.unset).toArray = ls at hl ⊢
  have hl : lv_has ls 5 [(0, .ref ht), (1, .ref (ad xt)), (2, .int (xp)), (3, .long (xv))] := hl
  exact kj_X5_add_e hx hb hown hts hml hE hT hA ht ta Tlen xt xp xv Φ (fun Tcnt Ttoks Tplc Tvals H locs ls hw hP hD hS => W.vret hx hb hr (fun t ht hW => ⟨⟨(Tcnt, Ttoks, Tplc, Tvals), rfl, hw, by rw [ht]; exact hP, by rw [hAe]; exact hD⟩, by rw [hAe]; exact hS.F ht⟩) hS.2.2 dX5_add_52) Tcnt Ttoks Tplc Tvals _ _ _ hf hP hD hS hl
