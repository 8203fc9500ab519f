theorem dJ7_fill_53178_5 : decode cJ7_fill_53178 5 = .ok (.iload_n 2, 1) := by decide +kernel
theorem dJ7_fill_53178_6 : decode cJ7_fill_53178 6 = .ok (.iload_n 3, 1) := by decide +kernel
theorem dJ7_fill_53178_7 : decode cJ7_fill_53178 7 = .ok (.if_icmp .ge 13, 3) := by decide +kernel
theorem dJ7_fill_53178_10 : decode cJ7_fill_53178 10 = .ok (.aload_n 0, 1) := by decide +kernel
theorem dJ7_fill_53178_11 : decode cJ7_fill_53178 11 = .ok (.iload_n 2, 1) := by decide +kernel
theorem dJ7_fill_53178_12 : decode cJ7_fill_53178 12 = .ok (.iload_n 1, 1) := by decide +kernel
theorem dJ7_fill_53178_13 : decode cJ7_fill_53178 13 = .ok (.iastore, 1) := by decide +kernel
theorem dJ7_fill_53178_14 : decode cJ7_fill_53178 14 = .ok (.iinc 2 1, 3) := by decide +kernel
theorem dJ7_fill_53178_17 : decode cJ7_fill_53178 17 = .ok (.goto (-12), 3) := by decide +kernel
theorem dJ7_fill_53178_0 : decode cJ7_fill_53178 0 = .ok (.iconst 0, 1) := by decide +kernel
theorem dJ7_fill_53178_1 : decode cJ7_fill_53178 1 = .ok (.istore_n 2, 1) := by decide +kernel
theorem dJ7_fill_53178_2 : decode cJ7_fill_53178 2 = .ok (.aload_n 0, 1) := by decide +kernel
theorem dJ7_fill_53178_3 : decode cJ7_fill_53178 3 = .ok (.arraylength, 1) := by decide +kernel
theorem dJ7_fill_53178_4 : decode cJ7_fill_53178 4 = .ok (.istore_n 3, 1) := by decide +kernel
theorem dJ7_fill_53178_20 : decode cJ7_fill_53178 20 = .ok (.return_, 1) := by decide +kernel
theorem dX7_fresh_0 : decode cX7_fresh 0 = .ok (.aload_n 0, 1) := by decide +kernel
theorem dX7_fresh_1 : decode cX7_fresh 1 = .ok (.getfield 37, 3) := by decide +kernel
theorem dX7_fresh_4 : decode cX7_fresh 4 = .ok (.getfield 121, 3) := by decide +kernel
theorem dX7_fresh_7 : decode cX7_fresh 7 = .ok (.iconst 0, 1) := by decide +kernel
set_option maxRecDepth 20000 in
theorem ggX7_fresh_J7_fill_53178 : GoodIn wsX7_fresh wsJ7_fill_53178 := goodIn_r _ [6] (by decide +kernel) (by decide +kernel)
set_option maxRecDepth 20000 in
theorem gX7_fresh_J7_fill_53178 : GoodIn wsX7_fresh (va_wsS RX7 178 yJ7_fill_53178 wsJ7_fill_53178) := goodIn_app (goodIn_of _ (by decide +kernel)) ggX7_fresh_J7_fill_53178
theorem dX7_fresh_8 : decode cX7_fresh 8 = .ok (.invokestatic 178, 3) := by decide +kernel
theorem dX7_fresh_11 : decode cX7_fresh 11 = .ok (.iconst 1, 1) := by decide +kernel
theorem dX7_fresh_12 : decode cX7_fresh 12 = .ok (.ireturn, 1) := by decide +kernel
theorem dX7_run_0 : decode cX7_run 0 = .ok (.iload_n 1, 1) := by decide +kernel
theorem dX7_run_1 : decode cX7_run 1 = .ok (.ifCond .lt 9, 3) := by decide +kernel
theorem dX7_run_10 : decode cX7_run 10 = .ok (.iconst (-1), 1) := by decide +kernel
theorem dX7_run_11 : decode cX7_run 11 = .ok (.ireturn, 1) := by decide +kernel
theorem dX7_run_4 : decode cX7_run 4 = .ok (.iload_n 1, 1) := by decide +kernel
theorem dX7_run_5 : decode cX7_run 5 = .ok (.ldc 143, 2) := by decide +kernel
theorem dX7_run_7 : decode cX7_run 7 = .ok (.if_icmp .le 5, 3) := by decide +kernel
theorem dX7_run_12 : decode cX7_run 12 = .ok (.aload_n 0, 1) := by decide +kernel
theorem dX7_run_13 : decode cX7_run 13 = .ok (.getfield 37, 3) := by decide +kernel
theorem dX7_run_16 : decode cX7_run 16 = .ok (.iload_n 1, 1) := by decide +kernel
theorem dX7_run_17 : decode cX7_run 17 = .ok (.ldc 143, 2) := by decide +kernel
theorem dX7_run_19 : decode cX7_run 19 = .ok (.aload_n 0, 1) := by decide +kernel
theorem dX7_run_20 : decode cX7_run 20 = .ok (.getfield 37, 3) := by decide +kernel
theorem dX7_run_23 : decode cX7_run 23 = .ok (.getfield 144, 3) := by decide +kernel
theorem dX7_run_26 : decode cX7_run 26 = .ok (.isub, 1) := by decide +kernel
theorem dX7_run_27 : decode cX7_run 27 = .ok (.invokestatic 147, 3) := by decide +kernel
set_option maxRecDepth 20000 in
theorem ggX7_run_X1_go : GoodIn wsX7_run wsX1_go := goodIn_r _ [13, 14, 15, 16, 12, 17, 18, 19, 20, 21, 22, 23, 24, 25, 26, 27, 28, 29, 30, 31, 32, 33, 34, 35, 36, 37, 38, 39, 40, 41, 42, 43, 44, 45, 46, 47, 48, 49, 50, 51, 52, 53, 54, 5, 6, 7, 55, 56, 57, 58, 59, 60, 61, 62, 63, 64, 65, 66, 67, 68, 69, 70, 71, 72, 73, 74, 75, 86, 87, 88, 89, 90, 91, 92, 93, 94, 95, 96, 97, 98, 99, 100, 101, 102, 103, 104, 105, 106, 107, 108, 109, 110, 111, 112, 113, 114] (by decide +kernel) (by decide +kernel)
set_option maxRecDepth 20000 in
theorem gX7_run_X1_go : GoodIn wsX7_run (wsV RX7 152 RX1 yX1_go wsX1_go) := goodIn_app (goodIn_of _ (by decide +kernel)) ggX7_run_X1_go
theorem dX7_run_30 : decode cX7_run 30 = .ok (.invokevirtual 152, 3) := by decide +kernel
theorem dX7_run_33 : decode cX7_run 33 = .ok (.istore_n 2, 1) := by decide +kernel
theorem dX7_run_34 : decode cX7_run 34 = .ok (.aload_n 0, 1) := by decide +kernel
theorem dX7_run_35 : decode cX7_run 35 = .ok (.getfield 37, 3) := by decide +kernel
theorem dX7_run_38 : decode cX7_run 38 = .ok (.getfield 155, 3) := by decide +kernel
theorem dX7_run_41 : decode cX7_run 41 = .ok (.iconst 1, 1) := by decide +kernel
theorem dX7_run_42 : decode cX7_run 42 = .ok (.if_icmp .ne 23, 3) := by decide +kernel
theorem dX7_run_65 : decode cX7_run 65 = .ok (.iload_n 2, 1) := by decide +kernel
theorem dX7_run_66 : decode cX7_run 66 = .ok (.ireturn, 1) := by decide +kernel
theorem dX7_state_0 : decode cX7_state 0 = .ok (.iload_n 1, 1) := by decide +kernel
theorem dX7_state_1 : decode cX7_state 1 = .ok (.tableswitch 88 0 3 #[31, 39, 72, 80], 31) := by decide +kernel
theorem dX7_state_32 : decode cX7_state 32 = .ok (.aload_n 0, 1) := by decide +kernel
theorem dX7_state_33 : decode cX7_state 33 = .ok (.getfield 37, 3) := by decide +kernel
theorem dX7_state_36 : decode cX7_state 36 = .ok (.getfield 155, 3) := by decide +kernel
theorem dX7_state_39 : decode cX7_state 39 = .ok (.ireturn, 1) := by decide +kernel
theorem dX7_state_40 : decode cX7_state 40 = .ok (.aload_n 0, 1) := by decide +kernel
theorem dX7_state_41 : decode cX7_state 41 = .ok (.getfield 37, 3) := by decide +kernel
theorem dX7_state_44 : decode cX7_state 44 = .ok (.getfield 155, 3) := by decide +kernel
theorem dX7_state_47 : decode cX7_state 47 = .ok (.ifCond .eq 14, 3) := by decide +kernel
theorem dX7_state_61 : decode cX7_state 61 = .ok (.iconst (-1), 1) := by decide +kernel
theorem dX7_state_62 : decode cX7_state 62 = .ok (.goto 10, 3) := by decide +kernel
theorem dX7_state_72 : decode cX7_state 72 = .ok (.ireturn, 1) := by decide +kernel
theorem dX7_state_73 : decode cX7_state 73 = .ok (.aload_n 0, 1) := by decide +kernel
theorem dX7_state_74 : decode cX7_state 74 = .ok (.getfield 37, 3) := by decide +kernel
theorem dX7_state_77 : decode cX7_state 77 = .ok (.getfield 144, 3) := by decide +kernel
theorem dX7_state_80 : decode cX7_state 80 = .ok (.ireturn, 1) := by decide +kernel
theorem dX7_state_81 : decode cX7_state 81 = .ok (.aload_n 0, 1) := by decide +kernel
theorem dX7_state_82 : decode cX7_state 82 = .ok (.getfield 37, 3) := by decide +kernel
theorem dX7_state_85 : decode cX7_state 85 = .ok (.getfield 161, 3) := by decide +kernel
theorem dX7_state_88 : decode cX7_state 88 = .ok (.ireturn, 1) := by decide +kernel
theorem dX7_state_89 : decode cX7_state 89 = .ok (.iconst (-1), 1) := by decide +kernel
theorem dX7_state_90 : decode cX7_state 90 = .ok (.ireturn, 1) := by decide +kernel
theorem dX7_count_0 : decode cX7_count 0 = .ok (.iload_n 1, 1) := by decide +kernel
theorem dX7_count_1 : decode cX7_count 1 = .ok (.tableswitch 87 0 4 #[35, 46, 57, 68, 79], 35) := by decide +kernel
theorem dX7_count_36 : decode cX7_count 36 = .ok (.aload_n 0, 1) := by decide +kernel
theorem dX7_count_37 : decode cX7_count 37 = .ok (.getfield 37, 3) := by decide +kernel
theorem dX7_count_40 : decode cX7_count 40 = .ok (.getfield 89, 3) := by decide +kernel
theorem dX7_count_43 : decode cX7_count 43 = .ok (.getfield 92, 3) := by decide +kernel
theorem dX7_count_46 : decode cX7_count 46 = .ok (.ireturn, 1) := by decide +kernel
theorem dX7_count_47 : decode cX7_count 47 = .ok (.aload_n 0, 1) := by decide +kernel
theorem dX7_count_48 : decode cX7_count 48 = .ok (.getfield 37, 3) := by decide +kernel
theorem dX7_count_51 : decode cX7_count 51 = .ok (.getfield 89, 3) := by decide +kernel
theorem dX7_count_54 : decode cX7_count 54 = .ok (.getfield 128, 3) := by decide +kernel
theorem dX7_count_57 : decode cX7_count 57 = .ok (.ireturn, 1) := by decide +kernel
theorem dX7_count_58 : decode cX7_count 58 = .ok (.aload_n 0, 1) := by decide +kernel
theorem dX7_count_59 : decode cX7_count 59 = .ok (.getfield 37, 3) := by decide +kernel
theorem dX7_count_62 : decode cX7_count 62 = .ok (.getfield 89, 3) := by decide +kernel
theorem dX7_count_65 : decode cX7_count 65 = .ok (.getfield 243, 3) := by decide +kernel
theorem dX7_count_68 : decode cX7_count 68 = .ok (.ireturn, 1) := by decide +kernel
theorem dX7_count_69 : decode cX7_count 69 = .ok (.aload_n 0, 1) := by decide +kernel
theorem dX7_count_70 : decode cX7_count 70 = .ok (.getfield 37, 3) := by decide +kernel
theorem dX7_count_73 : decode cX7_count 73 = .ok (.getfield 89, 3) := by decide +kernel
theorem dX7_count_76 : decode cX7_count 76 = .ok (.getfield 106, 3) := by decide +kernel
theorem dX7_count_79 : decode cX7_count 79 = .ok (.ireturn, 1) := by decide +kernel
theorem dX7_count_80 : decode cX7_count 80 = .ok (.aload_n 0, 1) := by decide +kernel
theorem dX7_count_81 : decode cX7_count 81 = .ok (.getfield 10, 3) := by decide +kernel
theorem dX7_count_84 : decode cX7_count 84 = .ok (.getfield 75, 3) := by decide +kernel
theorem dX7_count_87 : decode cX7_count 87 = .ok (.ireturn, 1) := by decide +kernel
theorem dX7_count_88 : decode cX7_count 88 = .ok (.iconst (-1), 1) := by decide +kernel
theorem dX7_count_89 : decode cX7_count 89 = .ok (.ireturn, 1) := by decide +kernel
def fr_run (a : Int32) : Int32 := if a < 0 ∨ 1000000 < a then -1 else 0
def fr_state (a : Int32) : Int32 := if a = 0 then 0 else if a = 1 then -1 else if a = 2 then 0 else if a = 3 then 0 else -1
def fr_count (a : Int32) : Int32 := if a = 0 then 0 else if a = 1 then 0 else if a = 2 then 0 else if a = 3 then 0 else if a = 4 then 0 else -1
def sA (k : Nat) : Int32 := Int32.ofInt (56 - 8 * (k : Int))
def bA (w : Int64) (k : Nat) : Int32 := ((w.toUInt64 >>> ((sA k).toInt64.toUInt64 &&& Int64.toUInt64 63)).toInt64).toInt32 &&& 255
def stp (n : Nat) (s : Int32) : Nat := if n < 1000 ∧ (s = 10 ∨ ¬ s < 32 ∧ s ≤ 126) then n + 1 else n
def adN (w : Int64) : Nat → Nat → Nat
  | 0, n => n
  | j + 1, n => adN w j (stp n (bA w (7 - j)))
theorem upd_all {f : Nat → Int32} {v : Int32} {i : Nat} (hf : ∀ j, j < i → f j = v) : ∀ j, j < i + 1 → upd f i v j = v := by
  intro j hj
  by_cases e : j = i
  · rw [e]
    exact pk_us
  · rw [pk_un e]
    exact hf j (by omega)
theorem stp_le {n : Nat} (s : Int32) (h : n ≤ 1000) : stp n s ≤ 1000 := by
  unfold stp
  split <;> omega
theorem sA_lt : ∀ j, j ≤ 8 → (sA (8 - j) < 0 ↔ j = 0) := by decide
theorem sA_m8 : ∀ j, j < 8 → sA (7 - j) + Int32.ofInt (-8) = sA (8 - j) := by decide

set_option maxHeartbeats 4000000 in
set_option maxRecDepth 100000 in
theorem lp_fill {p : Program} {l : Launch} {e : Env} {R : Room} {s : State} {m : MethodId} {args : Array Value} {below : List Frame} {meth : Method} {c : Code} {cells slots : Nat} {Q : State → Prop} {A : Nat → Prop} {D : va_G} {ak : Nat → ClassId} {ad : Nat → Nat} (hx : p.tables.exec = Jvm.exec) (hb : c.code = cJ7_fill_53178) (hown : s.vm.findClass RJ7 = some m.cls) (hts : ∀ w ∈ wsJ7_fill_53178, w.before args s = true) (hml : c.maxLocals = 4) (hE : EV D ak s) (hT : ST ad A s s.heap) (hA : ∀ q, s.heap.size ≤ q → A q) (h0 : Nat) (n : Nat) (v : Int32) (hn : n < 2 ^ 31)
    (kk20 : ∀ (i : Nat) (f : Nat → Int32) (H : Heap) (locs : List Loc) (ls : Array Slot), (∀ j, j < n → f j = v) → va_P D vwCl [(h0, .inl (ak 0, n, .inl (f)))] H → va_D A [(h0, .inl (ak 0, n, .inl (f)))] → va_S A s.heap H locs → lv_has ls 4 [(0, .ref h0)] → W p l e R s m args below meth c H locs cells slots Q (F0 m 20 ls []))
    : ∀ (n_ : Nat) (i : Nat) (f : Nat → Int32) (H : Heap) (locs : List Loc) (ls : Array Slot), (i ≤ n) → (∀ j, j < i → f j = v) → (n - i < n_) → va_P D vwCl [(h0, .inl (ak 0, n, .inl (f)))] H → va_D A [(h0, .inl (ak 0, n, .inl (f)))] → va_S A s.heap H locs → lv_has ls 4 [(3, .int (nI n)), (2, .int (nI i)), (0, .ref h0), (1, .int (v))] → W p l e R s m args below meth c H locs cells slots Q (F0 m 5 ls []) := by
  intro n_
  induction n_ with
  | zero =>
    intro i f H locs ls hi hf hm
    exact absurd hm (Nat.not_lt_zero _)
  | succ n_ ih =>
    intro i f H locs ls hi hf hm hP hD hS hl
    refine lv_iload_n hx hb dJ7_fill_53178_5 rfl (lv_at hl 1 rfl) ?_
    refine lv_iload_n hx hb dJ7_fill_53178_6 rfl (lv_at hl 0 rfl) ?_
    refine lv_icmp_ge (tgt := 20) hx hb dJ7_fill_53178_7 (by decide) (fun c_7 => ?_) (fun c_7 => ?_)
    · exact kk20 (i) (f) _ _ _ (fun j hj => hf j (by have := (nI_leI hn (Nat.lt_of_le_of_lt hi hn)).mp c_7; omega)) (hP.sub [0] rfl) (hD.sub [0] (by decide) rfl) hS (lv_sub hl [2] rfl)
    · have hlt : i < n := Nat.lt_of_not_le (fun h => c_7 (nI_le h (by omega)))
      refine lv_aload_n hx hb dJ7_fill_53178_10 rfl (lv_at hl 2 rfl) ?_
      refine lv_iload_n hx hb dJ7_fill_53178_11 rfl (lv_at hl 1 rfl) ?_
      refine lv_iload_n hx hb dJ7_fill_53178_12 rfl (lv_at hl 3 rfl) ?_
      refine va_iast hx hb hE.1 hP hD hS 0 0 rfl rfl (vp_in_nI hlt hn) dJ7_fill_53178_13 (fun H locs hP hD hS => ?_)
      have hP : va_P D vwCl [(h0, .inl (ak 0, n, .inl (upd (f) ((nI i : Int32).toNatClampNeg) (v))))] H := hP
      have hD : va_D A [(h0, .inl (ak 0, n, .inl (upd (f) ((nI i : Int32).toNatClampNeg) (v))))] := hD
      refine lv_iinc (v := (nI (i + 1))) (lv' := [(2, .int (nI (i + 1))), (3, .int (nI n)), (0, .ref h0), (1, .int (v))]) hx hb dJ7_fill_53178_14 hl (k := 1) rfl (nI_1 i) (by decide) rfl (fun ls hl => ?_)
      refine lv_goto (tgt := 5) hx hb dJ7_fill_53178_17 (by decide) ?_
      exact ih (i + 1) (upd (f) ((nI i : Int32).toNatClampNeg) (v)) _ _ _ (hlt) (by rw [nI_clamp (Nat.lt_trans hlt hn)]; exact upd_all hf) (by omega) (hP.sub [0] rfl) (hD.sub [0] (by decide) rfl) hS (lv_sub hl [1, 0, 2, 3] rfl)

set_option maxHeartbeats 4000000 in
set_option maxRecDepth 100000 in
theorem c_J7_fill_53178 (l : Launch) (D : va_G) (ak : Nat → ClassId) (ad : Nat → Nat) (sz : Nat) (h0 : Nat) (n : Nat) (v : Int32) (f : Nat → Int32) (hn : n < 2 ^ 31) : Met l yJ7_fill_53178 wsJ7_fill_53178 ({ frames := 0, cells := 0, slots := 0, locals := 0 }) (cPre D ak ad [.ref h0, .int (v)] ([(h0, .inl (ak 0, n, .inl (f)))]) sz) (cV D (S := (Nat → Int32)) (fun (u : (Nat → Int32)) => ∀ j, j < n → u j = v) (fun u => [(h0, .inl (ak 0, n, .inl (u)))]) ([(h0, .inl (ak 0, n, .inl (f)))]) sz) 0 0 (va_A ([(h0, .inl (ak 0, n, .inl (f)))]) sz) := by
  refine Met.ofW (cc := cJ7_fill_53178) (maxL := 4) (ret := none) (by decide) rfl ?_
  intro p e s m args below meth c s₁ B hml hv
  obtain ⟨rfl, hsz, hP, hE, hD0, hT⟩ := hv
  have hx := B.exec
  have hb := B.bytes
  have hr := B.returns
  have hts := atoms_spec (ws := wsJ7_fill_53178) B.pre
  have hown : s.vm.findClass RJ7 = some m.cls := findClass_of_methodNamed B.named
  have hlocks := B.notSynchronized
  subst hsz
  have hD := hD0.self (sz := s.heap.size)
  generalize hAe : va_A ([(h0, .inl (ak 0, n, .inl (f)))]) s.heap.size = A at hD hT ⊢
  have hA : ∀ q : Nat, s.heap.size ≤ q → A q := fun q h => by rw [← hAe]; exact Or.inr h
  have hS : va_S A s.heap s.heap [] := va_S.rf
  have hl := lv_entry ([.ref h0, .int (v)]) (n := 4) (Nat.le_of_ble_eq_true rfl)
  rw [lg_entry_eq]
  generalize (lg_sl ([.ref h0, .int (v)]) ++ List.replicate (4 - (lg_sl ([.ref h0, .int (v)])).length) Slot.unset).toArray = ls at hl ⊢
  have hl : lv_has ls 4 [(0, .ref h0), (1, .int (v))] := hl
  have hP : va_P D vwCl [(h0, .inl (ak 0, n, .inl (f)))] s.heap := hP
  refine lv_iconst (v := 0) hx hb dJ7_fill_53178_0 (by decide) ?_
  refine lv_istore_n (lv' := [(2, .int (0)), (0, .ref h0), (1, .int (v))]) hx hb dJ7_fill_53178_1 rfl hl (by decide) rfl (fun ls hl => ?_)
  refine lv_aload_n hx hb dJ7_fill_53178_2 rfl (lv_at hl 1 rfl) ?_
  refine va_alen hx hb hE.1 hP 0 0 rfl rfl (v := nI (n)) rfl dJ7_fill_53178_3 ?_
  refine lv_istore_n (lv' := [(3, .int (nI (n))), (2, .int (0)), (0, .ref h0), (1, .int (v))]) hx hb dJ7_fill_53178_4 rfl hl (by decide) rfl (fun ls hl => ?_)
  have hl : lv_has ls 4 [(3, .int (nI n)), (2, .int (nI 0)), (0, .ref h0), (1, .int (v))] := hl
  refine lp_fill hx hb hown hts hml hE hT hA (h0) (n) (v) (hn) ?_ _ (0) (f) _ _ _ (Nat.zero_le _) (fun j hj => absurd hj (Nat.not_lt_zero _)) (Nat.lt_succ_self _) (hP.sub [0] rfl) (hD.sub [0] (by decide) rfl) hS (lv_sub hl [0, 1, 2, 3] rfl)
  intro i_1 f_2 H locs ls hz_3 hP hD hS hl
  have hP : va_P D vwCl [(h0, .inl (ak 0, n, .inl (f_2)))] H := hP
  have hD : va_D A [(h0, .inl (ak 0, n, .inl (f_2)))] := hD
  have hP9 := hP.sub (ws' := [(h0, .inl (ak 0, n, .inl (f_2)))]) [0] rfl
  have hD9 := hD.sub (ws' := [(h0, .inl (ak 0, n, .inl (f_2)))]) [0] (by decide) rfl
  refine W.widen (k := 0) (n := 0) (Nat.le_of_ble_eq_true rfl) (Nat.le_of_ble_eq_true rfl) ?_
  exact W.vret hx hb hr (fun t ht hW => ⟨⟨(f_2), rfl, hz_3, by rw [ht]; exact hP9, by rw [hAe]; exact hD9⟩, by rw [hAe]; exact hS.F ht⟩) hS.2.2 dJ7_fill_53178_20

set_option maxHeartbeats 4000000 in
set_option maxRecDepth 100000 in
theorem c_X7_fresh (l : Launch) (D : va_G) (ak : Nat → ClassId) (ad : Nat → Nat) (sz : Nat) (h0 : Nat) (xt : Nat) (xe : Nat) (xr : Nat) (xh : Nat) (xw : Nat) (xf : Nat) (xm : Nat) (xd : Nat) (xs : Nat) (xl : Nat) (b1 : Nat) (b2 : Nat) (b3 : Nat) (b4 : Nat) (b5 : Nat) (b6 : Nat) (p1 : Nat) (p2 : Nat) (p4 : Nat) (p6 : Nat) (p7 : Nat) (p8 : Nat) (p10 : Nat) (p11 : Nat) (p12 : Nat) (p13 : Nat) (p14 : Nat) (p15 : Nat) (p16 : Nat) (f3 : Nat → Int32)  : Met l yX7_fresh wsX7_fresh ({ frames := 1, cells := 0, slots := 0, locals := 23 }) (cPre D ak ad [.ref h0] ([(h0, .inr (6, [.ref xt, .ref xe, .ref xr, .ref xh, .ref xw, .ref xf, .ref xm, .ref xd, .ref xs, .ref xl])), (xh, .inr (1, [.ref xe, .ref b1, .ref b2, .ref b3, .ref b4, .ref b5, .ref b6, .int (0), .int (0), .int (0), .int (0), .int (0)])), (b3, .inl (ak 0, 16, .inl (f3)))]) sz) (cI D (S := Unit) (fun (r : Int32) (u : Unit) => r = 1) (fun u => []) ([(h0, .inr (6, [.ref xt, .ref xe, .ref xr, .ref xh, .ref xw, .ref xf, .ref xm, .ref xd, .ref xs, .ref xl])), (xh, .inr (1, [.ref xe, .ref b1, .ref b2, .ref b3, .ref b4, .ref b5, .ref b6, .int (0), .int (0), .int (0), .int (0), .int (0)])), (b3, .inl (ak 0, 16, .inl (f3)))]) sz) 0 0 (va_A ([(h0, .inr (6, [.ref xt, .ref xe, .ref xr, .ref xh, .ref xw, .ref xf, .ref xm, .ref xd, .ref xs, .ref xl])), (xh, .inr (1, [.ref xe, .ref b1, .ref b2, .ref b3, .ref b4, .ref b5, .ref b6, .int (0), .int (0), .int (0), .int (0), .int (0)])), (b3, .inl (ak 0, 16, .inl (f3)))]) sz) := by
  refine Met.ofW (cc := cX7_fresh) (maxL := 1) (ret := (some .boolean)) (by decide) rfl ?_
  intro p e s m args below meth c s₁ B hml hv
  obtain ⟨rfl, hsz, hP, hE, hD0, hT⟩ := hv
  have hx := B.exec
  have hb := B.bytes
  have hr := B.returns
  have hts := atoms_spec (ws := wsX7_fresh) B.pre
  have hown : s.vm.findClass RX7 = some m.cls := findClass_of_methodNamed B.named
  have hlocks := B.notSynchronized
  subst hsz
  have hD := hD0.self (sz := s.heap.size)
  generalize hAe : va_A ([(h0, .inr (6, [.ref xt, .ref xe, .ref xr, .ref xh, .ref xw, .ref xf, .ref xm, .ref xd, .ref xs, .ref xl])), (xh, .inr (1, [.ref xe, .ref b1, .ref b2, .ref b3, .ref b4, .ref b5, .ref b6, .int (0), .int (0), .int (0), .int (0), .int (0)])), (b3, .inl (ak 0, 16, .inl (f3)))]) s.heap.size = A at hD hT ⊢
  have hA : ∀ q : Nat, s.heap.size ≤ q → A q := fun q h => by rw [← hAe]; exact Or.inr h
  have hS : va_S A s.heap s.heap [] := va_S.rf
  have hl := lv_entry ([.ref h0]) (n := 1) (Nat.le_of_ble_eq_true rfl)
  rw [lg_entry_eq]
  generalize (lg_sl ([.ref h0]) ++ List.replicate (1 - (lg_sl ([.ref h0])).length) Slot.unset).toArray = ls at hl ⊢
  have hl : lv_has ls 1 [(0, .ref h0)] := hl
  have hP : va_P D vwCl [(h0, .inr (6, [.ref xt, .ref xe, .ref xr, .ref xh, .ref xw, .ref xf, .ref xm, .ref xd, .ref xs, .ref xl])), (xh, .inr (1, [.ref xe, .ref b1, .ref b2, .ref b3, .ref b4, .ref b5, .ref b6, .int (0), .int (0), .int (0), .int (0), .int (0)])), (b3, .inl (ak 0, 16, .inl (f3)))] s.heap := hP
  refine lv_aload_n hx hb dX7_fresh_0 rfl (lv_at hl 0 rfl) ?_
  refine va_get (D := D) (ci := 6) (v := .ref xh) (C := RX7) (T := TX7) (N := 10) hx hb hts (fun w h => List.mem_cons_of_mem _ (List.mem_append_left _ (List.mem_append_right _ h))) hown hE.1 hP 0 rfl rfl 3 (by decide) (hts (.fieldLink RX7 37 "WornLines" "hand" "LWornLines$Machine;") (by decide +kernel)) (fun _ h9 => h9) rfl dX7_fresh_1 ?_
  refine va_get (D := D) (ci := 1) (v := .ref b3) (C := RX1) (T := TX1) (N := 12) hx hb hts (fun w h => List.mem_cons_of_mem _ (List.mem_append_right _ h)) hown hE.1 hP 1 rfl rfl 3 (by decide) (hts (.fieldLink RX7 121 "WornLines$Machine" "worn" "[I") (by decide +kernel)) (fun _ h9 => h9) rfl dX7_fresh_4 ?_
  refine lv_iconst (v := 0) hx hb dX7_fresh_7 (by decide) ?_
  refine kc_v (wc := [(b3, .inl (ak 0, 16, .inl (f3)))]) (wr := [(h0, .inr (6, [.ref xt, .ref xe, .ref xr, .ref xh, .ref xw, .ref xf, .ref xm, .ref xd, .ref xs, .ref xl])), (xh, .inr (1, [.ref xe, .ref b1, .ref b2, .ref b3, .ref b4, .ref b5, .ref b6, .int (0), .int (0), .int (0), .int (0), .int (0)]))]) hP hD hS hA [2] [0, 1] rfl rfl (by decide) (by decide) (va_runS (As := [.ref b3, .int (0)]) (rest := []) ⟨hx, hb, hml, hown, hts⟩ (c_J7_fill_53178 l D ak ad _ (b3) (16) (0) (f3) (by decide)) (va_cwS 2 hts gX7_fresh_J7_fill_53178 rfl rfl rfl (by decide +kernel) ⟨Nat.le_of_ble_eq_true rfl, Nat.le_of_ble_eq_true rfl⟩) (kc_pre (As := [.ref b3, .int (0)]) (wc := [(b3, .inl (ak 0, 16, .inl (f3)))]) hE hT hP hD hS hA [2] (by decide) rfl rfl) rfl rfl hl.1 rfl (lv_room (Nat.le_of_ble_eq_true rfl)) dX7_fresh_8 ⟨Nat.le_of_ble_eq_true rfl, Nat.le_of_ble_eq_true rfl⟩) (fun f2_2 H locs hw_3 hP hD hS => ?_)
  have hP : va_P D vwCl [(h0, .inr (6, [.ref xt, .ref xe, .ref xr, .ref xh, .ref xw, .ref xf, .ref xm, .ref xd, .ref xs, .ref xl])), (xh, .inr (1, [.ref xe, .ref b1, .ref b2, .ref b3, .ref b4, .ref b5, .ref b6, .int (0), .int (0), .int (0), .int (0), .int (0)])), (b3, .inl (ak 0, 16, .inl (f2_2)))] H := hP
  have hD : va_D A [(h0, .inr (6, [.ref xt, .ref xe, .ref xr, .ref xh, .ref xw, .ref xf, .ref xm, .ref xd, .ref xs, .ref xl])), (xh, .inr (1, [.ref xe, .ref b1, .ref b2, .ref b3, .ref b4, .ref b5, .ref b6, .int (0), .int (0), .int (0), .int (0), .int (0)])), (b3, .inl (ak 0, 16, .inl (f2_2)))] := hD
  refine lv_iconst (v := 1) hx hb dX7_fresh_11 (by decide) ?_
  have hP9 := hP.sub (ws' := []) [] rfl
  have hD9 := hD.sub (ws' := []) [] (by decide) rfl
  refine W.widen (k := 0) (n := 0) (Nat.le_of_ble_eq_true rfl) (Nat.le_of_ble_eq_true rfl) ?_
  exact W.zret (v := 1) hx hb hr (rfl) (fun t ht hW => ⟨⟨1, (()), rfl, rfl, by rw [ht]; exact hP9, by rw [hAe]; exact hD9⟩, by rw [hAe]; exact hS.F ht⟩) hS.2.2 dX7_fresh_12

set_option maxHeartbeats 4000000 in
set_option maxRecDepth 100000 in
theorem c_X7_run (l : Launch) (D : va_G) (ak : Nat → ClassId) (ad : Nat → Nat) (sz : Nat) (h0 : Nat) (xt : Nat) (xe : Nat) (xr : Nat) (xh : Nat) (xw : Nat) (xf : Nat) (xm : Nat) (xd : Nat) (xs : Nat) (xl : Nat) (b1 : Nat) (b2 : Nat) (b3 : Nat) (b4 : Nat) (b5 : Nat) (b6 : Nat) (p1 : Nat) (p2 : Nat) (p4 : Nat) (p6 : Nat) (p7 : Nat) (p8 : Nat) (p10 : Nat) (p11 : Nat) (p12 : Nat) (p13 : Nat) (p14 : Nat) (p15 : Nat) (p16 : Nat) (a0 : Int32)  : Met l yX7_run wsX7_run ({ frames := 3, cells := 0, slots := 0, locals := 63 }) (cPre D ak ad [.ref h0, .int (a0)] ([(h0, .inr (6, [.ref xt, .ref xe, .ref xr, .ref xh, .ref xw, .ref xf, .ref xm, .ref xd, .ref xs, .ref xl])), (xh, .inr (1, [.ref xe, .ref b1, .ref b2, .ref b3, .ref b4, .ref b5, .ref b6, .int (0), .int (0), .int (0), .int (0), .int (0)])), (xe, .inr (2, [.int (0), .ref p1, .ref p2, .int (0), .ref p4, .int (0), .ref p6, .ref p7, .ref p8, .int (0), .ref p10, .ref p11, .ref p12, .ref p13, .ref p14, .ref p15, .ref p16]))]) sz) (cI D (S := Unit) (fun (r : Int32) (u : Unit) => r = fr_run a0) (fun u => []) ([(h0, .inr (6, [.ref xt, .ref xe, .ref xr, .ref xh, .ref xw, .ref xf, .ref xm, .ref xd, .ref xs, .ref xl])), (xh, .inr (1, [.ref xe, .ref b1, .ref b2, .ref b3, .ref b4, .ref b5, .ref b6, .int (0), .int (0), .int (0), .int (0), .int (0)])), (xe, .inr (2, [.int (0), .ref p1, .ref p2, .int (0), .ref p4, .int (0), .ref p6, .ref p7, .ref p8, .int (0), .ref p10, .ref p11, .ref p12, .ref p13, .ref p14, .ref p15, .ref p16]))]) sz) 0 0 (va_A ([(h0, .inr (6, [.ref xt, .ref xe, .ref xr, .ref xh, .ref xw, .ref xf, .ref xm, .ref xd, .ref xs, .ref xl])), (xh, .inr (1, [.ref xe, .ref b1, .ref b2, .ref b3, .ref b4, .ref b5, .ref b6, .int (0), .int (0), .int (0), .int (0), .int (0)])), (xe, .inr (2, [.int (0), .ref p1, .ref p2, .int (0), .ref p4, .int (0), .ref p6, .ref p7, .ref p8, .int (0), .ref p10, .ref p11, .ref p12, .ref p13, .ref p14, .ref p15, .ref p16]))]) sz) := by
  refine Met.ofW (cc := cX7_run) (maxL := 3) (ret := (some .int)) (by decide) rfl ?_
  intro p e s m args below meth c s₁ B hml hv
  obtain ⟨rfl, hsz, hP, hE, hD0, hT⟩ := hv
  have hx := B.exec
  have hb := B.bytes
  have hr := B.returns
  have hts := atoms_spec (ws := wsX7_run) B.pre
  have hown : s.vm.findClass RX7 = some m.cls := findClass_of_methodNamed B.named
  have hlocks := B.notSynchronized
  subst hsz
  have hD := hD0.self (sz := s.heap.size)
  generalize hAe : va_A ([(h0, .inr (6, [.ref xt, .ref xe, .ref xr, .ref xh, .ref xw, .ref xf, .ref xm, .ref xd, .ref xs, .ref xl])), (xh, .inr (1, [.ref xe, .ref b1, .ref b2, .ref b3, .ref b4, .ref b5, .ref b6, .int (0), .int (0), .int (0), .int (0), .int (0)])), (xe, .inr (2, [.int (0), .ref p1, .ref p2, .int (0), .ref p4, .int (0), .ref p6, .ref p7, .ref p8, .int (0), .ref p10, .ref p11, .ref p12, .ref p13, .ref p14, .ref p15, .ref p16]))]) s.heap.size = A at hD hT ⊢
  have hA : ∀ q : Nat, s.heap.size ≤ q → A q := fun q h => by rw [← hAe]; exact Or.inr h
  have hS : va_S A s.heap s.heap [] := va_S.rf
  have hl := lv_entry ([.ref h0, .int (a0)]) (n := 3) (Nat.le_of_ble_eq_true rfl)
  rw [lg_entry_eq]
  generalize (lg_sl ([.ref h0, .int (a0)]) ++ List.replicate (3 - (lg_sl ([.ref h0, .int (a0)])).length) Slot.unset).toArray = ls at hl ⊢
  have hl : lv_has ls 3 [(0, .ref h0), (1, .int (a0))] := hl
  have hP : va_P D vwCl [(h0, .inr (6, [.ref xt, .ref xe, .ref xr, .ref xh, .ref xw, .ref xf, .ref xm, .ref xd, .ref xs, .ref xl])), (xh, .inr (1, [.ref xe, .ref b1, .ref b2, .ref b3, .ref b4, .ref b5, .ref b6, .int (0), .int (0), .int (0), .int (0), .int (0)])), (xe, .inr (2, [.int (0), .ref p1, .ref p2, .int (0), .ref p4, .int (0), .ref p6, .ref p7, .ref p8, .int (0), .ref p10, .ref p11, .ref p12, .ref p13, .ref p14, .ref p15, .ref p16]))] s.heap := hP
  refine lv_iload_n hx hb dX7_run_0 rfl (lv_at hl 1 rfl) ?_
  refine lv_if_lt (tgt := 10) hx hb dX7_run_1 (by decide) (fun c_1 => ?_) (fun c_1 => ?_)
  · refine lv_iconst (v := (-1)) hx hb dX7_run_10 (by decide) ?_
    have hP9 := hP.sub (ws' := []) [] rfl
    have hD9 := hD.sub (ws' := []) [] (by decide) rfl
    refine W.widen (k := 0) (n := 0) (Nat.le_of_ble_eq_true rfl) (Nat.le_of_ble_eq_true rfl) ?_
    exact W.iret (v := -1) hx hb hr (fun t ht hW => ⟨⟨-1, (()), rfl, (by unfold fr_run; first | rw [if_pos (Or.inl (by assumption))] | rw [if_pos (Or.inr (Int32.not_le.mp (by assumption)))] | rw [if_neg (fun h => h.elim (by assumption) (fun h => absurd (by assumption) (Int32.not_le.mpr h)))]), by rw [ht]; exact hP9, by rw [hAe]; exact hD9⟩, by rw [hAe]; exact hS.F ht⟩) hS.2.2 dX7_run_11
  · refine lv_iload_n hx hb dX7_run_4 rfl (lv_at hl 1 rfl) ?_
    refine lv_ldc hx hb hown (hts (.constant RX7 143 (1000000)) (by decide +kernel)) dX7_run_5 ?_
    refine lv_icmp_le (tgt := 12) hx hb dX7_run_7 (by decide) (fun c_7 => ?_) (fun c_7 => ?_)
    · refine lv_aload_n hx hb dX7_run_12 rfl (lv_at hl 0 rfl) ?_
      refine va_get (D := D) (ci := 6) (v := .ref xh) (C := RX7) (T := TX7) (N := 10) hx hb hts (fun w h => List.mem_cons_of_mem _ (List.mem_append_left _ (List.mem_append_left _ (List.mem_append_right _ h)))) hown hE.1 hP 0 rfl rfl 3 (by decide) (hts (.fieldLink RX7 37 "WornLines" "hand" "LWornLines$Machine;") (by decide +kernel)) (fun _ h9 => h9) rfl dX7_run_13 ?_
      refine lv_iload_n hx hb dX7_run_16 rfl (lv_at hl 1 rfl) ?_
      refine lv_ldc hx hb hown (hts (.constant RX7 143 (1000000)) (by decide +kernel)) dX7_run_17 ?_
      refine lv_aload_n hx hb dX7_run_19 rfl (lv_at hl 0 rfl) ?_
      refine va_get (D := D) (ci := 6) (v := .ref xh) (C := RX7) (T := TX7) (N := 10) hx hb hts (fun w h => List.mem_cons_of_mem _ (List.mem_append_left _ (List.mem_append_left _ (List.mem_append_right _ h)))) hown hE.1 hP 0 rfl rfl 3 (by decide) (hts (.fieldLink RX7 37 "WornLines" "hand" "LWornLines$Machine;") (by decide +kernel)) (fun _ h9 => h9) rfl dX7_run_20 ?_
      refine va_get (D := D) (ci := 1) (v := .int (0)) (C := RX1) (T := TX1) (N := 12) hx hb hts (fun w h => List.mem_cons_of_mem _ (List.mem_append_left _ (List.mem_append_right _ h))) hown hE.1 hP 1 rfl rfl 10 (by decide) (hts (.fieldLink RX7 144 "WornLines$Machine" "steps" "I") (by decide +kernel)) (fun _ h9 => h9) rfl dX7_run_23 ?_
      refine lv_isub hx hb dX7_run_26 ?_
      refine W.eq (g2 := F0 m 27 ls (.int (1000000) :: .int (a0) :: .ref xh :: [])) rfl ?_
      refine va_mmin hx hb (by rw [hml]; exact hl.1.symm) hown (hts (.methodLink RX7 147 Lib.Math.min.name) (by decide +kernel)) (hts (.static Lib.Math.min.name) (by decide +kernel)) (hts (.initialized "java/lang/Math") (by decide +kernel)) (hts (.code Lib.Math.min.name Lib.Math.min.code 2 (some .int)) (by decide +kernel)) (Nat.le_of_ble_eq_true rfl) (Nat.le_of_ble_eq_true rfl) (Nat.le_of_ble_eq_true rfl) (Nat.le_of_ble_eq_true rfl) dX7_run_27 ?_
      refine lv_topi (fun x_2 ex_2 => ?_)
      refine kc_i (wc := [(xh, .inr (1, [.ref xe, .ref b1, .ref b2, .ref b3, .ref b4, .ref b5, .ref b6, .int (0), .int (0), .int (0), .int (0), .int (0)]))]) (wr := [(h0, .inr (6, [.ref xt, .ref xe, .ref xr, .ref xh, .ref xw, .ref xf, .ref xm, .ref xd, .ref xs, .ref xl])), (xe, .inr (2, [.int (0), .ref p1, .ref p2, .int (0), .ref p4, .int (0), .ref p6, .ref p7, .ref p8, .int (0), .ref p10, .ref p11, .ref p12, .ref p13, .ref p14, .ref p15, .ref p16]))]) hP hD hS hA [1] [0, 2] rfl rfl (by decide) (by decide) (va_runV (As := [.int (x_2)]) (rest := []) ⟨hx, hb, hml, hown, hts⟩ (c_X1_go l D ak ad _ (xh) (xe) (b1) (b2) (b3) (b4) (b5) (b6) (x_2) ) (cwV 1 hts gX7_run_X1_go rfl rfl rfl (by decide +kernel) ⟨Nat.le_of_ble_eq_true rfl, Nat.le_of_ble_eq_true rfl⟩) (kc_preV (As := [.int (x_2)]) (wc := [(xh, .inr (1, [.ref xe, .ref b1, .ref b2, .ref b3, .ref b4, .ref b5, .ref b6, .int (0), .int (0), .int (0), .int (0), .int (0)]))]) hE hT hP hD hS hA [1] (by decide) rfl rfl 1 1 rfl rfl rfl) rfl rfl hl.1 rfl (lv_room (Nat.le_of_ble_eq_true rfl)) dX7_run_30 ⟨Nat.le_of_ble_eq_true rfl, Nat.le_of_ble_eq_true rfl⟩) (fun r_4 u_2 H locs hw_4 hP hD hS => ?_)
      have hP : va_P D vwCl [(h0, .inr (6, [.ref xt, .ref xe, .ref xr, .ref xh, .ref xw, .ref xf, .ref xm, .ref xd, .ref xs, .ref xl])), (xe, .inr (2, [.int (0), .ref p1, .ref p2, .int (0), .ref p4, .int (0), .ref p6, .ref p7, .ref p8, .int (0), .ref p10, .ref p11, .ref p12, .ref p13, .ref p14, .ref p15, .ref p16])), (xh, .inr (1, [.ref xe, .ref b1, .ref b2, .ref b3, .ref b4, .ref b5, .ref b6, .int (0), .int (0), .int (0), .int (0), .int (0)]))] H := hP
      have hD : va_D A [(h0, .inr (6, [.ref xt, .ref xe, .ref xr, .ref xh, .ref xw, .ref xf, .ref xm, .ref xd, .ref xs, .ref xl])), (xe, .inr (2, [.int (0), .ref p1, .ref p2, .int (0), .ref p4, .int (0), .ref p6, .ref p7, .ref p8, .int (0), .ref p10, .ref p11, .ref p12, .ref p13, .ref p14, .ref p15, .ref p16])), (xh, .inr (1, [.ref xe, .ref b1, .ref b2, .ref b3, .ref b4, .ref b5, .ref b6, .int (0), .int (0), .int (0), .int (0), .int (0)]))] := hD
      subst hw_4
      refine lv_istore_n (lv' := [(2, .int (0)), (0, .ref h0), (1, .int (a0))]) hx hb dX7_run_33 rfl hl (by decide) rfl (fun ls hl => ?_)
      refine lv_aload_n hx hb dX7_run_34 rfl (lv_at hl 1 rfl) ?_
      refine va_get (D := D) (ci := 6) (v := .ref xh) (C := RX7) (T := TX7) (N := 10) hx hb hts (fun w h => List.mem_cons_of_mem _ (List.mem_append_left _ (List.mem_append_left _ (List.mem_append_right _ h)))) hown hE.1 hP 0 rfl rfl 3 (by decide) (hts (.fieldLink RX7 37 "WornLines" "hand" "LWornLines$Machine;") (by decide +kernel)) (fun _ h9 => h9) rfl dX7_run_35 ?_
      refine va_get (D := D) (ci := 1) (v := .int (0)) (C := RX1) (T := TX1) (N := 12) hx hb hts (fun w h => List.mem_cons_of_mem _ (List.mem_append_left _ (List.mem_append_right _ h))) hown hE.1 hP 2 rfl rfl 8 (by decide) (hts (.fieldLink RX7 155 "WornLines$Machine" "state" "I") (by decide +kernel)) (fun _ h9 => h9) rfl dX7_run_38 ?_
      refine lv_iconst (v := 1) hx hb dX7_run_41 (by decide) ?_
      refine lv_icmp_ne (tgt := 65) hx hb dX7_run_42 (by decide) (fun c_42 => ?_) (fun c_42 => ?_)
      · refine lv_iload_n hx hb dX7_run_65 rfl (lv_at hl 0 rfl) ?_
        have hP9 := hP.sub (ws' := []) [] rfl
        have hD9 := hD.sub (ws' := []) [] (by decide) rfl
        refine W.widen (k := 0) (n := 0) (Nat.le_of_ble_eq_true rfl) (Nat.le_of_ble_eq_true rfl) ?_
        exact W.iret (v := 0) hx hb hr (fun t ht hW => ⟨⟨0, (()), rfl, (by unfold fr_run; first | rw [if_pos (Or.inl (by assumption))] | rw [if_pos (Or.inr (Int32.not_le.mp (by assumption)))] | rw [if_neg (fun h => h.elim (by assumption) (fun h => absurd (by assumption) (Int32.not_le.mpr h)))]), by rw [ht]; exact hP9, by rw [hAe]; exact hD9⟩, by rw [hAe]; exact hS.F ht⟩) hS.2.2 dX7_run_66
      · exact absurd c_42 (by decide)
    · refine lv_iconst (v := (-1)) hx hb dX7_run_10 (by decide) ?_
      have hP9 := hP.sub (ws' := []) [] rfl
      have hD9 := hD.sub (ws' := []) [] (by decide) rfl
      refine W.widen (k := 0) (n := 0) (Nat.le_of_ble_eq_true rfl) (Nat.le_of_ble_eq_true rfl) ?_
      exact W.iret (v := -1) hx hb hr (fun t ht hW => ⟨⟨-1, (()), rfl, (by unfold fr_run; first | rw [if_pos (Or.inl (by assumption))] | rw [if_pos (Or.inr (Int32.not_le.mp (by assumption)))] | rw [if_neg (fun h => h.elim (by assumption) (fun h => absurd (by assumption) (Int32.not_le.mpr h)))]), by rw [ht]; exact hP9, by rw [hAe]; exact hD9⟩, by rw [hAe]; exact hS.F ht⟩) hS.2.2 dX7_run_11

set_option maxHeartbeats 4000000 in
set_option maxRecDepth 100000 in
theorem c_X7_state (l : Launch) (D : va_G) (ak : Nat → ClassId) (ad : Nat → Nat) (sz : Nat) (h0 : Nat) (xt : Nat) (xe : Nat) (xr : Nat) (xh : Nat) (xw : Nat) (xf : Nat) (xm : Nat) (xd : Nat) (xs : Nat) (xl : Nat) (b1 : Nat) (b2 : Nat) (b3 : Nat) (b4 : Nat) (b5 : Nat) (b6 : Nat) (p1 : Nat) (p2 : Nat) (p4 : Nat) (p6 : Nat) (p7 : Nat) (p8 : Nat) (p10 : Nat) (p11 : Nat) (p12 : Nat) (p13 : Nat) (p14 : Nat) (p15 : Nat) (p16 : Nat) (a0 : Int32)  : Met l yX7_state wsX7_state ({ frames := 0, cells := 0, slots := 0, locals := 0 }) (cPre D ak ad [.ref h0, .int (a0)] ([(h0, .inr (6, [.ref xt, .ref xe, .ref xr, .ref xh, .ref xw, .ref xf, .ref xm, .ref xd, .ref xs, .ref xl])), (xh, .inr (1, [.ref xe, .ref b1, .ref b2, .ref b3, .ref b4, .ref b5, .ref b6, .int (0), .int (0), .int (0), .int (0), .int (0)])), (xe, .inr (2, [.int (0), .ref p1, .ref p2, .int (0), .ref p4, .int (0), .ref p6, .ref p7, .ref p8, .int (0), .ref p10, .ref p11, .ref p12, .ref p13, .ref p14, .ref p15, .ref p16]))]) sz) (cI D (S := Unit) (fun (r : Int32) (u : Unit) => r = fr_state a0) (fun u => []) ([(h0, .inr (6, [.ref xt, .ref xe, .ref xr, .ref xh, .ref xw, .ref xf, .ref xm, .ref xd, .ref xs, .ref xl])), (xh, .inr (1, [.ref xe, .ref b1, .ref b2, .ref b3, .ref b4, .ref b5, .ref b6, .int (0), .int (0), .int (0), .int (0), .int (0)])), (xe, .inr (2, [.int (0), .ref p1, .ref p2, .int (0), .ref p4, .int (0), .ref p6, .ref p7, .ref p8, .int (0), .ref p10, .ref p11, .ref p12, .ref p13, .ref p14, .ref p15, .ref p16]))]) sz) 0 0 (va_A ([(h0, .inr (6, [.ref xt, .ref xe, .ref xr, .ref xh, .ref xw, .ref xf, .ref xm, .ref xd, .ref xs, .ref xl])), (xh, .inr (1, [.ref xe, .ref b1, .ref b2, .ref b3, .ref b4, .ref b5, .ref b6, .int (0), .int (0), .int (0), .int (0), .int (0)])), (xe, .inr (2, [.int (0), .ref p1, .ref p2, .int (0), .ref p4, .int (0), .ref p6, .ref p7, .ref p8, .int (0), .ref p10, .ref p11, .ref p12, .ref p13, .ref p14, .ref p15, .ref p16]))]) sz) := by
  refine Met.ofW (cc := cX7_state) (maxL := 2) (ret := (some .int)) (by decide) rfl ?_
  intro p e s m args below meth c s₁ B hml hv
  obtain ⟨rfl, hsz, hP, hE, hD0, hT⟩ := hv
  have hx := B.exec
  have hb := B.bytes
  have hr := B.returns
  have hts := atoms_spec (ws := wsX7_state) B.pre
  have hown : s.vm.findClass RX7 = some m.cls := findClass_of_methodNamed B.named
  have hlocks := B.notSynchronized
  subst hsz
  have hD := hD0.self (sz := s.heap.size)
  generalize hAe : va_A ([(h0, .inr (6, [.ref xt, .ref xe, .ref xr, .ref xh, .ref xw, .ref xf, .ref xm, .ref xd, .ref xs, .ref xl])), (xh, .inr (1, [.ref xe, .ref b1, .ref b2, .ref b3, .ref b4, .ref b5, .ref b6, .int (0), .int (0), .int (0), .int (0), .int (0)])), (xe, .inr (2, [.int (0), .ref p1, .ref p2, .int (0), .ref p4, .int (0), .ref p6, .ref p7, .ref p8, .int (0), .ref p10, .ref p11, .ref p12, .ref p13, .ref p14, .ref p15, .ref p16]))]) s.heap.size = A at hD hT ⊢
  have hA : ∀ q : Nat, s.heap.size ≤ q → A q := fun q h => by rw [← hAe]; exact Or.inr h
  have hS : va_S A s.heap s.heap [] := va_S.rf
  have hl := lv_entry ([.ref h0, .int (a0)]) (n := 2) (Nat.le_of_ble_eq_true rfl)
  rw [lg_entry_eq]
  generalize (lg_sl ([.ref h0, .int (a0)]) ++ List.replicate (2 - (lg_sl ([.ref h0, .int (a0)])).length) Slot.unset).toArray = ls at hl ⊢
  have hl : lv_has ls 2 [(0, .ref h0), (1, .int (a0))] := hl
  have hP : va_P D vwCl [(h0, .inr (6, [.ref xt, .ref xe, .ref xr, .ref xh, .ref xw, .ref xf, .ref xm, .ref xd, .ref xs, .ref xl])), (xh, .inr (1, [.ref xe, .ref b1, .ref b2, .ref b3, .ref b4, .ref b5, .ref b6, .int (0), .int (0), .int (0), .int (0), .int (0)])), (xe, .inr (2, [.int (0), .ref p1, .ref p2, .int (0), .ref p4, .int (0), .ref p6, .ref p7, .ref p8, .int (0), .ref p10, .ref p11, .ref p12, .ref p13, .ref p14, .ref p15, .ref p16]))] s.heap := hP
  refine lv_iload_n hx hb dX7_state_0 rfl (lv_at hl 1 rfl) ?_
  by_cases k_1_0 : a0 = (0 : Int32)
  · refine lv_tableIn (tgt := 32) hx hb dX7_state_1 (by rw [k_1_0]; decide) (by rw [k_1_0]; decide) (off := 31) (by rw [k_1_0]; rfl) (by decide) ?_
    refine lv_aload_n hx hb dX7_state_32 rfl (lv_at hl 0 rfl) ?_
    refine va_get (D := D) (ci := 6) (v := .ref xh) (C := RX7) (T := TX7) (N := 10) hx hb hts (fun w h => List.mem_cons_of_mem _ (List.mem_append_left _ (List.mem_append_right _ h))) hown hE.1 hP 0 rfl rfl 3 (by decide) (hts (.fieldLink RX7 37 "WornLines" "hand" "LWornLines$Machine;") (by decide +kernel)) (fun _ h9 => h9) rfl dX7_state_33 ?_
    refine va_get (D := D) (ci := 1) (v := .int (0)) (C := RX1) (T := TX1) (N := 12) hx hb hts (fun w h => List.mem_cons_of_mem _ (List.mem_append_right _ h)) hown hE.1 hP 1 rfl rfl 8 (by decide) (hts (.fieldLink RX7 155 "WornLines$Machine" "state" "I") (by decide +kernel)) (fun _ h9 => h9) rfl dX7_state_36 ?_
    have hP9 := hP.sub (ws' := []) [] rfl
    have hD9 := hD.sub (ws' := []) [] (by decide) rfl
    refine W.widen (k := 0) (n := 0) (Nat.le_of_ble_eq_true rfl) (Nat.le_of_ble_eq_true rfl) ?_
    exact W.iret (v := 0) hx hb hr (fun t ht hW => ⟨⟨0, (()), rfl, (by rw [k_1_0]; rfl), by rw [ht]; exact hP9, by rw [hAe]; exact hD9⟩, by rw [hAe]; exact hS.F ht⟩) hS.2.2 dX7_state_39
  by_cases k_1_1 : a0 = (1 : Int32)
  · refine lv_tableIn (tgt := 40) hx hb dX7_state_1 (by rw [k_1_1]; decide) (by rw [k_1_1]; decide) (off := 39) (by rw [k_1_1]; rfl) (by decide) ?_
    refine lv_aload_n hx hb dX7_state_40 rfl (lv_at hl 0 rfl) ?_
    refine va_get (D := D) (ci := 6) (v := .ref xh) (C := RX7) (T := TX7) (N := 10) hx hb hts (fun w h => List.mem_cons_of_mem _ (List.mem_append_left _ (List.mem_append_right _ h))) hown hE.1 hP 0 rfl rfl 3 (by decide) (hts (.fieldLink RX7 37 "WornLines" "hand" "LWornLines$Machine;") (by decide +kernel)) (fun _ h9 => h9) rfl dX7_state_41 ?_
    refine va_get (D := D) (ci := 1) (v := .int (0)) (C := RX1) (T := TX1) (N := 12) hx hb hts (fun w h => List.mem_cons_of_mem _ (List.mem_append_right _ h)) hown hE.1 hP 1 rfl rfl 8 (by decide) (hts (.fieldLink RX7 155 "WornLines$Machine" "state" "I") (by decide +kernel)) (fun _ h9 => h9) rfl dX7_state_44 ?_
    refine lv_if_eq (tgt := 61) hx hb dX7_state_47 (by decide) (fun c_47 => ?_) (fun c_47 => ?_)
    · refine lv_iconst (v := (-1)) hx hb dX7_state_61 (by decide) ?_
      refine lv_goto (tgt := 72) hx hb dX7_state_62 (by decide) ?_
      have hP9 := hP.sub (ws' := []) [] rfl
      have hD9 := hD.sub (ws' := []) [] (by decide) rfl
      refine W.widen (k := 0) (n := 0) (Nat.le_of_ble_eq_true rfl) (Nat.le_of_ble_eq_true rfl) ?_
      exact W.iret (v := -1) hx hb hr (fun t ht hW => ⟨⟨-1, (()), rfl, (by rw [k_1_1]; rfl), by rw [ht]; exact hP9, by rw [hAe]; exact hD9⟩, by rw [hAe]; exact hS.F ht⟩) hS.2.2 dX7_state_72
    · exact absurd c_47 (by decide)
  by_cases k_1_2 : a0 = (2 : Int32)
  · refine lv_tableIn (tgt := 73) hx hb dX7_state_1 (by rw [k_1_2]; decide) (by rw [k_1_2]; decide) (off := 72) (by rw [k_1_2]; rfl) (by decide) ?_
    refine lv_aload_n hx hb dX7_state_73 rfl (lv_at hl 0 rfl) ?_
    refine va_get (D := D) (ci := 6) (v := .ref xh) (C := RX7) (T := TX7) (N := 10) hx hb hts (fun w h => List.mem_cons_of_mem _ (List.mem_append_left _ (List.mem_append_right _ h))) hown hE.1 hP 0 rfl rfl 3 (by decide) (hts (.fieldLink RX7 37 "WornLines" "hand" "LWornLines$Machine;") (by decide +kernel)) (fun _ h9 => h9) rfl dX7_state_74 ?_
    refine va_get (D := D) (ci := 1) (v := .int (0)) (C := RX1) (T := TX1) (N := 12) hx hb hts (fun w h => List.mem_cons_of_mem _ (List.mem_append_right _ h)) hown hE.1 hP 1 rfl rfl 10 (by decide) (hts (.fieldLink RX7 144 "WornLines$Machine" "steps" "I") (by decide +kernel)) (fun _ h9 => h9) rfl dX7_state_77 ?_
    have hP9 := hP.sub (ws' := []) [] rfl
    have hD9 := hD.sub (ws' := []) [] (by decide) rfl
    refine W.widen (k := 0) (n := 0) (Nat.le_of_ble_eq_true rfl) (Nat.le_of_ble_eq_true rfl) ?_
    exact W.iret (v := 0) hx hb hr (fun t ht hW => ⟨⟨0, (()), rfl, (by rw [k_1_2]; rfl), by rw [ht]; exact hP9, by rw [hAe]; exact hD9⟩, by rw [hAe]; exact hS.F ht⟩) hS.2.2 dX7_state_80
  by_cases k_1_3 : a0 = (3 : Int32)
  · refine lv_tableIn (tgt := 81) hx hb dX7_state_1 (by rw [k_1_3]; decide) (by rw [k_1_3]; decide) (off := 80) (by rw [k_1_3]; rfl) (by decide) ?_
    refine lv_aload_n hx hb dX7_state_81 rfl (lv_at hl 0 rfl) ?_
    refine va_get (D := D) (ci := 6) (v := .ref xh) (C := RX7) (T := TX7) (N := 10) hx hb hts (fun w h => List.mem_cons_of_mem _ (List.mem_append_left _ (List.mem_append_right _ h))) hown hE.1 hP 0 rfl rfl 3 (by decide) (hts (.fieldLink RX7 37 "WornLines" "hand" "LWornLines$Machine;") (by decide +kernel)) (fun _ h9 => h9) rfl dX7_state_82 ?_
    refine va_get (D := D) (ci := 1) (v := .int (0)) (C := RX1) (T := TX1) (N := 12) hx hb hts (fun w h => List.mem_cons_of_mem _ (List.mem_append_right _ h)) hown hE.1 hP 1 rfl rfl 11 (by decide) (hts (.fieldLink RX7 161 "WornLines$Machine" "written" "I") (by decide +kernel)) (fun _ h9 => h9) rfl dX7_state_85 ?_
    have hP9 := hP.sub (ws' := []) [] rfl
    have hD9 := hD.sub (ws' := []) [] (by decide) rfl
    refine W.widen (k := 0) (n := 0) (Nat.le_of_ble_eq_true rfl) (Nat.le_of_ble_eq_true rfl) ?_
    exact W.iret (v := 0) hx hb hr (fun t ht hW => ⟨⟨0, (()), rfl, (by rw [k_1_3]; rfl), by rw [ht]; exact hP9, by rw [hAe]; exact hD9⟩, by rw [hAe]; exact hS.F ht⟩) hS.2.2 dX7_state_88
  have hout : (a0 : Int32).toInt < 0 ∨ 3 < (a0 : Int32).toInt := tsw_out _ 0 3 (by intro j h1 h2; have hj : j = 0 ∨ j = 1 ∨ j = 2 ∨ j = 3 := (by omega); rcases hj with rfl | rfl | rfl | rfl <;> first | exact lv_neT k_1_0 rfl | exact lv_neT k_1_1 rfl | exact lv_neT k_1_2 rfl | exact lv_neT k_1_3 rfl)
  refine lv_tableOut (tgt := 89) hx hb dX7_state_1 hout (by decide) ?_
  refine lv_iconst (v := (-1)) hx hb dX7_state_89 (by decide) ?_
  have hP9 := hP.sub (ws' := []) [] rfl
  have hD9 := hD.sub (ws' := []) [] (by decide) rfl
  refine W.widen (k := 0) (n := 0) (Nat.le_of_ble_eq_true rfl) (Nat.le_of_ble_eq_true rfl) ?_
  exact W.iret (v := -1) hx hb hr (fun t ht hW => ⟨⟨-1, (()), rfl, (by rw [fr_state, if_neg k_1_0, if_neg k_1_1, if_neg k_1_2, if_neg k_1_3]), by rw [ht]; exact hP9, by rw [hAe]; exact hD9⟩, by rw [hAe]; exact hS.F ht⟩) hS.2.2 dX7_state_90

set_option maxHeartbeats 4000000 in
set_option maxRecDepth 100000 in
theorem c_X7_count (l : Launch) (D : va_G) (ak : Nat → ClassId) (ad : Nat → Nat) (sz : Nat) (h0 : Nat) (xt : Nat) (xe : Nat) (xr : Nat) (xh : Nat) (xw : Nat) (xf : Nat) (xm : Nat) (xd : Nat) (xs : Nat) (xl : Nat) (b1 : Nat) (b2 : Nat) (b3 : Nat) (b4 : Nat) (b5 : Nat) (b6 : Nat) (p1 : Nat) (p2 : Nat) (p4 : Nat) (p6 : Nat) (p7 : Nat) (p8 : Nat) (p10 : Nat) (p11 : Nat) (p12 : Nat) (p13 : Nat) (p14 : Nat) (p15 : Nat) (p16 : Nat) (t0 : Nat) (t2 : Nat) (t3 : Nat) (t4 : Nat) (a0 : Int32)  : Met l yX7_count wsX7_count ({ frames := 0, cells := 0, slots := 0, locals := 0 }) (cPre D ak ad [.ref h0, .int (a0)] ([(h0, .inr (6, [.ref xt, .ref xe, .ref xr, .ref xh, .ref xw, .ref xf, .ref xm, .ref xd, .ref xs, .ref xl])), (xh, .inr (1, [.ref xe, .ref b1, .ref b2, .ref b3, .ref b4, .ref b5, .ref b6, .int (0), .int (0), .int (0), .int (0), .int (0)])), (xe, .inr (2, [.int (0), .ref p1, .ref p2, .int (0), .ref p4, .int (0), .ref p6, .ref p7, .ref p8, .int (0), .ref p10, .ref p11, .ref p12, .ref p13, .ref p14, .ref p15, .ref p16])), (xt, .inr (5, [.ref t0, .int (0), .ref t2, .ref t3, .ref t4, .int (0)]))]) sz) (cI D (S := Unit) (fun (r : Int32) (u : Unit) => r = fr_count a0) (fun u => []) ([(h0, .inr (6, [.ref xt, .ref xe, .ref xr, .ref xh, .ref xw, .ref xf, .ref xm, .ref xd, .ref xs, .ref xl])), (xh, .inr (1, [.ref xe, .ref b1, .ref b2, .ref b3, .ref b4, .ref b5, .ref b6, .int (0), .int (0), .int (0), .int (0), .int (0)])), (xe, .inr (2, [.int (0), .ref p1, .ref p2, .int (0), .ref p4, .int (0), .ref p6, .ref p7, .ref p8, .int (0), .ref p10, .ref p11, .ref p12, .ref p13, .ref p14, .ref p15, .ref p16])), (xt, .inr (5, [.ref t0, .int (0), .ref t2, .ref t3, .ref t4, .int (0)]))]) sz) 0 0 (va_A ([(h0, .inr (6, [.ref xt, .ref xe, .ref xr, .ref xh, .ref xw, .ref xf, .ref xm, .ref xd, .ref xs, .ref xl])), (xh, .inr (1, [.ref xe, .ref b1, .ref b2, .ref b3, .ref b4, .ref b5, .ref b6, .int (0), .int (0), .int (0), .int (0), .int (0)])), (xe, .inr (2, [.int (0), .ref p1, .ref p2, .int (0), .ref p4, .int (0), .ref p6, .ref p7, .ref p8, .int (0), .ref p10, .ref p11, .ref p12, .ref p13, .ref p14, .ref p15, .ref p16])), (xt, .inr (5, [.ref t0, .int (0), .ref t2, .ref t3, .ref t4, .int (0)]))]) sz) := by
  refine Met.ofW (cc := cX7_count) (maxL := 2) (ret := (some .int)) (by decide) rfl ?_
  intro p e s m args below meth c s₁ B hml hv
  obtain ⟨rfl, hsz, hP, hE, hD0, hT⟩ := hv
  have hx := B.exec
  have hb := B.bytes
  have hr := B.returns
  have hts := atoms_spec (ws := wsX7_count) B.pre
  have hown : s.vm.findClass RX7 = some m.cls := findClass_of_methodNamed B.named
  have hlocks := B.notSynchronized
  subst hsz
  have hD := hD0.self (sz := s.heap.size)
  generalize hAe : va_A ([(h0, .inr (6, [.ref xt, .ref xe, .ref xr, .ref xh, .ref xw, .ref xf, .ref xm, .ref xd, .ref xs, .ref xl])), (xh, .inr (1, [.ref xe, .ref b1, .ref b2, .ref b3, .ref b4, .ref b5, .ref b6, .int (0), .int (0), .int (0), .int (0), .int (0)])), (xe, .inr (2, [.int (0), .ref p1, .ref p2, .int (0), .ref p4, .int (0), .ref p6, .ref p7, .ref p8, .int (0), .ref p10, .ref p11, .ref p12, .ref p13, .ref p14, .ref p15, .ref p16])), (xt, .inr (5, [.ref t0, .int (0), .ref t2, .ref t3, .ref t4, .int (0)]))]) s.heap.size = A at hD hT ⊢
  have hA : ∀ q : Nat, s.heap.size ≤ q → A q := fun q h => by rw [← hAe]; exact Or.inr h
  have hS : va_S A s.heap s.heap [] := va_S.rf
  have hl := lv_entry ([.ref h0, .int (a0)]) (n := 2) (Nat.le_of_ble_eq_true rfl)
  rw [lg_entry_eq]
  generalize (lg_sl ([.ref h0, .int (a0)]) ++ List.replicate (2 - (lg_sl ([.ref h0, .int (a0)])).length) Slot.unset).toArray = ls at hl ⊢
  have hl : lv_has ls 2 [(0, .ref h0), (1, .int (a0))] := hl
  have hP : va_P D vwCl [(h0, .inr (6, [.ref xt, .ref xe, .ref xr, .ref xh, .ref xw, .ref xf, .ref xm, .ref xd, .ref xs, .ref xl])), (xh, .inr (1, [.ref xe, .ref b1, .ref b2, .ref b3, .ref b4, .ref b5, .ref b6, .int (0), .int (0), .int (0), .int (0), .int (0)])), (xe, .inr (2, [.int (0), .ref p1, .ref p2, .int (0), .ref p4, .int (0), .ref p6, .ref p7, .ref p8, .int (0), .ref p10, .ref p11, .ref p12, .ref p13, .ref p14, .ref p15, .ref p16])), (xt, .inr (5, [.ref t0, .int (0), .ref t2, .ref t3, .ref t4, .int (0)]))] s.heap := hP
  refine lv_iload_n hx hb dX7_count_0 rfl (lv_at hl 1 rfl) ?_
  by_cases k_1_0 : a0 = (0 : Int32)
  · refine lv_tableIn (tgt := 36) hx hb dX7_count_1 (by rw [k_1_0]; decide) (by rw [k_1_0]; decide) (off := 35) (by rw [k_1_0]; rfl) (by decide) ?_
    refine lv_aload_n hx hb dX7_count_36 rfl (lv_at hl 0 rfl) ?_
    refine va_get (D := D) (ci := 6) (v := .ref xh) (C := RX7) (T := TX7) (N := 10) hx hb hts (fun w h => List.mem_cons_of_mem _ (List.mem_append_left _ (List.mem_append_left _ (List.mem_append_left _ (List.mem_append_right _ h))))) hown hE.1 hP 0 rfl rfl 3 (by decide) (hts (.fieldLink RX7 37 "WornLines" "hand" "LWornLines$Machine;") (by decide +kernel)) (fun _ h9 => h9) rfl dX7_count_37 ?_
    refine va_get (D := D) (ci := 1) (v := .ref xe) (C := RX1) (T := TX1) (N := 12) hx hb hts (fun w h => List.mem_cons_of_mem _ (List.mem_append_left _ (List.mem_append_left _ (List.mem_append_right _ h)))) hown hE.1 hP 1 rfl rfl 0 (by decide) (hts (.fieldLink RX7 89 "WornLines$Machine" "programme" "LWornLines$Programme;") (by decide +kernel)) (fun _ h9 => h9) rfl dX7_count_40 ?_
    refine va_get (D := D) (ci := 2) (v := .int (0)) (C := RX2) (T := TX2) (N := 17) hx hb hts (fun w h => List.mem_cons_of_mem _ (List.mem_append_left _ (List.mem_append_right _ h))) hown hE.1 hP 2 rfl rfl 0 (by decide) (hts (.fieldLink RX7 92 "WornLines$Programme" "stuffs" "I") (by decide +kernel)) (fun _ h9 => h9) rfl dX7_count_43 ?_
    have hP9 := hP.sub (ws' := []) [] rfl
    have hD9 := hD.sub (ws' := []) [] (by decide) rfl
    refine W.widen (k := 0) (n := 0) (Nat.le_of_ble_eq_true rfl) (Nat.le_of_ble_eq_true rfl) ?_
    exact W.iret (v := 0) hx hb hr (fun t ht hW => ⟨⟨0, (()), rfl, (by rw [k_1_0]; rfl), by rw [ht]; exact hP9, by rw [hAe]; exact hD9⟩, by rw [hAe]; exact hS.F ht⟩) hS.2.2 dX7_count_46
  by_cases k_1_1 : a0 = (1 : Int32)
  · refine lv_tableIn (tgt := 47) hx hb dX7_count_1 (by rw [k_1_1]; decide) (by rw [k_1_1]; decide) (off := 46) (by rw [k_1_1]; rfl) (by decide) ?_
    refine lv_aload_n hx hb dX7_count_47 rfl (lv_at hl 0 rfl) ?_
    refine va_get (D := D) (ci := 6) (v := .ref xh) (C := RX7) (T := TX7) (N := 10) hx hb hts (fun w h => List.mem_cons_of_mem _ (List.mem_append_left _ (List.mem_append_left _ (List.mem_append_left _ (List.mem_append_right _ h))))) hown hE.1 hP 0 rfl rfl 3 (by decide) (hts (.fieldLink RX7 37 "WornLines" "hand" "LWornLines$Machine;") (by decide +kernel)) (fun _ h9 => h9) rfl dX7_count_48 ?_
    refine va_get (D := D) (ci := 1) (v := .ref xe) (C := RX1) (T := TX1) (N := 12) hx hb hts (fun w h => List.mem_cons_of_mem _ (List.mem_append_left _ (List.mem_append_left _ (List.mem_append_right _ h)))) hown hE.1 hP 1 rfl rfl 0 (by decide) (hts (.fieldLink RX7 89 "WornLines$Machine" "programme" "LWornLines$Programme;") (by decide +kernel)) (fun _ h9 => h9) rfl dX7_count_51 ?_
    refine va_get (D := D) (ci := 2) (v := .int (0)) (C := RX2) (T := TX2) (N := 17) hx hb hts (fun w h => List.mem_cons_of_mem _ (List.mem_append_left _ (List.mem_append_right _ h))) hown hE.1 hP 2 rfl rfl 3 (by decide) (hts (.fieldLink RX7 128 "WornLines$Programme" "cells" "I") (by decide +kernel)) (fun _ h9 => h9) rfl dX7_count_54 ?_
    have hP9 := hP.sub (ws' := []) [] rfl
    have hD9 := hD.sub (ws' := []) [] (by decide) rfl
    refine W.widen (k := 0) (n := 0) (Nat.le_of_ble_eq_true rfl) (Nat.le_of_ble_eq_true rfl) ?_
    exact W.iret (v := 0) hx hb hr (fun t ht hW => ⟨⟨0, (()), rfl, (by rw [k_1_1]; rfl), by rw [ht]; exact hP9, by rw [hAe]; exact hD9⟩, by rw [hAe]; exact hS.F ht⟩) hS.2.2 dX7_count_57
  by_cases k_1_2 : a0 = (2 : Int32)
  · refine lv_tableIn (tgt := 58) hx hb dX7_count_1 (by rw [k_1_2]; decide) (by rw [k_1_2]; decide) (off := 57) (by rw [k_1_2]; rfl) (by decide) ?_
    refine lv_aload_n hx hb dX7_count_58 rfl (lv_at hl 0 rfl) ?_
    refine va_get (D := D) (ci := 6) (v := .ref xh) (C := RX7) (T := TX7) (N := 10) hx hb hts (fun w h => List.mem_cons_of_mem _ (List.mem_append_left _ (List.mem_append_left _ (List.mem_append_left _ (List.mem_append_right _ h))))) hown hE.1 hP 0 rfl rfl 3 (by decide) (hts (.fieldLink RX7 37 "WornLines" "hand" "LWornLines$Machine;") (by decide +kernel)) (fun _ h9 => h9) rfl dX7_count_59 ?_
    refine va_get (D := D) (ci := 1) (v := .ref xe) (C := RX1) (T := TX1) (N := 12) hx hb hts (fun w h => List.mem_cons_of_mem _ (List.mem_append_left _ (List.mem_append_left _ (List.mem_append_right _ h)))) hown hE.1 hP 1 rfl rfl 0 (by decide) (hts (.fieldLink RX7 89 "WornLines$Machine" "programme" "LWornLines$Programme;") (by decide +kernel)) (fun _ h9 => h9) rfl dX7_count_62 ?_
    refine va_get (D := D) (ci := 2) (v := .int (0)) (C := RX2) (T := TX2) (N := 17) hx hb hts (fun w h => List.mem_cons_of_mem _ (List.mem_append_left _ (List.mem_append_right _ h))) hown hE.1 hP 2 rfl rfl 5 (by decide) (hts (.fieldLink RX7 243 "WornLines$Programme" "given" "I") (by decide +kernel)) (fun _ h9 => h9) rfl dX7_count_65 ?_
    have hP9 := hP.sub (ws' := []) [] rfl
    have hD9 := hD.sub (ws' := []) [] (by decide) rfl
    refine W.widen (k := 0) (n := 0) (Nat.le_of_ble_eq_true rfl) (Nat.le_of_ble_eq_true rfl) ?_
    exact W.iret (v := 0) hx hb hr (fun t ht hW => ⟨⟨0, (()), rfl, (by rw [k_1_2]; rfl), by rw [ht]; exact hP9, by rw [hAe]; exact hD9⟩, by rw [hAe]; exact hS.F ht⟩) hS.2.2 dX7_count_68
  by_cases k_1_3 : a0 = (3 : Int32)
  · refine lv_tableIn (tgt := 69) hx hb dX7_count_1 (by rw [k_1_3]; decide) (by rw [k_1_3]; decide) (off := 68) (by rw [k_1_3]; rfl) (by decide) ?_
    refine lv_aload_n hx hb dX7_count_69 rfl (lv_at hl 0 rfl) ?_
    refine va_get (D := D) (ci := 6) (v := .ref xh) (C := RX7) (T := TX7) (N := 10) hx hb hts (fun w h => List.mem_cons_of_mem _ (List.mem_append_left _ (List.mem_append_left _ (List.mem_append_left _ (List.mem_append_right _ h))))) hown hE.1 hP 0 rfl rfl 3 (by decide) (hts (.fieldLink RX7 37 "WornLines" "hand" "LWornLines$Machine;") (by decide +kernel)) (fun _ h9 => h9) rfl dX7_count_70 ?_
    refine va_get (D := D) (ci := 1) (v := .ref xe) (C := RX1) (T := TX1) (N := 12) hx hb hts (fun w h => List.mem_cons_of_mem _ (List.mem_append_left _ (List.mem_append_left _ (List.mem_append_right _ h)))) hown hE.1 hP 1 rfl rfl 0 (by decide) (hts (.fieldLink RX7 89 "WornLines$Machine" "programme" "LWornLines$Programme;") (by decide +kernel)) (fun _ h9 => h9) rfl dX7_count_73 ?_
    refine va_get (D := D) (ci := 2) (v := .int (0)) (C := RX2) (T := TX2) (N := 17) hx hb hts (fun w h => List.mem_cons_of_mem _ (List.mem_append_left _ (List.mem_append_right _ h))) hown hE.1 hP 2 rfl rfl 9 (by decide) (hts (.fieldLink RX7 106 "WornLines$Programme" "lines" "I") (by decide +kernel)) (fun _ h9 => h9) rfl dX7_count_76 ?_
    have hP9 := hP.sub (ws' := []) [] rfl
    have hD9 := hD.sub (ws' := []) [] (by decide) rfl
    refine W.widen (k := 0) (n := 0) (Nat.le_of_ble_eq_true rfl) (Nat.le_of_ble_eq_true rfl) ?_
    exact W.iret (v := 0) hx hb hr (fun t ht hW => ⟨⟨0, (()), rfl, (by rw [k_1_3]; rfl), by rw [ht]; exact hP9, by rw [hAe]; exact hD9⟩, by rw [hAe]; exact hS.F ht⟩) hS.2.2 dX7_count_79
  by_cases k_1_4 : a0 = (4 : Int32)
  · refine lv_tableIn (tgt := 80) hx hb dX7_count_1 (by rw [k_1_4]; decide) (by rw [k_1_4]; decide) (off := 79) (by rw [k_1_4]; rfl) (by decide) ?_
    refine lv_aload_n hx hb dX7_count_80 rfl (lv_at hl 0 rfl) ?_
    refine va_get (D := D) (ci := 6) (v := .ref xt) (C := RX7) (T := TX7) (N := 10) hx hb hts (fun w h => List.mem_cons_of_mem _ (List.mem_append_left _ (List.mem_append_left _ (List.mem_append_left _ (List.mem_append_right _ h))))) hown hE.1 hP 0 rfl rfl 0 (by decide) (hts (.fieldLink RX7 10 "WornLines" "tape" "LWornLines$Tape;") (by decide +kernel)) (fun _ h9 => h9) rfl dX7_count_81 ?_
    refine va_get (D := D) (ci := 5) (v := .int (0)) (C := RX5) (T := TX5) (N := 6) hx hb hts (fun w h => List.mem_cons_of_mem _ (List.mem_append_right _ h)) hown hE.1 hP 3 rfl rfl 1 (by decide) (hts (.fieldLink RX7 75 "WornLines$Tape" "length" "I") (by decide +kernel)) (fun _ h9 => h9) rfl dX7_count_84 ?_
    have hP9 := hP.sub (ws' := []) [] rfl
    have hD9 := hD.sub (ws' := []) [] (by decide) rfl
    refine W.widen (k := 0) (n := 0) (Nat.le_of_ble_eq_true rfl) (Nat.le_of_ble_eq_true rfl) ?_
    exact W.iret (v := 0) hx hb hr (fun t ht hW => ⟨⟨0, (()), rfl, (by rw [k_1_4]; rfl), by rw [ht]; exact hP9, by rw [hAe]; exact hD9⟩, by rw [hAe]; exact hS.F ht⟩) hS.2.2 dX7_count_87
  have hout : (a0 : Int32).toInt < 0 ∨ 4 < (a0 : Int32).toInt := tsw_out _ 0 4 (by intro j h1 h2; have hj : j = 0 ∨ j = 1 ∨ j = 2 ∨ j = 3 ∨ j = 4 := (by omega); rcases hj with rfl | rfl | rfl | rfl | rfl <;> first | exact lv_neT k_1_0 rfl | exact lv_neT k_1_1 rfl | exact lv_neT k_1_2 rfl | exact lv_neT k_1_3 rfl | exact lv_neT k_1_4 rfl)
  refine lv_tableOut (tgt := 88) hx hb dX7_count_1 hout (by decide) ?_
  refine lv_iconst (v := (-1)) hx hb dX7_count_88 (by decide) ?_
  have hP9 := hP.sub (ws' := []) [] rfl
  have hD9 := hD.sub (ws' := []) [] (by decide) rfl
  refine W.widen (k := 0) (n := 0) (Nat.le_of_ble_eq_true rfl) (Nat.le_of_ble_eq_true rfl) ?_
  exact W.iret (v := -1) hx hb hr (fun t ht hW => ⟨⟨-1, (()), rfl, (by rw [fr_count, if_neg k_1_0, if_neg k_1_1, if_neg k_1_2, if_neg k_1_3, if_neg k_1_4]), by rw [ht]; exact hP9, by rw [hAe]; exact hD9⟩, by rw [hAe]; exact hS.F ht⟩) hS.2.2 dX7_count_89
