section LV2
variable {p : Program} {l : Launch} {e : Env} {R : Room} {s : State} {m : MethodId} {args : Array Value} {below : List Frame} {meth : Method} {c : Code} {H : Heap} {locs : List Loc} {cells slots : Nat} {Q : State → Prop}
variable {pc : Nat} {ls : Array Slot} {rest st0 : List Value} {a : Array Value} {A : Nat → Prop} {mc ms : Nat} {D : va_G} {U C V : va_W}
/-- a call that answers nothing, of a method with cells in the middle of the row -/
theorem lc_v {S : Type} {post : S → Prop} {w : S → va_W} (hP : va_P D vwCl (U ++ (C ++ V)) H) (hD : va_D A (U ++ (C ++ V))) (hS : va_S A s.heap H locs) (hA : ∀ q, s.heap.size ≤ q → A q)
    (hr : va_Run p l e R s m args below meth c H locs cells slots mc ms (F0 m pc ls st0) rest (cV D post w C H.size a) (va_A C H.size))
    (kk : ∀ (u : S) (H1 : Heap) (locs1 : List Loc), post u → va_P D vwCl (U ++ (w u ++ V)) H1 → va_D A (U ++ (w u ++ V)) → va_S A s.heap H1 locs1 → W p l e R s m args below meth c H1 locs1 (cells + mc) (slots + ms) Q (F0 m (pc + 3) ls rest)) : W p l e R s m args below meth c H locs cells slots Q (F0 m pc ls st0) := by
  have hF := lc_free hD hS hA
  refine va_callv hr hS (fun q _ h => hF q h) hF (fun u t H1 locs1 ht hvm hw hB hz hk hS1 => ?_)
  obtain ⟨hP1, hD1⟩ := hB
  rw [ht] at hP1
  obtain ⟨h1, h2⟩ := lc_join hP hD hF hk hP1 hD1
  exact kk u H1 locs1 hw h1 h2 hS1
end LV2
/-- Layout's cells at its start -/
def LB (ak : Nat → ClassId) (h0 p0 : Nat) (u : Nat → Nat) : va_W := [(h0, .inr (0, lob u p0 0 0)), (u 0, .inl (ak 0, 16, .inl (fun _ => 0))), (u 1, .inl (ak 6, 17, .inr (.inr (.inr (.inr (grA (fun i => u 1 + 1 + i)))))))] ++ gRows ak (fun i => u 1 + 1 + i) (fun _ _ => 0)
set_option maxHeartbeats 4000000 in
set_option maxRecDepth 100000 in
theorem c_X0_init2 (l : Launch) (D : va_G) (ak : Nat → ClassId) (ad : Nat → Nat) (sz : Nat) (h0 : Nat) (p0 : Nat)  : Met l yX0_init wsX0_init ({ frames := 1, cells := 19, slots := 1138, locals := 12 }) (cPre D ak ad [.ref h0, .ref p0] ([(h0, .inr (0, [.null, .null, .null, .int (0), .int (0)]))]) sz) (cV D (S := (Nat → Nat)) (fun (u : (Nat → Nat)) => True) (fun u => LB ak h0 p0 u) ([(h0, .inr (0, [.null, .null, .null, .int (0), .int (0)]))]) sz) 19 1138 (va_A ([(h0, .inr (0, [.null, .null, .null, .int (0), .int (0)]))]) sz) := by
  refine Met.ofW (cc := cX0_init) (maxL := 2) (ret := none) (by decide) rfl ?_
  intro p e s m args below meth c s₁ B hml hv
  obtain ⟨rfl, hsz, hP, hE, hD0, hT⟩ := hv
  have hx := B.exec
  have hb := B.bytes
  have hr := B.returns
  have hts := atoms_spec (ws := wsX0_init) B.pre
  have hown : s.vm.findClass RX0 = some m.cls := findClass_of_methodNamed B.named
  have hlocks := B.notSynchronized
  have hin : meth.name = "<init>" := (name_of_methodNamed B.named B.method).1
  subst hsz
  have hD := hD0.self (sz := s.heap.size)
  generalize hAe : va_A ([(h0, .inr (0, [.null, .null, .null, .int (0), .int (0)]))]) s.heap.size = A at hD hT ⊢
  have hA : ∀ q : Nat, s.heap.size ≤ q → A q := fun q h => by rw [← hAe]; exact Or.inr h
  have hS : va_S A s.heap s.heap [] := va_S.rf
  have hl := lv_entry ([.ref h0, .ref p0]) (n := 2) (Nat.le_of_ble_eq_true rfl)
  rw [lg_entry_eq]
  generalize (lg_sl ([.ref h0, .ref p0]) ++ List.replicate (2 - (lg_sl ([.ref h0, .ref p0])).length) Slot.unset).toArray = ls at hl ⊢
  have hl : lv_has ls 2 [(0, .ref h0), (1, .ref p0)] := hl
  have hP : va_P D vwCl [(h0, .inr (0, [.null, .null, .null, .int (0), .int (0)]))] s.heap := hP
  refine lv_aload_n hx hb dX0_init_0 rfl (lv_at hl 0 rfl) ?_
  refine W.objInit hx hb hown (hts (.methodLink RX0 3 objectInit) (wm_c hw_308)) (hts (.instanceMethod objectInit) (wm_c hw_261)) (hts (.code objectInit ⟨#[0xb1]⟩ 1 none) (wm_c hw_262)) rfl (by rw [hml]; exact hl.1) rfl dX0_init_1 (Nat.le_of_ble_eq_true rfl) (Nat.le_of_ble_eq_true rfl) ?_
  refine W.eq (g2 := F0 m 4 ls ([])) rfl ?_
  refine lv_aload_n hx hb dX0_init_4 rfl (lv_at hl 0 rfl) ?_
  refine lv_bipush (v := 16) hx hb dX0_init_5 (by decide) ?_
  refine kn_a (atype := .int) (ty := .int) (a0 := (16, .inl (fun _ => 0))) (N' := 16) hx hb (hts (.arrayClass .int) (wm_c hw_267)) hE 0 rfl rfl (fun _ h => h) hP hD hS hA (fun cA => vp_cell_i cA 16 (fun _ => 0)) (by decide) (rfl) (by decide +kernel) (Nat.le_of_ble_eq_true rfl) (Nat.le_of_ble_eq_true rfl) dX0_init_7 (fun q_1 H hP hD hS => ?_)
  have hP : va_P D vwCl [(h0, .inr (0, [.null, .null, .null, .int (0), .int (0)])), (q_1, .inl (ak 0, 16, .inl (fun _ => 0)))] H := hP
  have hD : va_D A [(h0, .inr (0, [.null, .null, .null, .int (0), .int (0)])), (q_1, .inl (ak 0, 16, .inl (fun _ => 0)))] := hD
  refine W.widen (k := 1) (n := 16) (Nat.le_of_ble_eq_true rfl) (Nat.le_of_ble_eq_true rfl) ?_
  refine va_putF (D := D) (ci := 0) (v := .ref q_1) (ty := .array .int) (C := RX0) (T := TX0) (N := 5) hx hb hts (fun w h => wm_c (wc_X0 w h)) tyX0 tyX0_ok nmX0 hown hE.1 hP hD hS 0 rfl rfl 1 (by decide) (hts (.fieldLink RX0 9 "WornLines$Layout" "peak" "[I") (wm_c hw_309)) (fun _ h9 => h9) rfl hin rfl (by decide +kernel) rfl rfl (Nat.le_of_ble_eq_true rfl) dX0_init_9 (fun H locs hP hD hS => ?_)
  have hP : va_P D vwCl [(h0, .inr (0, [.null, .ref q_1, .null, .int (0), .int (0)])), (q_1, .inl (ak 0, 16, .inl (fun _ => 0)))] H := hP
  have hD : va_D A [(h0, .inr (0, [.null, .ref q_1, .null, .int (0), .int (0)])), (q_1, .inl (ak 0, 16, .inl (fun _ => 0)))] := hD
  refine lv_aload_n hx hb dX0_init_12 rfl (lv_at hl 0 rfl) ?_
  refine lv_bipush (v := 17) hx hb dX0_init_13 (by decide) ?_
  refine lv_bipush (v := 65) hx hb dX0_init_15 (by decide) ?_
  refine kn_g (N := 17) (M := 65) hx hb hown (hts (.classLink RX0 15 "[[I") (wm_c hw_310)) (hts (.arrayClass .int) (wm_c hw_267)) hE hP hD hS hA (by decide) (by decide) rfl rfl (Nat.le_of_ble_eq_true rfl) (Nat.le_of_ble_eq_true rfl) (Nat.le_of_ble_eq_true rfl) (Nat.le_of_ble_eq_true rfl) dX0_init_17 (fun q_2 H hP hD hS => ?_)
  have hP : va_P D vwCl ([(h0, .inr (0, [.null, .ref q_1, .null, .int (0), .int (0)])), (q_1, .inl (ak 0, 16, .inl (fun _ => 0))), (q_2, .inl (ak 6, 17, .inr (.inr (.inr (.inr (grA (fun i => q_2 + 1 + i)))))))] ++ gRows ak (fun i => q_2 + 1 + i) (fun _ _ => 0)) H := hP
  have hD : va_D A ([(h0, .inr (0, [.null, .ref q_1, .null, .int (0), .int (0)])), (q_1, .inl (ak 0, 16, .inl (fun _ => 0))), (q_2, .inl (ak 6, 17, .inr (.inr (.inr (.inr (grA (fun i => q_2 + 1 + i)))))))] ++ gRows ak (fun i => q_2 + 1 + i) (fun _ _ => 0)) := hD
  refine W.widen (k := 19) (n := 1138) (Nat.le_of_ble_eq_true rfl) (Nat.le_of_ble_eq_true rfl) ?_
  refine va_putF (D := D) (ci := 0) (v := .ref q_2) (ty := .array (.array .int)) (C := RX0) (T := TX0) (N := 5) hx hb hts (fun w h => wm_c (wc_X0 w h)) tyX0 tyX0_ok nmX0 hown hE.1 hP hD hS 0 rfl rfl 2 (by decide) (hts (.fieldLink RX0 17 "WornLines$Layout" "least" "[[I") (wm_c hw_311)) (fun _ h9 => h9) rfl hin rfl (by decide +kernel) rfl rfl (Nat.le_of_ble_eq_true rfl) dX0_init_21 (fun H locs hP hD hS => ?_)
  have hP : va_P D vwCl ([(h0, .inr (0, [.null, .ref q_1, .ref q_2, .int (0), .int (0)])), (q_1, .inl (ak 0, 16, .inl (fun _ => 0))), (q_2, .inl (ak 6, 17, .inr (.inr (.inr (.inr (grA (fun i => q_2 + 1 + i)))))))] ++ gRows ak (fun i => q_2 + 1 + i) (fun _ _ => 0)) H := hP
  have hD : va_D A ([(h0, .inr (0, [.null, .ref q_1, .ref q_2, .int (0), .int (0)])), (q_1, .inl (ak 0, 16, .inl (fun _ => 0))), (q_2, .inl (ak 6, 17, .inr (.inr (.inr (.inr (grA (fun i => q_2 + 1 + i)))))))] ++ gRows ak (fun i => q_2 + 1 + i) (fun _ _ => 0)) := hD
  refine lv_aload_n hx hb dX0_init_24 rfl (lv_at hl 0 rfl) ?_
  refine lv_aload_n hx hb dX0_init_25 rfl (lv_at hl 1 rfl) ?_
  refine va_put (D := D) (ci := 0) (v := .ref p0) (ty := .object "WornLines$Programme") (C := RX0) (T := TX0) (N := 5) hx hb hts (fun w h => wm_c (wc_X0 w h)) tyX0 tyX0_ok nmX0 hown hE.1 hP hD hS 0 rfl rfl 0 (by decide) (hts (.fieldLink RX0 20 "WornLines$Layout" "programme" "LWornLines$Programme;") (wm_c hw_312)) (fun _ h9 => h9) rfl (by decide +kernel) rfl rfl (Nat.le_of_ble_eq_true rfl) dX0_init_26 (fun H locs hP hD hS => ?_)
  have hP : va_P D vwCl ([(h0, .inr (0, [.ref p0, .ref q_1, .ref q_2, .int (0), .int (0)])), (q_1, .inl (ak 0, 16, .inl (fun _ => 0))), (q_2, .inl (ak 6, 17, .inr (.inr (.inr (.inr (grA (fun i => q_2 + 1 + i)))))))] ++ gRows ak (fun i => q_2 + 1 + i) (fun _ _ => 0)) H := hP
  have hD : va_D A ([(h0, .inr (0, [.ref p0, .ref q_1, .ref q_2, .int (0), .int (0)])), (q_1, .inl (ak 0, 16, .inl (fun _ => 0))), (q_2, .inl (ak 6, 17, .inr (.inr (.inr (.inr (grA (fun i => q_2 + 1 + i)))))))] ++ gRows ak (fun i => q_2 + 1 + i) (fun _ _ => 0)) := hD
  have hP9 : va_P D vwCl (LB ak h0 p0 (fun k => match k with | 0 => q_1 | _ => q_2)) H := hP
  have hD9 : va_D A (LB ak h0 p0 (fun k => match k with | 0 => q_1 | _ => q_2)) := hD
  refine W.widen (k := 19) (n := 1138) (Nat.le_of_ble_eq_true rfl) (Nat.le_of_ble_eq_true rfl) ?_
  exact W.vret hx hb hr (fun t ht hW => ⟨⟨((fun k => match k with | 0 => q_1 | _ => q_2)), rfl, trivial, by rw [ht]; exact hP9, by rw [hAe]; exact hD9⟩, by rw [hAe]; exact hS.F ht⟩) hS.2.2 dX0_init_29
