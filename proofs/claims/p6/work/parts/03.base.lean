-- the array rows' types that the worlds hold, the tables' words beside va_K, the enum's constants
abbrev AT (ak : Nat → ClassId) : List (ClassId × FieldType) := [(ak 0, .int), (ak 1, .long), (ak 2, .char), (ak 3, .boolean), (ak 4, .object "WornLines$Token"), (ak 5, .object "WornLines$Machine"), (ak 6, .array .int)]
def nwM : List (String × Nat × MethodName) := [(RX7, 9, yX5_init), (RX7, 18, yX2_init), (RX7, 57, yX4_init), (RX1, 95, yX7_within), (RX3, 50, yX2_init), (RX4, 62, yX7_within)]
def GK (ak : Nat → ClassId) (U : State) : Prop := ∃ kG : Class, U.vm.classes[ak 6]? = some kG ∧ kG.kind = .array (ak 0) (.array .int)
theorem GK.moved {ak : Nat → ClassId} {u U : State} (hvm : u.vm.Alike U.vm) (h : GK ak u) : GK ak U := by
  obtain ⟨k, h1, h2⟩ := h
  obtain ⟨k', hk', he⟩ := hvm.2.2 _ _ h1
  exact ⟨k', hk', by rw [he]; exact h2⟩
def EV (D : va_G) (ak : Nat → ClassId) (U : State) : Prop := va_K D vwCl (AT ak) U ∧ va_AO RX6 U ∧ va_AO RX1 U ∧ (∀ w ∈ nwM, va_Nw (.methodLinkNest w.1 w.2.1 w.2.2 RX7) U) ∧ va_Nw (.fieldLinkNest RX5 78 RX7 "TOKENS" "[LWornLines$Token;" RX7) U ∧ GK ak U
theorem EV.warm {D : va_G} {ak : Nat → ClassId} {s U : State} (hW : s.WarmedH U.vm) (h : EV D ak s) : EV D ak U :=
  ⟨va_K.moved hW.alike h.1, va_AO.moved hW.alike h.2.1, va_AO.moved hW.alike h.2.2.1, fun w hw => va_Nw.warmM hW (h.2.2.2.1 w hw), va_Nw.warmF hW h.2.2.2.2.1, GK.moved hW.alike h.2.2.2.2.2⟩
theorem EV.same {D : va_G} {ak : Nat → ClassId} {s U : State} (hv : s.vm = U.vm) (h : EV D ak s) : EV D ak U :=
  ⟨va_K.moved (hv ▸ Vm.Alike.refl s.vm) h.1, va_AO.moved (hv ▸ Vm.Alike.refl s.vm) h.2.1, va_AO.moved (hv ▸ Vm.Alike.refl s.vm) h.2.2.1, fun w hw => va_Nw.same rfl hv (h.2.2.2.1 w hw), va_Nw.same rfl hv h.2.2.2.2.1, GK.moved (hv ▸ Vm.Alike.refl s.vm) h.2.2.2.2.2⟩
def tkN : List String := ["END", "NO_TOKEN", "A_NUMBER", "A_NAME", "OPEN", "CLOSE", "SEMICOLON", "IS_LESS", "IS_EQUAL", "PLUS_SIGN", "MINUS_SIGN", "TIMES_SIGN", "STUFF_WORD", "BEARS_WORD", "COSTS_WORD", "CELL_WORD", "INPUT_WORD", "LINE_WORD", "KEEP_WORD", "BY_WORD", "SET_WORD", "WRITE_WORD", "GO_WORD", "IF_WORD", "CALL_WORD", "MEND_WORD", "HALT_WORD", "WORN_WORD", "NOT_WORD", "AND_WORD", "OR_WORD"]
def tkSl : List Int64 := [0, 0, 0, 0, 40, 41, 59, 60, 61, 43, 45, 42, 495875090022, 422607680115, 427071599731, 1667591276, 452824429940, 1818848869, 1801807216, 25209, 7562612, 513020621925, 26479, 26982, 1667329132, 1835363940, 1751215220, 2003792494, 7237492, 6385252, 28530]
def tkLl : List Int32 := [4, 4, 4, 4, 4, 4, 4, 1, 1, 2, 2, 3, 4, 4, 4, 4, 4, 4, 4, 4, 4, 4, 4, 4, 4, 4, 4, 4, 4, 0, 0]
def tkOl : List Int32 := [-1, -1, -1, -1, -1, -1, -1, 6, 7, 8, 9, 10, -1, -1, -1, -1, -1, -1, -1, -1, -1, -1, -1, -1, -1, -1, -1, -1, -1, 4, 5]
def tkAl : List Int32 := [-1, -1, -1, -1, -1, -1, -1, -1, -1, -1, -1, -1, -1, -1, -1, -1, -1, -1, -1, -1, 0, 1, 2, 3, 4, 5, 6, -1, -1, -1, -1]
def tkS (i : Nat) : Int64 := tkSl.getD i 0
def tkL (i : Nat) : Int32 := tkLl.getD i 0
def tkO (i : Nat) : Int32 := tkOl.getD i 0
def tkA (i : Nat) : Int32 := tkAl.getD i 0
/-- the constants: their statics, their objects, their fields; they differ; the array of all, at ad 31 -/
def TKc (ad : Nat → Nat) (A : Nat → Prop) (U : State) (H : Heap) (i : Nat) : Prop := va_Z RX6 (tkN.getD i "") "LWornLines$Token;" (.ref (ad i)) A U H ∧ va_O RX6 (ad i) A U H ∧ va_OF RX6 "spelling" "J" (.long (tkS i)) (ad i) A U H ∧ va_OF RX6 "level" "I" (.int (tkL i)) (ad i) A U H ∧ va_OF RX6 "operation" "I" (.int (tkO i)) (ad i) A U H ∧ va_OF RX6 "act" "I" (.int (tkA i)) (ad i) A U H
def ST (D : va_G) (ak : Nat → ClassId) (ad : Nat → Nat) (A : Nat → Prop) (U : State) (H : Heap) : Prop := (∀ i, i < 31 → TKc ad A U H i) ∧ (∀ i j, i < 31 → j < 31 → ad i = ad j → i = j) ∧ va_Z RX7 "TOKENS" "[LWornLines$Token;" (.ref (ad 31)) A U H ∧ va_T (.object RX6) (ad 31) 31 (fun j => .ref (ad j)) A U H
theorem TKc.moved {ad : Nat → Nat} {A : Nat → Prop} {u U : State} {H : Heap} {i : Nat} (hvm : u.vm.Alike U.vm) (h : TKc ad A u H i) : TKc ad A U H i := ⟨va_Z.moved hvm h.1, va_O.moved hvm h.2.1, va_OF.moved hvm h.2.2.1, va_OF.moved hvm h.2.2.2.1, va_OF.moved hvm h.2.2.2.2.1, va_OF.moved hvm h.2.2.2.2.2⟩
theorem TKc.kept {ad : Nat → Nat} {A : Nat → Prop} {U : State} {H H1 : Heap} {i : Nat} (h : TKc ad A U H i) (hq : ∀ a : Nat, a < H.size → ¬ A a → H1[a]? = H[a]?) : TKc ad A U H1 i := ⟨h.1.kept hq, h.2.1.kept hq, h.2.2.1.kept hq, h.2.2.2.1.kept hq, h.2.2.2.2.1.kept hq, h.2.2.2.2.2.kept hq⟩
theorem TKc.narrow {ad : Nat → Nat} {A B : Nat → Prop} {U : State} {H : Heap} {i : Nat} (h : TKc ad A U H i) (hAB : ∀ q, B q → A q) : TKc ad B U H i := ⟨h.1.narrow hAB, h.2.1.narrow hAB, h.2.2.1.narrow hAB, h.2.2.2.1.narrow hAB, h.2.2.2.2.1.narrow hAB, h.2.2.2.2.2.narrow hAB⟩
section STS
variable {D : va_G} {ak : Nat → ClassId} {ad : Nat → Nat} {A B : Nat → Prop} {u U : State} {H H1 : Heap}
theorem ST.moved (hvm : u.vm.Alike U.vm) (h : ST D ak ad A u H) : ST D ak ad A U H := ⟨fun i hi => (h.1 i hi).moved hvm, h.2.1, va_Z.moved hvm h.2.2.1, h.2.2.2.moved hvm⟩
theorem ST.kept (h : ST D ak ad A U H) (hq : ∀ a : Nat, a < H.size → ¬ A a → H1[a]? = H[a]?) : ST D ak ad A U H1 := ⟨fun i hi => (h.1 i hi).kept hq, h.2.1, h.2.2.1.kept hq, h.2.2.2.kept hq⟩
theorem ST.narrow (h : ST D ak ad A U H) (hAB : ∀ q, B q → A q) : ST D ak ad B U H := ⟨fun i hi => (h.1 i hi).narrow hAB, h.2.1, h.2.2.1.narrow hAB, h.2.2.2.narrow hAB⟩
end STS
/-- a contract's start: the arguments, the cells, the tables, the constants -/
def cPre (D : va_G) (ak : Nat → ClassId) (ad : Nat → Nat) (av : List Value) (ws : va_W) (sz : Nat) : Array Value → State → Prop := va_Pc av (fun U => U.heap.size = sz ∧ va_P D vwCl ws U.heap ∧ EV D ak U ∧ va_D (fun _ => True) ws ∧ ST D ak ad (va_A ws sz) U U.heap)
abbrev cEnd (D : va_G) {S : Type} (w : S → va_W) (ws : va_W) (sz : Nat) : S → State → Prop := fun u t => va_P D vwCl (w u) t.heap ∧ va_D (va_A ws sz) (w u)
abbrev cEndR (D : va_G) {S : Type} (w : S → Nat → va_W) (ws : va_W) (sz : Nat) : S → Nat → State → Prop := fun u a t => va_P D vwCl (w u a) t.heap ∧ va_D (va_A ws sz) (w u a)
abbrev cI (D : va_G) {S : Type} (post : Int32 → S → Prop) (w : S → va_W) (ws : va_W) (sz : Nat) := va_Qi post (cEnd D w ws sz) (va_A ws sz)
abbrev cL (D : va_G) {S : Type} (post : Int64 → S → Prop) (w : S → va_W) (ws : va_W) (sz : Nat) := va_Ql post (cEnd D w ws sz) (va_A ws sz)
abbrev cV (D : va_G) {S : Type} (post : S → Prop) (w : S → va_W) (ws : va_W) (sz : Nat) := va_Qv post (cEnd D w ws sz) (va_A ws sz)
abbrev cR (D : va_G) {S : Type} (post : S → Prop) (w : S → Nat → va_W) (ws : va_W) (sz : Nat) := va_Qr post (cEndR D w ws sz) (va_A ws sz)
theorem cPre.blind {D : va_G} {ak : Nat → ClassId} {ad : Nat → Nat} {av : List Value} {ws : va_W} {sz : Nat} : FrameBlind (cPre D ak ad av ws sz) := by
  intro a U g mk q
  obtain ⟨q0, q1, q2, q3, q4, q5⟩ := q
  exact ⟨q0, q1, q2, EV.same (s := U) (U := U.calling g mk a) rfl q3, q4, ST.moved (u := U) (U := U.calling g mk a) (Vm.Alike.refl U.vm) q5⟩
section KC
variable {D : va_G} {ak : Nat → ClassId} {ad : Nat → Nat} {s : State} {H : Heap} {A : Nat → Prop} {ws : va_W} {locs : List Loc}
/-- the callee's start out of the caller's world -/
theorem kc_pre {wc : va_W} {As : List Value} (hE : EV D ak s) (hT : ST D ak ad A s s.heap) (hP : va_P D vwCl ws H) (hD : va_D A ws) (hS : va_S A s.heap H locs) (hA : ∀ q, s.heap.size ≤ q → A q) (isC : List Nat) (hn : va_nd isC = true) (hC : isC.map (fun i => ws[i]?) = wc.map some) (hC2 : isC.filterMap (fun i => ws[i]?) = wc) : PreS s H (cPre D ak ad As wc H.size) As := by
  refine ⟨cPre.blind, fun U hU hW => ⟨rfl, by rw [hU], by rw [hU]; exact hP.sub isC hC2, hE.warm hW, (hD.sub isC hn hC).weaken (fun _ _ _ _ => trivial), ?_⟩⟩
  rw [hU]
  exact ((hT.kept hS.2.1).narrow (va_free hD hS hA isC hC)).moved hW.alike
theorem kc_preV {wc : va_W} {As : List Value} {C : String} {b : Nat} (hE : EV D ak s) (hT : ST D ak ad A s s.heap) (hP : va_P D vwCl ws H) (hD : va_D A ws) (hS : va_S A s.heap H locs) (hA : ∀ q, s.heap.size ≤ q → A q) (isC : List Nat) (hn : va_nd isC = true) (hC : isC.map (fun i => ws[i]?) = wc.map some) (hC2 : isC.filterMap (fun i => ws[i]?) = wc) (q0 ci : Nat) {fs : List Value} {q : vw_C} (hc : vwCl[ci]? = some q) (hq : q.1 = C) (he : ws[q0]? = some (b, .inr (ci, fs))) : PreV s H C b (cPre D ak ad (.ref b :: As) wc H.size) As := by
  subst hq
  have h := kc_pre (As := .ref b :: As) hE hT hP hD hS hA isC hn hC hC2
  exact ⟨h.1, va_recv hE.1 hP hc he, h.2⟩
end KC
section KD
variable {p : Program} {l : Launch} {e : Env} {R : Room} {s : State} {m : MethodId} {args : Array Value} {below : List Frame} {meth : Method} {c : Code} {H : Heap} {locs : List Loc} {cells slots : Nat} {Q : State → Prop}
variable {pc : Nat} {ls : Array Slot} {rest st0 : List Value} {a : Array Value} {A : Nat → Prop} {mc ms : Nat} {D : va_G} {ws wc wr : va_W}
theorem kc_i {S : Type} {post : Int32 → S → Prop} {w : S → va_W} (hP : va_P D vwCl ws H) (hD : va_D A ws) (hS : va_S A s.heap H locs) (hA : ∀ q, s.heap.size ≤ q → A q) (isC isR : List Nat) (hC : isC.map (fun i => ws[i]?) = wc.map some) (hR : isR.map (fun i => ws[i]?) = wr.map some) (hn : va_nd isR = true) (hdis : ∀ i ∈ isR, i ∉ isC)
    (hr : va_Run p l e R s m args below meth c H locs cells slots mc ms (F0 m pc ls st0) rest (cI D post w wc H.size a) (va_A wc H.size))
    (kk : ∀ (r : Int32) (u : S) (H1 : Heap) (locs1 : List Loc), post r u → va_P D vwCl (wr ++ w u) H1 → va_D A (wr ++ w u) → va_S A s.heap H1 locs1 → W p l e R s m args below meth c H1 locs1 (cells + mc) (slots + ms) Q (F0 m (pc + 3) ls (.int r :: rest))) : W p l e R s m args below meth c H locs cells slots Q (F0 m pc ls st0) := by
  have hF := va_free hD hS hA isC hC
  refine va_calli hr hS (fun q _ h => hF q h) hF (fun r u t H1 locs1 ht hvm hw hB hz hk hS1 => ?_)
  obtain ⟨hP1, hD1⟩ := hB
  rw [ht] at hP1
  obtain ⟨h1, h2⟩ := va_join hP hD isC isR hC hR hn hdis hk hF hP1 hD1
  exact kk r u H1 locs1 hw h1 h2 hS1
theorem kc_l {S : Type} {post : Int64 → S → Prop} {w : S → va_W} (hP : va_P D vwCl ws H) (hD : va_D A ws) (hS : va_S A s.heap H locs) (hA : ∀ q, s.heap.size ≤ q → A q) (isC isR : List Nat) (hC : isC.map (fun i => ws[i]?) = wc.map some) (hR : isR.map (fun i => ws[i]?) = wr.map some) (hn : va_nd isR = true) (hdis : ∀ i ∈ isR, i ∉ isC)
    (hr : va_Run p l e R s m args below meth c H locs cells slots mc ms (F0 m pc ls st0) rest (cL D post w wc H.size a) (va_A wc H.size))
    (kk : ∀ (r : Int64) (u : S) (H1 : Heap) (locs1 : List Loc), post r u → va_P D vwCl (wr ++ w u) H1 → va_D A (wr ++ w u) → va_S A s.heap H1 locs1 → W p l e R s m args below meth c H1 locs1 (cells + mc) (slots + ms) Q (F0 m (pc + 3) ls (.long r :: rest))) : W p l e R s m args below meth c H locs cells slots Q (F0 m pc ls st0) := by
  have hF := va_free hD hS hA isC hC
  refine va_calll hr hS (fun q _ h => hF q h) hF (fun r u t H1 locs1 ht hvm hw hB hz hk hS1 => ?_)
  obtain ⟨hP1, hD1⟩ := hB
  rw [ht] at hP1
  obtain ⟨h1, h2⟩ := va_join hP hD isC isR hC hR hn hdis hk hF hP1 hD1
  exact kk r u H1 locs1 hw h1 h2 hS1
theorem kc_v {S : Type} {post : S → Prop} {w : S → va_W} (hP : va_P D vwCl ws H) (hD : va_D A ws) (hS : va_S A s.heap H locs) (hA : ∀ q, s.heap.size ≤ q → A q) (isC isR : List Nat) (hC : isC.map (fun i => ws[i]?) = wc.map some) (hR : isR.map (fun i => ws[i]?) = wr.map some) (hn : va_nd isR = true) (hdis : ∀ i ∈ isR, i ∉ isC)
    (hr : va_Run p l e R s m args below meth c H locs cells slots mc ms (F0 m pc ls st0) rest (cV D post w wc H.size a) (va_A wc H.size))
    (kk : ∀ (u : S) (H1 : Heap) (locs1 : List Loc), post u → va_P D vwCl (wr ++ w u) H1 → va_D A (wr ++ w u) → va_S A s.heap H1 locs1 → W p l e R s m args below meth c H1 locs1 (cells + mc) (slots + ms) Q (F0 m (pc + 3) ls rest)) : W p l e R s m args below meth c H locs cells slots Q (F0 m pc ls st0) := by
  have hF := va_free hD hS hA isC hC
  refine va_callv hr hS (fun q _ h => hF q h) hF (fun u t H1 locs1 ht hvm hw hB hz hk hS1 => ?_)
  obtain ⟨hP1, hD1⟩ := hB
  rw [ht] at hP1
  obtain ⟨h1, h2⟩ := va_join hP hD isC isR hC hR hn hdis hk hF hP1 hD1
  exact kk u H1 locs1 hw h1 h2 hS1
theorem kc_r {S : Type} {post : S → Prop} {w : S → Nat → va_W} (hP : va_P D vwCl ws H) (hD : va_D A ws) (hS : va_S A s.heap H locs) (hA : ∀ q, s.heap.size ≤ q → A q) (isC isR : List Nat) (hC : isC.map (fun i => ws[i]?) = wc.map some) (hR : isR.map (fun i => ws[i]?) = wr.map some) (hn : va_nd isR = true) (hdis : ∀ i ∈ isR, i ∉ isC)
    (hr : va_Run p l e R s m args below meth c H locs cells slots mc ms (F0 m pc ls st0) rest (cR D post w wc H.size a) (va_A wc H.size))
    (kk : ∀ (u : S) (ra : Nat) (H1 : Heap) (locs1 : List Loc), post u → va_P D vwCl (wr ++ w u ra) H1 → va_D A (wr ++ w u ra) → va_S A s.heap H1 locs1 → W p l e R s m args below meth c H1 locs1 (cells + mc) (slots + ms) Q (F0 m (pc + 3) ls (.ref ra :: rest))) : W p l e R s m args below meth c H locs cells slots Q (F0 m pc ls st0) := by
  have hF := va_free hD hS hA isC hC
  refine va_callr hr hS (fun q _ h => hF q h) hF (fun u ra t H1 locs1 ht hvm hw hB hz hk hS1 => ?_)
  obtain ⟨hP1, hD1⟩ := hB
  rw [ht] at hP1
  obtain ⟨h1, h2⟩ := va_join hP hD isC isR hC hR hn hdis hk hF hP1 hD1
  exact kk u ra H1 locs1 hw h1 h2 hS1
/-- a new array of a kind that the tables know -/
theorem kn_a {cc : ByteArray} {ak : Nat → ClassId} (hexec : p.tables.exec = Jvm.exec) (hb : c.code = cc) {atype : ArrayType} (harr : (Cond.arrayClass (newarray.typeOf atype)).before args s = true) (hE : EV D ak s) (k : Nat) {ty : FieldType} (hk : (AT ak)[k]? = some (ak k, ty)) (hty : newarray.typeOf atype = ty) (hnm : ∀ cA : ClassId, va_RA s cA ty → s.vm.findClass ("[" ++ ty.toString) = some cA) (hP : va_P D vwCl ws H) (hD : va_D A ws) (hS : va_S A s.heap H locs) (hA : ∀ q, s.heap.size ≤ q → A q)
    {n : Int32} {N' : Nat} {a0 : vp_A} (ha : ∀ cA : ClassId, vp_cell cA a0 = arrV cA N' (fun _ => defaultValue ty)) (hn : ¬ n < 0) (hN : n.toNatClampNeg = N') (hbytes : N' * componentBytes ty ≤ 536870912) (hcells : cells + 1 ≤ R.cells) (hslots : slots + N' ≤ R.slots) (hdg : decode cc pc = .ok (.newarray atype, 2))
    (kk : ∀ (q : Nat) (H1 : Heap), va_P D vwCl (ws ++ [(q, .inl (ak k, a0))]) H1 → va_D A (ws ++ [(q, .inl (ak k, a0))]) → va_S A s.heap H1 locs →
      W p l e R s m args below meth c H1 locs (cells + 1) (slots + N') Q (F0 m (pc + 2) ls (.ref q :: rest))) : W p l e R s m args below meth c H locs cells slots Q (F0 m pc ls (.int n :: rest)) := by
  refine va_newa hexec hb harr hty hE.1 hP hD hS hA ha hn hN hbytes hcells hslots hdg (fun q cA H1 hK1 hP1 hD1 hS1 => ?_)
  have e1 := hnm _ (hK1.2 (AT ak).length (cA, ty) (by rw [List.getElem?_append_right (Nat.le_refl _), Nat.sub_self]; rfl)).2
  have e2 := hnm _ (hE.1.2 k _ hk).2
  have e3 : cA = ak k := Option.some.inj (e1.symm.trans e2)
  subst e3
  exact kk q H1 hP1 hD1 hS1
end KD
section KE
variable {p : Program} {l : Launch} {e : Env} {R : Room} {s : State} {m : MethodId} {args : Array Value} {below : List Frame} {meth : Method} {c : Code} {H : Heap} {locs : List Loc} {cells slots : Nat} {Q : State → Prop}
variable {pc : Nat} {ls : Array Slot} {rest : List Value} {A : Nat → Prop} {D : va_G} {ws : va_W}
theorem kn_q {cc : ByteArray} {ak : Nat → ClassId} (hexec : p.tables.exec = Jvm.exec) (hb : c.code = cc) {own C : String} {index : Nat} (hown : s.vm.findClass own = some m.cls) (hclink : (Cond.classLink own index C).before args s = true) (hover : va_AO C s) (hE : EV D ak s) (k : Nat) (hk : (AT ak)[k]? = some (ak k, .object C)) (hP : va_P D vwCl ws H) (hD : va_D A ws) (hS : va_S A s.heap H locs) (hA : ∀ q, s.heap.size ≤ q → A q)
    {n : Int32} {N' : Nat} (hn : ¬ n < 0) (hN : n.toNatClampNeg = N') (hbytes : N' * 4 ≤ 536870912) (hcells : cells + 1 ≤ R.cells) (hslots : slots + N' ≤ R.slots) (hdg : decode cc pc = .ok (.anewarray index, 3))
    (kk : ∀ (q : Nat) (H1 : Heap), va_P D vwCl (ws ++ [(q, .inl (ak k, N', .inr (.inr (.inr (.inr (fun _ => none))))))]) H1 → va_D A (ws ++ [(q, .inl (ak k, N', .inr (.inr (.inr (.inr (fun _ => none))))))]) → va_S A s.heap H1 locs →
      W p l e R s m args below meth c H1 locs (cells + 1) (slots + N') Q (F0 m (pc + 3) ls (.ref q :: rest))) : W p l e R s m args below meth c H locs cells slots Q (F0 m pc ls (.int n :: rest)) := by
  refine va_newq hexec hb hown hclink hover hE.1 hP hD hS hA hn hN hbytes hcells hslots hdg (fun q cA H1 hK1 hP1 hD1 hS1 => ?_)
  obtain ⟨-, -, -, -, -, e1⟩ := (hK1.2 (AT ak).length (cA, .object C) (by rw [List.getElem?_append_right (Nat.le_refl _), Nat.sub_self]; rfl)).2
  obtain ⟨-, -, -, -, -, e2⟩ := (hE.1.2 k _ hk).2
  have e3 : cA = ak k := Option.some.inj (e1.symm.trans e2)
  subst e3
  exact kk q H1 hP1 hD1 hS1
end KE
theorem tsw_out (x : Int32) (lo hi : Int) (h : ∀ j : Int, lo ≤ j → j ≤ hi → ¬ x.toInt = j) : x.toInt < lo ∨ hi < x.toInt := by
  by_cases h1 : x.toInt < lo
  · exact Or.inl h1
  · by_cases h2 : hi < x.toInt
    · exact Or.inr h2
    · exact absurd rfl (h x.toInt (by omega) (by omega))
theorem tk_any {D : va_G} {ak : Nat → ClassId} {ad : Nat → Nat} {A : Nat → Prop} {s : State} {H : Heap} {locs : List Loc} (hT : ST D ak ad A s s.heap) (hS : va_S A s.heap H locs) (i : Nat) (hi : i < 31) : va_Any RX6 s H (ad i) := by
  obtain ⟨cell, h1, h2, h3, -⟩ := (hT.1 i hi).2.1.kept hS.2.1
  obtain ⟨kC, hkC, -⟩ := Vm.findClass_spec h3
  refine ⟨cell, h1, h2, ⟨kC, hkC⟩, fun comp h => ?_⟩
  have e : cell.cls = comp := Option.some.inj (h3.symm.trans h)
  rw [e]
  show s.vm.assignableAux (255 + 1) comp comp = true
  rw [Vm.assignableAux]
  simp only [beq_self_eq_true, Bool.true_or]
theorem tok_inj {D : va_G} {ak : Nat → ClassId} {ad : Nat → Nat} {A : Nat → Prop} {s : State} {H : Heap} {i j : Nat} (hT : ST D ak ad A s H) (hi : i < 31) (hj : j < 31) (e : some (ad i) = some (ad j)) : i = j := hT.2.1 i j hi hj (Option.some.inj e)
def tokA (ad : Nat → Nat) (f : Nat → Nat) : Nat → Option Nat := fun i => if f i < 31 then some (ad (f i)) else none
def updN (f : Nat → Nat) (k v : Nat) : Nat → Nat := fun i => if i = k then v else f i
theorem tokA_rf {ad f : Nat → Nat} {i : Nat} (h : f i < 31) : va_rf (tokA ad f i) = .ref (ad (f i)) := by unfold tokA; rw [if_pos h]; rfl
theorem tokA_up {ad f : Nat → Nat} {i e : Nat} (h : e < 31) : va_up (tokA ad f) i (some (ad e)) = tokA ad (updN f i e) := by
  funext j
  by_cases hj : j = i
  · subst hj
    simp [va_up, tokA, updN, h]
  · simp [va_up, tokA, updN, hj]
theorem gwX80 : wsX80.all goodWord = true := by decide +kernel
