-- new int[n][m]: the light library has no law of it; one step of the machine, row after row
def gd_in (cI : ClassId) (M : Nat) : Cell := { cls := cI, slots := Array.replicate M (.int 0), vm := .none }
def gd_out (cG : ClassId) (N a : Nat) : Nat → Cell
  | 0 => { cls := cG, slots := Array.replicate N .null, vm := .none }
  | i + 1 => (gd_out cG N a i).setSlot i (.ref (a + 1 + i))
def gd_fill (s : State) (cG cI : ClassId) (N M : Nat) : Nat → State
  | 0 => s.pushCell (gd_out cG N s.heap.size 0)
  | i + 1 => ((gd_fill s cG cI N M i).pushCell (gd_in cI M)).setCell s.heap.size (gd_out cG N s.heap.size (i + 1))
theorem gd_out_f (cG : ClassId) (N a : Nat) (i : Nat) : (gd_out cG N a i).cls = cG ∧ (gd_out cG N a i).vm = .none ∧ (gd_out cG N a i).slots.size = N := by
  induction i with
  | zero => exact ⟨rfl, rfl, by simp [gd_out]⟩
  | succ i ih => exact ⟨by simp [gd_out, Cell.setSlot, ih.1], by simp [gd_out, Cell.setSlot, ih.2.1], by simp [gd_out, Cell.setSlot, ih.2.2]⟩
theorem gd_fill_f (s : State) (cG cI : ClassId) (N M i : Nat) : (gd_fill s cG cI N M i).heap.size = s.heap.size + 1 + i ∧ (gd_fill s cG cI N M i).heap[s.heap.size]? = some (gd_out cG N s.heap.size i) ∧ (gd_fill s cG cI N M i).vm = s.vm ∧ (gd_fill s cG cI N M i).slotsUsed = s.slotsUsed + N + i * M := by
  induction i with
  | zero => exact ⟨by simp [gd_fill], by simp [gd_fill], rfl, by simp [gd_fill, gd_out]⟩
  | succ i ih =>
    obtain ⟨h1, h2, h3, h4⟩ := ih
    have hlt : s.heap.size < (gd_fill s cG cI N M i).heap.size := by omega
    have h5 : ((gd_fill s cG cI N M i).pushCell (gd_in cI M)).heap[s.heap.size]? = some (gd_out cG N s.heap.size i) := by rw [State.heap_pushCell_of_lt (h := hlt)]; exact h2
    refine ⟨?_, State.heap_setCell_self h5, by simp [gd_fill, h3], ?_⟩
    · simp [gd_fill, State.setCell, h1]; omega
    · simp [gd_fill, h4, gd_in, Nat.succ_mul]; omega
theorem gd_fill_top (s : State) (f : JFrame) (cG cI : ClassId) (N M i : Nat) : gd_fill (s.setTop f) cG cI N M i = (gd_fill s cG cI N M i).setTop f := by
  induction i with
  | zero => rfl
  | succ i ih => simp only [gd_fill, ih, State.heap_setTop, State.pushCell_setTop, State.setCell_setTop]
theorem gd_fill_old (s : State) (cG cI : ClassId) (N M : Nat) {x : Addr} (hx : x < s.heap.size) (i : Nat) : (gd_fill s cG cI N M i).heap[x]? = s.heap[x]? := by
  induction i with
  | zero => exact State.heap_pushCell_of_lt _ _ hx
  | succ i ih =>
    have h1 := (gd_fill_f s cG cI N M i).1
    have hlt : x < (gd_fill s cG cI N M i).heap.size := Nat.lt_of_lt_of_le hx (by rw [h1]; omega)
    show (((gd_fill s cG cI N M i).pushCell (gd_in cI M)).setCell s.heap.size _).heap[x]? = _
    rw [State.heap_setCell_other (Nat.ne_of_gt hx), State.heap_pushCell_of_lt (h := hlt)]
    exact ih
theorem gd_fill_row (s : State) (cG cI : ClassId) (N M : Nat) (i j : Nat) (h : j < i) : (gd_fill s cG cI N M i).heap[s.heap.size + 1 + j]? = some (gd_in cI M) := by
  induction i with
  | zero => exact absurd h (Nat.not_lt_zero _)
  | succ i ih =>
    have h1 := (gd_fill_f s cG cI N M i).1
    show (((gd_fill s cG cI N M i).pushCell (gd_in cI M)).setCell s.heap.size _).heap[s.heap.size + 1 + j]? = _
    rw [State.heap_setCell_other (show s.heap.size ≠ s.heap.size + 1 + j by omega)]
    by_cases hj : j < i
    · have hlt : s.heap.size + 1 + j < (gd_fill s cG cI N M i).heap.size := by omega
      rw [State.heap_pushCell_of_lt (h := hlt)]
      exact ih hj
    · have e : j = i := by omega
      subst e
      rw [← h1]
      exact State.heap_pushCell_size _ _
theorem gd_out_at (cG : ClassId) (N a i j : Nat) (h : j < N) : (gd_out cG N a i).slots[j]? = some (if j < i then .ref (a + 1 + j) else .null) := by
  induction i with
  | zero => simp [gd_out, h]
  | succ i ih =>
    have hs := (gd_out_f cG N a i).2.2
    show ((gd_out cG N a i).setSlot i (.ref (a + 1 + i))).slots[j]? = _
    simp only [Cell.setSlot, Array.getElem?_setIfInBounds]
    by_cases e : i = j
    · subst e; simp [hs, h]
    · rw [if_neg e, ih]
      by_cases hj : j < i
      · rw [if_pos hj, if_pos (by omega)]
      · rw [if_neg hj, if_neg (by omega)]
theorem gd_over {args : Array Value} {s : State} (h : (Cond.arrayOver (.array .int)).before args s = true) : ∃ cI cG k, s.vm.findClass (FieldType.array .int).toString = some cI ∧ s.vm.classes[cG]? = some k ∧ k.kind = .array cI (.array .int) ∧ s.vm.findClass ("[" ++ (FieldType.array .int).toString) = some cG := by
  simp only [Cond.before, Cond.holds, Cond.value, beq_iff_eq] at h
  cases hc : s.vm.findClass (FieldType.array .int).toString with
  | none => simp [hc] at h
  | some cI =>
    simp only [hc, Option.bind_some, Option.bind_eq_some_iff, Option.map_eq_some_iff] at h
    obtain ⟨cG, hi, k, hk, hb⟩ := h
    obtain ⟨hlt, hp, -⟩ := Array.findIdx?_eq_some_iff_getElem.mp hi
    have hkk : s.vm.classes[cG] = k := (Array.getElem?_eq_some_iff.mp hk).2
    rw [hkk] at hp
    cases hkind : k.kind with
    | array component ty =>
      rw [hkind] at hb hp
      simp at hb hp
      exact ⟨cI, cG, k, rfl, hk, by rw [hkind, hp, hb.1], hb.2⟩
    | _ => rw [hkind] at hb; simp at hb
section GDW
variable {E : CtlPost} {e : Env} {d : Bool} {acts : List Action} {s : State}
theorem gd_newA {c comp : ClassId} {k : Class} {ty : FieldType} {len : Nat} {init : Value} (hk : s.vm.classes[c]? = some k) (hkind : k.kind = .array comp ty)
    (hlimit : ¬ len > e.platform.arrayLengthLimit) (hheap : ¬ len * componentBytes ty > e.platform.maxHeapBytes) (hfit : fits ty init = true) (hdef : init.isDefault = true) {Q : Addr → Pre}
    (h1 : s.heap.size < e.platform.maxCells) (h2 : s.slotsUsed + len ≤ e.platform.maxSlots)
    (hq : Q s.heap.size d acts (s.pushCell { cls := c, slots := Array.replicate len init, vm := .none })) : wp (Jvm.newArray c len init) Q E e d acts s := by
  have hfits : ∀ i v, (Array.replicate len init)[i]? = some v → s.fitsSlot c .none i v = true := by
    intro i v hv
    simp only [Array.getElem?_replicate] at hv
    split at hv
    · cases hv; simp [State.fitsSlot, State.slotType?, hk, hkind, hfit]
    · cases hv
  have hda : allocActs (Array.replicate len init) s.heap.size acts = acts := by
    have hall : ((Array.replicate len init).all (·.isDefault)) = true := by rw [Array.all_replicate]; split <;> simp [hdef]
    unfold allocActs
    rw [if_pos hall]
  simp only [Jvm.newArray, Jvm.arrayFits, wp_bind', W.ask, W.ite, hlimit, if_false, wp_pure', W.theClass, hk, hkind, hheap, W.alloc, W.stop, Option.some.injEq, exists_eq_left', Array.size_replicate, hda]
  rw [if_neg (by omega)]
  exact ⟨h1, h2, hfits, hq⟩
theorem gd_make1 {cI cc : ClassId} {kI : Class} {m : Int32} (hkI : s.vm.classes[cI]? = some kI) (hkind : kI.kind = .array cc .int) (hm : ¬ m < 0)
    (hl : ¬ m.toNatClampNeg > e.platform.arrayLengthLimit) (hh : ¬ m.toNatClampNeg * componentBytes .int > e.platform.maxHeapBytes)
    (h1 : s.heap.size < e.platform.maxCells) (h2 : s.slotsUsed + m.toNatClampNeg ≤ e.platform.maxSlots) {Q : Addr → Pre} (hq : Q s.heap.size d acts (s.pushCell (gd_in cI m.toNatClampNeg))) : wp (Op.multianewarray.make cI [m]) Q E e d acts s := by
  rw [Op.multianewarray.make]
  simp only [wp_bind', W.ite, hm, if_false, wp_pure', W.theClass, hkI, hkind, Option.some.injEq, exists_eq_left']
  exact gd_newA hkI hkind hl hh rfl rfl h1 h2 hq
theorem gd_make2 {cG cI cc : ClassId} {kG kI : Class} {n m : Int32} (hkG : s.vm.classes[cG]? = some kG) (hkindG : kG.kind = .array cI (.array .int)) (hkI : s.vm.classes[cI]? = some kI) (hkindI : kI.kind = .array cc .int) (hn : ¬ n < 0) (hm : ¬ m < 0)
    (hl1 : ¬ n.toNatClampNeg > e.platform.arrayLengthLimit) (hh1 : ¬ n.toNatClampNeg * componentBytes (.array .int) > e.platform.maxHeapBytes) (hl2 : ¬ m.toNatClampNeg > e.platform.arrayLengthLimit) (hh2 : ¬ m.toNatClampNeg * componentBytes .int > e.platform.maxHeapBytes)
    (hc : s.heap.size + 1 + n.toNatClampNeg ≤ e.platform.maxCells) (hs : s.slotsUsed + n.toNatClampNeg + n.toNatClampNeg * m.toNatClampNeg ≤ e.platform.maxSlots)
    {Q : Addr → Pre} (hq : ∀ d' acts', Q s.heap.size d' acts' (gd_fill s cG cI n.toNatClampNeg m.toNatClampNeg n.toNatClampNeg)) : wp (Op.multianewarray.make cG [n, m]) Q E e d acts s := by
  have hfind : ([m].find? (· < 0)) = none := by simp [hm]
  rw [Op.multianewarray.make]
  simp only [wp_bind', W.ite, hn, if_false, wp_pure', W.theClass, hkG, hkindG, Option.some.injEq, exists_eq_left']
  refine gd_newA hkG hkindG hl1 hh1 rfl rfl (by omega) (by have := Nat.zero_le (n.toNatClampNeg * m.toNatClampNeg); omega) ?_
  simp only [hfind]
  rw [ite_self, wp_bind', Std.Legacy.Range.forIn_eq_forIn_range']
  have hsz : ([:n.toNatClampNeg] : Std.Legacy.Range).size = n.toNatClampNeg := by simp [Std.Legacy.Range.size]
  rw [hsz]
  show wp (forIn (List.range' 0 n.toNatClampNeg 1) PUnit.unit _) _ E e d acts _
  refine wp_forIn_inv (fun rest t => ∃ i, i ≤ n.toNatClampNeg ∧ rest = List.range' i (n.toNatClampNeg - i) ∧ t = gd_fill s cG cI n.toNatClampNeg m.toNatClampNeg i) _ _ ⟨0, Nat.zero_le _, rfl, rfl⟩ ?_ ?_
  · rintro x rest t d' acts' Q' ⟨i, hi, hl, rfl⟩ hnext
    have hlt : i < n.toNatClampNeg := by
      rcases Nat.lt_or_ge i n.toNatClampNeg with h | h
      · exact h
      · rw [show n.toNatClampNeg - i = 0 from by omega] at hl; simp at hl
    obtain ⟨rfl, hrest⟩ : x = i ∧ rest = List.range' (i + 1) (n.toNatClampNeg - (i + 1)) := by
      rw [show n.toNatClampNeg - i = (n.toNatClampNeg - (i + 1)) + 1 from by omega, List.range'_succ] at hl
      exact ⟨(List.cons.inj hl).1, (List.cons.inj hl).2⟩
    obtain ⟨f1, f2, f3, f4⟩ := gd_fill_f s cG cI n.toNatClampNeg m.toNatClampNeg x
    obtain ⟨o1, o2, o3⟩ := gd_out_f cG n.toNatClampNeg s.heap.size x
    have hmul : x * m.toNatClampNeg + m.toNatClampNeg ≤ n.toNatClampNeg * m.toNatClampNeg := by
      have := Nat.mul_le_mul_right m.toNatClampNeg (show x + 1 ≤ n.toNatClampNeg from hlt)
      rw [Nat.succ_mul] at this
      exact this
    simp only [wp_bind']
    refine gd_make1 (by rw [f3]; exact hkI) hkindI hm hl2 hh2 (by rw [f1]; omega) (by rw [f4]; omega) ?_
    have hlt0 : s.heap.size < (gd_fill s cG cI n.toNatClampNeg m.toNatClampNeg x).heap.size := by rw [f1]; omega
    simp only [wp_bind', W.writeLoc, wp_pure']
    refine ⟨gd_out cG n.toNatClampNeg s.heap.size x, by rw [State.heap_pushCell_of_lt (h := hlt0)]; exact f2, by rw [o2]; simp, by rw [o3]; exact hlt, ?_, hnext _ _ _ ⟨x + 1, hlt, hrest, ?_⟩⟩
    · rw [o1, o2]
      simp [State.fitsSlot, State.slotType?, f3, hkG, hkindG, fits]
    · rw [f1]; rfl
  · rintro t d' acts' ⟨i, hi, hl, rfl⟩
    have hiN : i = n.toNatClampNeg := by
      rcases Nat.lt_or_ge i n.toNatClampNeg with h | h
      · rw [show n.toNatClampNeg - i = (n.toNatClampNeg - (i + 1)) + 1 from by omega, List.range'_succ] at hl; cases hl
      · omega
    subst hiN
    simp only [wp_pure']
    exact hq _ _
end GDW
section GDS
variable {p : Program} {l : Launch} {e : Env} {R : Room} {s : State} {m : MethodId} {args : Array Value} {below : List Frame} {meth : Method} {c : Code} {T : State} {locs : List Loc} {cells slots : Nat}
theorem gd_stand (X : Stand p l e R s m args below meth c T locs cells slots) (cG cI : ClassId) (N M : Nat) (i : Nat) : Stand p l e R s m args below meth c (gd_fill T cG cI N M i) (locs ++ (List.range i).map fun j => ⟨T.heap.size, j⟩) (cells + 1 + i) (slots + N + i * M) := by
  induction i with
  | zero =>
    have h := X.pushed (gd_out cG N T.heap.size 0)
    rw [(gd_out_f cG N T.heap.size 0).2.2] at h
    simpa [gd_fill] using h
  | succ i ih =>
    obtain ⟨f1, f2, f3, f4⟩ := gd_fill_f T cG cI N M i
    have hlt0 : T.heap.size < (gd_fill T cG cI N M i).heap.size := by rw [f1]; omega
    have hcell : ((gd_fill T cG cI N M i).pushCell (gd_in cI M)).heap[T.heap.size]? = some (gd_out cG N T.heap.size i) := by rw [State.heap_pushCell_of_lt (h := hlt0)]; exact f2
    have h := (ih.pushed (gd_in cI M)).stored hcell i (.ref (T.heap.size + 1 + i))
    have e1 : (gd_in cI M).slots.size = M := by simp [gd_in]
    rw [e1] at h
    have e2 : (locs ++ (List.range (i + 1)).map fun j => (⟨T.heap.size, j⟩ : Loc)) = (locs ++ (List.range i).map fun j => (⟨T.heap.size, j⟩ : Loc)) ++ [⟨T.heap.size, i⟩] := by simp [List.range_succ, List.append_assoc]
    have e3 : slots + N + (i + 1) * M = slots + N + i * M + M := by rw [Nat.succ_mul]; omega
    rw [e2, e3]
    exact h
theorem gd_step (X : Stand p l e R s m args below meth c T locs cells slots) (hexec : p.tables.exec = Jvm.exec) {own : String} {index : Nat} (hown : s.vm.findClass own = some m.cls) (hclink : (Cond.classLink own index ("[" ++ (FieldType.array .int).toString)).before args s = true)
    {cI cG : ClassId} {kG : Class} (hI : s.vm.findClass (FieldType.array .int).toString = some cI) (hkG : s.vm.classes[cG]? = some kG) (hkindG : kG.kind = .array cI (.array .int)) (hG : s.vm.findClass ("[" ++ (FieldType.array .int).toString) = some cG) (harr : (Cond.arrayClass .int).before args s = true)
    {g : JFrame} (hg : g.method = m) (hdg : decode c.code g.pc = .ok (.multianewarray index 2, 4)) {n k : Int32} {rest : List Value} (hstack : g.stack = .int k :: .int n :: rest)
    (hn : ¬ n < 0) (hk : ¬ k < 0) (hb1 : n.toNatClampNeg * 4 ≤ 536870912) (hb2 : k.toNatClampNeg * 4 ≤ 536870912) (hcells : cells + (1 + n.toNatClampNeg) ≤ R.cells) (hslots : slots + (n.toNatClampNeg + n.toNatClampNeg * k.toNatClampNeg) ≤ R.slots) :
    ∃ (vm₁ : Vm),
      Stand p l e R s m args below meth c (gd_fill (T.setVm vm₁) cG cI n.toNatClampNeg k.toNatClampNeg n.toNatClampNeg) locs (cells + 1 + n.toNatClampNeg) (slots + n.toNatClampNeg + n.toNatClampNeg * k.toNatClampNeg) ∧
      ∀ target, Steps p.tables e below ((gd_fill (T.setVm vm₁) cG cI n.toNatClampNeg k.toNatClampNeg n.toNatClampNeg).setTop { g with pc := g.pc + 4, stack := .ref T.heap.size :: rest }) target → Steps p.tables e below (T.setTop g) target := by
  subst hg
  have hpl : e.platform.magicAccessors = ({} : Platform).magicAccessors := by rw [X.admits.platform]
  obtain ⟨cI', kI, cc, hI', hkI, hkindI⟩ := Cond.arrayClass_spec harr
  have eI : cI' = cI := Option.some.inj (hI'.symm.trans hI)
  subst eI
  obtain ⟨c0, hfc0, hcl⟩ := Cond.classLink_spec hown hclink e.platform hpl
  cases hG.symm.trans hfc0
  obtain ⟨hg₁, hwarm₁, hready₁⟩ := State.classEntry (e := e) X.warmed hcl
  generalize T.vm.noted g.method.cls index (.cls cG) = vm₁ at hg₁ hwarm₁ hready₁
  have hal : s.vm.Alike vm₁ := hwarm₁.alike
  obtain ⟨kG₁, hkG₁, heG⟩ := hal.2.2 _ _ hkG
  obtain ⟨kI₁, hkI₁, heI⟩ := hal.2.2 _ _ hkI
  have hkindG₁ : kG₁.kind = .array cI' (.array .int) := by rw [heG]; exact hkindG
  have hkindI₁ : kI₁.kind = .array cc .int := by rw [heI]; exact hkindI
  have X₁ := X.noted hwarm₁
  obtain ⟨hr1, hr2⟩ := X.roomAbove hcells hslots
  have XF := gd_stand X₁ cG cI' n.toNatClampNeg k.toNatClampNeg n.toNatClampNeg
  refine ⟨vm₁, XF.dropFresh (fun x hx => ?_), fun target hrest => ?_⟩
  · obtain ⟨j, -, rfl⟩ := List.mem_map.mp hx
    exact X.heapGrown
  have hl1 : ¬ n.toNatClampNeg > e.platform.arrayLengthLimit := by rw [Launch.admits_arrayLengthLimit X.admits]; omega
  have hh1 : ¬ n.toNatClampNeg * componentBytes (.array .int) > e.platform.maxHeapBytes := by
    rw [Launch.admits_maxHeapBytes X.admits]; show ¬ n.toNatClampNeg * 4 > 536870912; omega
  have hl2 : ¬ k.toNatClampNeg > e.platform.arrayLengthLimit := by rw [Launch.admits_arrayLengthLimit X.admits]; omega
  have hh2 : ¬ k.toNatClampNeg * componentBytes .int > e.platform.maxHeapBytes := by
    rw [Launch.admits_maxHeapBytes X.admits]; show ¬ k.toNatClampNeg * 4 > 536870912; omega
  jvm_step X.here [hexec, hdg]
  simp only [Op.multianewarray.sem, wp_bind', W.resolveClassAt_links (State.method?_setTop g X.here.top) hg₁]
  rw [W.popN, if_neg (by decide)]
  refine ⟨g, State.topJava?_setTop' (s := T.setVm vm₁) g X.here.top, [.int n, .int k], rest, rfl, hstack, ?_⟩
  simp only [List.mapM_cons, List.mapM_nil, wp_bind', wp_pure']
  refine gd_make2 (kG := kG₁) (kI := kI₁) (cI := cI') (cc := cc) hkG₁ hkindG₁ hkI₁ hkindI₁ hn hk hl1 hh1 hl2 hh2 (by show T.heap.size + 1 + _ ≤ _; omega) (by show T.slotsUsed + _ + _ ≤ _; omega) (fun d' acts' => ?_)
  have eS : ((T.setTop g).setVm vm₁).setTop { g with stack := rest } = (T.setVm vm₁).setTop { g with stack := rest } := by
    show ((T.setVm vm₁).setTop g).setTop _ = _
    rw [State.setTop_setTop]
  rw [eS, gd_fill_top]
  simp only [wp_bind', W.mark, W.pushRef, State.topJava?_setTop' _ XF.here.top, Option.some.injEq, exists_eq_left', State.setTop_setTop, State.heap_setTop]
  intro acts
  simp [jvm, XF.here.top]
  exact hrest
end GDS
theorem gd_out_v (cG : ClassId) (N a : Nat) (i : Nat) : gd_out cG N a i = arrV cG N (fun j => va_rf (if j < i then some (a + 1 + j) else none)) := by
  induction i with
  | zero =>
    show ({ cls := cG, slots := Array.replicate N .null, vm := .none } : Cell) = _
    rw [arrV_new]
    refine congrArg (arrV cG N) (funext fun j => ?_)
    simp [va_rf]
  | succ i ih =>
    show (gd_out cG N a i).setSlot i (.ref (a + 1 + i)) = _
    rw [ih, arrV_store]
    refine congrArg (arrV cG N) (funext fun j => ?_)
    by_cases e : j = i
    · subst e
      simp [updV, va_rf]
    · by_cases h : j < i
      · simp [updV, e, h, Nat.lt_succ_of_lt h]
      · simp [updV, e, h, show ¬ j < i + 1 by omega]
section GDK
variable {p : Program} {l : Launch} {e : Env} {R : Room} {s : State} {m : MethodId} {args : Array Value} {below : List Frame} {meth : Method} {c : Code} {H : Heap} {locs : List Loc} {cells slots : Nat} {Q : State → Prop}
variable {pc : Nat} {ls : Array Slot} {rest : List Value} {A : Nat → Prop} {D : va_G} {ws : va_W}
/-- new int[n][m]: the outer row, then its rows -/
theorem kn_g {cc : ByteArray} {ak : Nat → ClassId} (hexec : p.tables.exec = Jvm.exec) (hb : c.code = cc) {own : String} {index : Nat} (hown : s.vm.findClass own = some m.cls) (hclink : (Cond.classLink own index ("[" ++ (FieldType.array .int).toString)).before args s = true) (harr : (Cond.arrayClass .int).before args s = true) (hE : EV D ak s) (hP : va_P D vwCl ws H) (hD : va_D A ws) (hS : va_S A s.heap H locs) (hA : ∀ q, s.heap.size ≤ q → A q)
    {n k : Int32} {N M : Nat} (hn : ¬ n < 0) (hk : ¬ k < 0) (hN : n.toNatClampNeg = N) (hM : k.toNatClampNeg = M) (hb1 : N * 4 ≤ 536870912) (hb2 : M * 4 ≤ 536870912) (hcells : cells + (1 + N) ≤ R.cells) (hslots : slots + (N + N * M) ≤ R.slots) (hdg : decode cc pc = .ok (.multianewarray index 2, 4))
    (kk : ∀ (q : Nat) (H1 : Heap), va_P D vwCl (ws ++ ((q, .inl (ak 6, N, .inr (.inr (.inr (.inr (fun i => if i < N then some (q + 1 + i) else none)))))) :: (List.range N).map (fun i => (q + 1 + i, .inl (ak 0, M, .inl (fun _ => 0)))))) H1 → va_D A (ws ++ ((q, .inl (ak 6, N, .inr (.inr (.inr (.inr (fun i => if i < N then some (q + 1 + i) else none)))))) :: (List.range N).map (fun i => (q + 1 + i, .inl (ak 0, M, .inl (fun _ => 0)))))) → va_S A s.heap H1 locs →
      W p l e R s m args below meth c H1 locs (cells + 1 + N) (slots + N + N * M) Q (F0 m (pc + 4) ls (.ref q :: rest))) : W p l e R s m args below meth c H locs cells slots Q (F0 m pc ls (.int k :: .int n :: rest)) := by
  subst hN
  subst hM
  intro T hT X
  obtain ⟨kG, hkG, hkindG⟩ := hE.2.2.2.2.2
  obtain ⟨vm₁, X', step⟩ := gd_step X hexec hown hclink (hE.1.2 0 _ rfl).2 hkG hkindG (hE.1.2 6 _ rfl).2 harr (g := F0 m pc ls (.int k :: .int n :: rest)) rfl (by rw [hb]; exact hdg) rfl hn hk hb1 hb2 hcells hslots
  generalize hF : gd_fill (T.setVm vm₁) (ak 6) (ak 0) n.toNatClampNeg k.toNatClampNeg n.toNatClampNeg = F at X' step
  have hTh : (T.setVm vm₁).heap = H := hT
  obtain ⟨f1, f2, -, -⟩ := gd_fill_f (T.setVm vm₁) (ak 6) (ak 0) n.toNatClampNeg k.toNatClampNeg n.toNatClampNeg
  rw [hF, hTh] at f1 f2
  have hold : ∀ x : Nat, x < H.size → F.heap[x]? = H[x]? := fun x hx => by
    have := gd_fill_old (T.setVm vm₁) (ak 6) (ak 0) n.toNatClampNeg k.toNatClampNeg (x := x) (by rw [hTh]; exact hx) n.toNatClampNeg
    rw [hF, hTh] at this
    exact this
  have hrow : ∀ j : Nat, j < n.toNatClampNeg → F.heap[H.size + 1 + j]? = some (gd_in (ak 0) k.toNatClampNeg) := fun j hj => by
    have := gd_fill_row (T.setVm vm₁) (ak 6) (ak 0) n.toNatClampNeg k.toNatClampNeg n.toNatClampNeg j hj
    rw [hF, hTh] at this
    exact this
  have hout : gd_out (ak 6) n.toNatClampNeg H.size n.toNatClampNeg = vp_cell (ak 6) (n.toNatClampNeg, .inr (.inr (.inr (.inr (fun i => if i < n.toNatClampNeg then some (H.size + 1 + i) else none))))) := by
    rw [vp_cell_q]
    exact gd_out_v (ak 6) n.toNatClampNeg H.size n.toNatClampNeg
  rw [hout] at f2
  have hin : gd_in (ak 0) k.toNatClampNeg = vp_cell (ak 0) (k.toNatClampNeg, .inl (fun _ => (0 : Int32))) := by
    rw [vp_cell_i, ← arrV_new]
    rfl
  generalize hrs : (List.range n.toNatClampNeg).map (fun i => ((H.size + 1 + i, .inl (ak 0, k.toNatClampNeg, .inl (fun _ => (0 : Int32)))) : Nat × va_E)) = rs
  have hr : ∀ (k9 : Nat) (x : Nat × va_E), rs[k9]? = some x → x.1 = H.size + 1 + k9 ∧ k9 < n.toNatClampNeg ∧ x.2 = .inl (ak 0, k.toNatClampNeg, .inl (fun _ => (0 : Int32))) := fun k9 x hx => by
    rw [← hrs, List.getElem?_map] at hx
    by_cases h9 : k9 < n.toNatClampNeg
    · rw [List.getElem?_range h9] at hx
      cases hx
      exact ⟨rfl, h9, rfl⟩
    · rw [List.getElem?_eq_none (by rw [List.length_range]; omega)] at hx
      cases hx
  have hP0 : va_P D vwCl ws F.heap := hP.kept (fun k9 x hx => hold x.1 ((hP k9 x hx).lt))
  have hPt : va_P D vwCl ((H.size, .inl (ak 6, n.toNatClampNeg, .inr (.inr (.inr (.inr (fun i => if i < n.toNatClampNeg then some (H.size + 1 + i) else none)))))) :: rs) F.heap := by
    intro k9 x hx
    cases k9 with
    | zero =>
      cases hx
      exact f2
    | succ k9 =>
      obtain ⟨g1, g2, g3⟩ := hr k9 x hx
      obtain ⟨x1, x2⟩ := x
      cases g1
      cases g3
      exact (hrow k9 g2).trans (congrArg some hin)
  have hle : ∀ (k9 : Nat) (x : Nat × va_E), ((H.size, .inl (ak 6, n.toNatClampNeg, .inr (.inr (.inr (.inr (fun i => if i < n.toNatClampNeg then some (H.size + 1 + i) else none)))))) :: rs : va_W)[k9]? = some x → x.1 = H.size + k9 := by
    intro k9 x hx
    cases k9 with
    | zero => cases hx; rfl
    | succ k9 => rw [(hr k9 x hx).1]; omega
  have hDt : va_D A ((H.size, .inl (ak 6, n.toNatClampNeg, .inr (.inr (.inr (.inr (fun i => if i < n.toNatClampNeg then some (H.size + 1 + i) else none)))))) :: rs) := ⟨fun i j x y hi hj hxy => by have h1 := hle i x hi; have h2 := hle j y hj; omega, fun k9 x hx => hA _ (by rw [hle k9 x hx]; exact Nat.le_trans hS.1 (Nat.le_add_right _ _))⟩
  obtain ⟨t2, a1, b1⟩ := kk H.size F.heap (by rw [hrs]; exact hP0.app hPt) (by rw [hrs]; exact hD.app hDt (fun i j x y hx hy hxy => by have h1 := (hP i x hx).lt; have h2 := hle j y hy; omega)) ⟨Nat.le_trans hS.1 (by rw [f1]; omega), fun x h1 h2 => (hold x (Nat.lt_of_lt_of_le h1 hS.1)).trans (hS.2.1 x h1 h2), hS.2.2⟩ F rfl X'
  refine ⟨t2, step t2 ?_, b1⟩
  rw [hT]
  exact a1
end GDK
