-- cells that nobody writes in a call: read, never named among its own
def KT (D : va_G) (A : Nat → Prop) (cw : va_W) (H : Heap) : Prop := va_P D vwCl cw H ∧ ∀ (k : Nat) (q : Nat × va_E), cw[k]? = some q → ¬ A q.1
theorem KT.kept {D : va_G} {A : Nat → Prop} {cw : va_W} {H H1 : Heap} (h : KT D A cw H) (hq : ∀ a : Nat, a < H.size → ¬ A a → H1[a]? = H[a]?) : KT D A cw H1 := ⟨h.1.kept (fun k q hk => hq q.1 ((h.1 k q hk).lt) (h.2 k q hk)), h.2⟩
theorem KT.narrow {D : va_G} {A B : Nat → Prop} {cw : va_W} {H : Heap} (h : KT D A cw H) (hAB : ∀ q, B q → A q) : KT D B cw H := ⟨h.1, fun k q hk z => h.2 k q hk (hAB _ z)⟩
theorem KT.sub {D : va_G} {A : Nat → Prop} {cw cw' : va_W} {H : Heap} (h : KT D A cw H) (is : List Nat) (hs : is.map (fun i => cw[i]?) = cw'.map some) : KT D A cw' H := by
  have at' : ∀ (k : Nat) (q : Nat × va_E), cw'[k]? = some q → ∃ i : Nat, cw[i]? = some q := by
    intro k q hq
    have h1 : (is.map (fun i => cw[i]?))[k]? = some (some q) := by rw [hs, List.getElem?_map, hq]; rfl
    rw [List.getElem?_map] at h1
    cases hi : is[k]? with
    | none => rw [hi] at h1; cases h1
    | some i => rw [hi] at h1; exact ⟨i, Option.some.inj h1⟩
  exact ⟨fun k q hk => (at' k q hk).elim (fun i hi => h.1 i q hi), fun k q hk => (at' k q hk).elim (fun i hi => h.2 i q hi)⟩
def cPreK (D : va_G) (ak : Nat → ClassId) (ad : Nat → Nat) (av : List Value) (ws : va_W) (sz : Nat) (cw : va_W) : Array Value → State → Prop := fun v U => cPre D ak ad av ws sz v U ∧ KT D (va_A ws sz) cw U.heap
theorem cPreK.blind {D : va_G} {ak : Nat → ClassId} {ad : Nat → Nat} {av : List Value} {ws : va_W} {sz : Nat} {cw : va_W} : FrameBlind (cPreK D ak ad av ws sz cw) := fun a U g mk q => ⟨cPre.blind a U g mk q.1, q.2⟩
section KCK
variable {D : va_G} {ak : Nat → ClassId} {ad : Nat → Nat} {s : State} {H : Heap} {A : Nat → Prop} {ws cw : va_W} {locs : List Loc}
theorem kc_preK {wc ck : va_W} {As : List Value} (hKT : KT D A cw s.heap) (hE : EV D ak s) (hT : ST D ak ad A s s.heap) (hP : va_P D vwCl ws H) (hD : va_D A ws) (hS : va_S A s.heap H locs) (hA : ∀ q, s.heap.size ≤ q → A q) (isC isK : List Nat) (hn : va_nd isC = true) (hC : isC.map (fun i => ws[i]?) = wc.map some) (hC2 : isC.filterMap (fun i => ws[i]?) = wc) (hk : isK.map (fun i => cw[i]?) = ck.map some) : PreS s H (cPreK D ak ad As wc H.size ck) As := by
  have h := kc_pre (As := As) hE hT hP hD hS hA isC hn hC hC2
  refine ⟨cPreK.blind, fun U hU hW => ⟨h.2 U hU hW, ?_⟩⟩
  rw [hU]
  exact ((hKT.kept hS.2.1).narrow (va_free hD hS hA isC hC)).sub isK hk
theorem kc_preVK {wc ck : va_W} {As : List Value} {C : String} {b : Nat} (hKT : KT D A cw s.heap) (hE : EV D ak s) (hT : ST D ak ad A s s.heap) (hP : va_P D vwCl ws H) (hD : va_D A ws) (hS : va_S A s.heap H locs) (hA : ∀ q, s.heap.size ≤ q → A q) (isC isK : List Nat) (hn : va_nd isC = true) (hC : isC.map (fun i => ws[i]?) = wc.map some) (hC2 : isC.filterMap (fun i => ws[i]?) = wc) (hk : isK.map (fun i => cw[i]?) = ck.map some) {wq : va_W} (hQ : va_P D vwCl wq H) (q0 ci : Nat) {fs : List Value} {q : vw_C} (hc : vwCl[ci]? = some q) (hq : q.1 = C) (he : wq[q0]? = some (b, .inr (ci, fs))) : PreV s H C b (cPreK D ak ad (.ref b :: As) wc H.size ck) As := by
  subst hq
  have h := kc_preK (As := .ref b :: As) hKT hE hT hP hD hS hA isC isK hn hC hC2 hk
  exact ⟨h.1, va_recv hE.1 hQ hc he, h.2⟩
theorem kc_preVW {wc : va_W} {As : List Value} {C : String} {b : Nat} (hE : EV D ak s) (hT : ST D ak ad A s s.heap) (hP : va_P D vwCl ws H) (hD : va_D A ws) (hS : va_S A s.heap H locs) (hA : ∀ q, s.heap.size ≤ q → A q) (isC : List Nat) (hn : va_nd isC = true) (hC : isC.map (fun i => ws[i]?) = wc.map some) (hC2 : isC.filterMap (fun i => ws[i]?) = wc) {wq : va_W} (hQ : va_P D vwCl wq H) (q0 ci : Nat) {fs : List Value} {q : vw_C} (hc : vwCl[ci]? = some q) (hq : q.1 = C) (he : wq[q0]? = some (b, .inr (ci, fs))) : PreV s H C b (cPre D ak ad (.ref b :: As) wc H.size) As := by
  subst hq
  have h := kc_pre (As := .ref b :: As) hE hT hP hD hS hA isC hn hC hC2
  exact ⟨h.1, va_recv hE.1 hQ hc he, h.2⟩
end KCK
