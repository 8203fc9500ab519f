theorem Met.mono {l : Launch} {y : MethodName} {ws : List Cond} {rm : Room} {Pc Pc' : Array Value → State → Prop} {Qc Qc' : Array Value → State → Outcome → State → Prop} {mc ms : Nat} {free free' : Addr → Prop} (h : Met l y ws rm Pc Qc mc ms free) (hp : ∀ a s, Pc' a s → Pc a s) (hq : ∀ a s o t, Pc' a s → Qc a s o t → Qc' a s o t) (hf : ∀ q, free q → free' q) : Met l y ws rm Pc' Qc' mc ms free' := by
  intro p e ha hc hk s m args below hfr happ hP hK
  obtain ⟨n, o, h1, h2, h3, h4, L, h5, h6⟩ := h p e ha hc hk s m args below hfr happ (hp _ _ hP) hK
  exact ⟨n, o, h1, h2, h3, hq _ _ _ _ hP h4, L, h5, fun q hq => hf _ (h6 q hq)⟩
/-- a row with some places written anew -/
def setAll : va_W → List Nat → va_W → va_W
  | X, i :: is, q :: qs => setAll (X.set i q) is qs
  | X, _, _ => X
theorem setAll_len : ∀ (is : List Nat) (X qs : va_W), (setAll X is qs).length = X.length := by
  intro is
  induction is with
  | nil => intro X qs; cases qs <;> rfl
  | cons i is ih =>
    intro X qs
    cases qs with
    | nil => rfl
    | cons q qs => show (setAll (X.set i q) is qs).length = _; rw [ih, List.length_set]
theorem setAll_out : ∀ (is : List Nat) (X qs : va_W) (k : Nat), k ∉ is → (setAll X is qs)[k]? = X[k]? := by
  intro is
  induction is with
  | nil => intro X qs k _; cases qs <;> rfl
  | cons i is ih =>
    intro X qs k hk
    cases qs with
    | nil => rfl
    | cons q qs =>
      show (setAll (X.set i q) is qs)[k]? = _
      rw [ih _ _ _ (fun z => hk (List.mem_cons_of_mem _ z)), List.getElem?_set_ne (show i ≠ k from fun e => hk (by rw [e]; exact List.mem_cons_self))]
theorem va_nd_tl {i : Nat} {is : List Nat} (h : (i :: is).Nodup) : i ∉ is ∧ is.Nodup := List.nodup_cons.mp h
theorem setAll_in : ∀ (is : List Nat) (X qs : va_W) (j k : Nat), is.Nodup → is.length = qs.length → (∀ i ∈ is, i < X.length) → is[j]? = some k → (setAll X is qs)[k]? = qs[j]? := by
  intro is
  induction is with
  | nil => intro X qs j k _ _ _ h; simp at h
  | cons i is ih =>
    intro X qs j k hn hlen hb h
    cases qs with
    | nil => simp at hlen
    | cons q qs =>
      obtain ⟨h1, h2⟩ := va_nd_tl hn
      show (setAll (X.set i q) is qs)[k]? = _
      cases j with
      | zero =>
        have e : i = k := by simpa using h
        subst e
        rw [setAll_out _ _ _ _ h1, List.getElem?_set_self (hb i List.mem_cons_self)]
        rfl
      | succ j =>
        have h' : is[j]? = some k := by simpa using h
        rw [ih (X.set i q) qs j k h2 (by simpa using hlen) (fun x hx => by rw [List.length_set]; exact hb x (List.mem_cons_of_mem _ hx)) h']
        simp
section FR
variable {D : va_G} {X pl wc w1 : va_W} {H H1 : Heap} {A0 : Nat → Prop}
/-- behind a call: the row with the callee's places written anew, and the pool -/
theorem fr_join (hP : va_P D vwCl (X ++ pl) H) (hD : va_D A0 (X ++ pl)) (is : List Nat) (hn : is.Nodup) (hb : ∀ i ∈ is, i < X.length) (hC : is.map (fun i => X[i]?) = wc.map some) (hlen : is.length = w1.length)
    (hk : ∀ q : Nat, q < H.size → ¬ va_A wc H.size q → H1[q]? = H[q]?) (hF : ∀ q, va_A wc H.size q → A0 q) {w2 : va_W} (hP1 : va_P D vwCl (w1 ++ w2) H1) (hD1 : va_D (va_A wc H.size) (w1 ++ w2)) : va_P D vwCl (setAll X is w1 ++ (pl ++ w2)) H1 ∧ va_D A0 (setAll X is w1 ++ (pl ++ w2)) := by
  -- what stands at a place
  have kind : ∀ (k : Nat) (q : Nat × va_E), (setAll X is w1 ++ (pl ++ w2))[k]? = some q → (∃ j, (w1 ++ w2)[j]? = some q ∧ ((j < w1.length ∧ is[j]? = some k) ∨ (w1.length ≤ j ∧ k = X.length + pl.length + (j - w1.length)))) ∨ ((X ++ pl)[k]? = some q ∧ k ∉ is) := by
    intro k q hq
    by_cases h1 : k < X.length
    · rw [List.getElem?_append_left (by rw [setAll_len]; exact h1)] at hq
      by_cases h2 : k ∈ is
      · obtain ⟨j, hj⟩ := List.getElem?_of_mem h2
        have hjl : j < is.length := (List.getElem?_eq_some_iff.mp hj).1
        rw [setAll_in is X w1 j k hn hlen hb hj] at hq
        exact Or.inl ⟨j, by rw [List.getElem?_append_left (by omega)]; exact hq, Or.inl ⟨by omega, hj⟩⟩
      · rw [setAll_out _ _ _ _ h2] at hq
        exact Or.inr ⟨by rw [List.getElem?_append_left h1]; exact hq, h2⟩
    · rw [List.getElem?_append_right (by rw [setAll_len]; omega), setAll_len] at hq
      by_cases h3 : k - X.length < pl.length
      · rw [List.getElem?_append_left h3] at hq
        exact Or.inr ⟨by rw [List.getElem?_append_right (by omega)]; exact hq, fun z => h1 (hb k z)⟩
      · rw [List.getElem?_append_right (by omega)] at hq
        exact Or.inl ⟨w1.length + (k - X.length - pl.length), by rw [List.getElem?_append_right (by omega)]; rw [show w1.length + (k - X.length - pl.length) - w1.length = k - X.length - pl.length by omega]; exact hq, Or.inr ⟨by omega, by omega⟩⟩
  have apart : ∀ (k : Nat) (q : Nat × va_E), (X ++ pl)[k]? = some q → k ∉ is → ¬ va_A wc H.size q.1 := by
    intro k q hq hki h
    rcases h with ⟨k2, e, h⟩ | h
    · obtain ⟨i, h5, h6⟩ := va_in_of is hC h
      have hi : i < X.length := (List.getElem?_eq_some_iff.mp h6).1
      have h6' : (X ++ pl)[i]? = some (q.1, e) := by rw [List.getElem?_append_left hi]; exact h6
      have := hD.1 k i q (q.1, e) hq h6' rfl
      subst this
      exact hki (List.mem_of_getElem? h5)
    · have := (hP k q hq).lt
      omega
  refine ⟨fun k q hq => ?_, fun i j p q hi hj e => ?_, fun k q hq => ?_⟩
  · rcases kind k q hq with ⟨j, h1, _⟩ | ⟨h1, h2⟩
    · exact hP1 j q h1
    · exact (hP k q h1).kept (hk q.1 (hP k q h1).lt (apart k q h1 h2))
  · rcases kind i p hi with ⟨x, h1, h1'⟩ | ⟨h1, h2⟩ <;> rcases kind j q hj with ⟨y, h3, h3'⟩ | ⟨h3, h4⟩
    · have exy := hD1.1 x y p q h1 h3 e
      subst exy
      rcases h1' with ⟨a1, a2⟩ | ⟨a1, a2⟩ <;> rcases h3' with ⟨b1, b2⟩ | ⟨b1, b2⟩
      · rw [a2] at b2; exact Option.some.inj b2
      · omega
      · omega
      · omega
    · exact absurd (e ▸ hD1.2 x p h1) (apart j q h3 h4)
    · exact absurd (e.symm ▸ hD1.2 y q h3) (apart i p h1 h2)
    · exact hD.1 i j p q h1 h3 e
  · rcases kind k q hq with ⟨j, h1, _⟩ | ⟨h1, h2⟩
    · exact hF _ (hD1.2 j q h1)
    · exact hD.2 k q h1
theorem fr_pre {ak : Nat → ClassId} {ad : Nat → Nat} {av : List Value} {sz : Nat} {ck : va_W} (is : List Nat) (hn : is.Nodup) (hC : is.map (fun i => X[i]?) = wc.map some) (hck : ∀ q ∈ ck, q ∈ pl) : ∀ (a : Array Value) (s : State), cPre D ak ad av (X ++ pl) sz a s → cPreK D ak ad av wc sz ck a s := by
  intro a s h
  obtain ⟨h0, h1, h2, h3, h4, h5⟩ := h
  have at' : ∀ (k : Nat) (q : Nat × va_E), wc[k]? = some q → ∃ i, is[k]? = some i ∧ X[i]? = some q ∧ (X ++ pl)[i]? = some q := by
    intro k q hq
    obtain ⟨i, a1, a2⟩ := va_in_of is hC hq
    exact ⟨i, a1, a2, by rw [List.getElem?_append_left (List.getElem?_eq_some_iff.mp a2).1]; exact a2⟩
  have hsub : ∀ q, va_A wc sz q → va_A (X ++ pl) sz q := by
    intro q h
    rcases h with ⟨k, e, h⟩ | h
    · obtain ⟨i, -, -, a3⟩ := at' k _ h
      exact Or.inl ⟨i, e, a3⟩
    · exact Or.inr h
  have hPc : va_P D vwCl wc s.heap := fun k q hq => by
    obtain ⟨i, -, -, a3⟩ := at' k q hq
    exact h2 i q a3
  refine ⟨⟨h0, h1, hPc, h3, ⟨fun i j p q hi hj e => ?_, fun _ _ _ => trivial⟩, h5.narrow hsub⟩, fun k q hq => ?_, fun k q hq z => ?_⟩
  · obtain ⟨x, a1, -, a3⟩ := at' i p hi
    obtain ⟨y, b1, -, b3⟩ := at' j q hj
    have := h4.1 x y p q a3 b3 e
    subst this
    exact (List.getElem?_inj (List.getElem?_eq_some_iff.mp a1).1 hn).mp (a1.trans b1.symm)
  · obtain ⟨i, hi⟩ := List.getElem?_of_mem (hck q (List.mem_of_getElem? hq))
    exact h2 (X.length + i) q (by rw [List.getElem?_append_right (by omega), show X.length + i - X.length = i by omega]; exact hi)
  · obtain ⟨i, hi⟩ := List.getElem?_of_mem (hck q (List.mem_of_getElem? hq))
    have hq2 : (X ++ pl)[X.length + i]? = some q := by rw [List.getElem?_append_right (by omega), show X.length + i - X.length = i by omega]; exact hi
    rcases z with ⟨k2, e, z⟩ | z
    · obtain ⟨x, -, a2, a3⟩ := at' k2 _ z
      have := h4.1 _ _ q (q.1, e) hq2 a3 rfl
      have := (List.getElem?_eq_some_iff.mp a2).1
      omega
    · have := (h2 _ q hq2).lt
      omega
/-- a contract over some cells, as one over the whole row and the pool -/
theorem fr_i {l : Launch} {y : MethodName} {ws : List Cond} {rm : Room} {mc ms : Nat} {ak : Nat → ClassId} {ad : Nat → Nat} {av : List Value} {sz : Nat} {ck : va_W} {S : Type} {post : Int32 → S → Prop} {w : S → va_W} (hm : Met l y ws rm (cPreK D ak ad av wc sz ck) (cI D post w wc sz) mc ms (va_A wc sz)) (is : List Nat) (hn : is.Nodup) (hb : ∀ i ∈ is, i < X.length) (hC : is.map (fun i => X[i]?) = wc.map some) (hck : ∀ q ∈ ck, q ∈ pl) (hw : ∀ u, is.length = (w u).length) {R : Int32 → va_W → Prop} (hR : ∀ r u, post r u → R r (setAll X is (w u) ++ pl)) :
    Met l y ws rm (cPre D ak ad av (X ++ pl) sz) (cI D (S := va_W) R (fun L => L) (X ++ pl) sz) mc ms (va_A (X ++ pl) sz) := by
  have hsub : ∀ q, va_A wc sz q → va_A (X ++ pl) sz q := by
    intro q h
    rcases h with ⟨k, e, h⟩ | h
    · obtain ⟨i, -, a2⟩ := va_in_of is hC h
      exact Or.inl ⟨i, e, by rw [List.getElem?_append_left (List.getElem?_eq_some_iff.mp a2).1]; exact a2⟩
    · exact Or.inr h
  refine hm.mono (fr_pre is hn hC hck) (fun a s o t hp hq => ?_) hsub
  obtain ⟨⟨r, u, ho, hpo, hP1, hD1⟩, hF⟩ := hq
  obtain ⟨_, h1, h2, _, h4, _⟩ := hp
  subst h1
  obtain ⟨j1, j2⟩ := fr_join (w1 := w u) (w2 := []) h2 (h4.self (sz := s.heap.size)) is hn hb hC (hw u) hF.2 hsub (by rw [List.append_nil]; exact hP1) (by rw [List.append_nil]; exact hD1)
  rw [List.append_nil] at j1 j2
  exact ⟨⟨r, _, ho, hR r u hpo, j1, j2⟩, hF.1, fun q h1 h2 => hF.2 q h1 (fun z => h2 (hsub q z))⟩
theorem fr_i0 {l : Launch} {y : MethodName} {ws : List Cond} {rm : Room} {mc ms : Nat} {ak : Nat → ClassId} {ad : Nat → Nat} {av : List Value} {sz : Nat} {S : Type} {post : Int32 → S → Prop} {w : S → va_W} (hm : Met l y ws rm (cPre D ak ad av wc sz) (cI D post w wc sz) mc ms (va_A wc sz)) (is : List Nat) (hn : is.Nodup) (hb : ∀ i ∈ is, i < X.length) (hC : is.map (fun i => X[i]?) = wc.map some) (hw : ∀ u, is.length = (w u).length) {R : Int32 → va_W → Prop} (hR : ∀ r u, post r u → R r (setAll X is (w u) ++ pl)) :
    Met l y ws rm (cPre D ak ad av (X ++ pl) sz) (cI D (S := va_W) R (fun L => L) (X ++ pl) sz) mc ms (va_A (X ++ pl) sz) :=
  fr_i (ck := []) (hm.mono (fun _ _ h => h.1) (fun _ _ _ _ _ h => h) (fun _ h => h)) is hn hb hC (fun q h => by cases h) hw hR
end FR
