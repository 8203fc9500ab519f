section
theorem Met.mono {l : Launch} {y : MethodName} {ws : List Cond} {rm : Room} {Pc Pc' : Array Value → State → Prop} {Qc Qc' : Array Value → State → Outcome → State → Prop} {mc ms : Nat} {free free' : Addr → Prop} (h : Met l y ws rm Pc Qc mc ms free) (hp : ∀ a s, Pc' a s → Pc a s) (hq : ∀ a s o t, Pc' a s → Qc a s o t → Qc' a s o t) (hf : ∀ q, free q → free' q) : Met l y ws rm Pc' Qc' mc ms free' := by
  intro p e ha hc hk s m args below hfr happ hP hK
  obtain ⟨n, o, h1, h2, h3, h4, L, h5, h6⟩ := h p e ha hc hk s m args below hfr happ (hp _ _ hP) hK
  exact ⟨n, o, h1, h2, h3, hq _ _ _ _ hP h4, L, h5, fun q hq => hf _ (h6 q hq)⟩
/-- a row with some places written anew -/
def setAll : va_W → List Nat → va_W → va_W
  | X, i :: is, q :: qs => setAll (X.set i q) is qs
  | X, _, _ => X
theorem setAll_len : ∀ (is : List Nat) (X qs : va_W), (setAll X is qs).length = X.length := by
  intro is
  induction is with
  | nil => intro X qs; cases qs <;> rfl
  | cons i is ih =>
    intro X qs
    cases qs with
    | nil => rfl
    | cons q qs => show (setAll (X.set i q) is qs).length = _; rw [ih, List.length_set]
theorem setAll_out : ∀ (is : List Nat) (X qs : va_W) (k : Nat), k ∉ is → (setAll X is qs)[k]? = X[k]? := by
  intro is
  induction is with
  | nil => intro X qs k _; cases qs <;> rfl
  | cons i is ih =>
    intro X qs k hk
    cases qs with
    | nil => rfl
    | cons q qs =>
      show (setAll (X.set i q) is qs)[k]? = _
      rw [ih _ _ _ (fun z => hk (List.mem_cons_of_mem _ z)), List.getElem?_set_ne (show i ≠ k from fun e => hk (by rw [e]; exact List.mem_cons_self))]
theorem va_nd_tl {i : Nat} {is : List Nat} (h : (i :: is).Nodup) : i ∉ is ∧ is.Nodup := List.nodup_cons.mp h
theorem setAll_in : ∀ (is : List Nat) (X qs : va_W) (j k : Nat), is.Nodup → is.length = qs.length → (∀ i ∈ is, i < X.length) → is[j]? = some k → (setAll X is qs)[k]? = qs[j]? := by
  intro is
  induction is with
  | nil => intro X qs j k _ _ _ h; simp at h
  | cons i is ih =>
    intro X qs j k hn hlen hb h
    cases qs with
    | nil => simp at hlen
    | cons q qs =>
      obtain ⟨h1, h2⟩ := va_nd_tl hn
      show (setAll (X.set i q) is qs)[k]? = _
      cases j with
      | zero =>
        have e : i = k := by simpa using h
        subst e
        rw [setAll_out _ _ _ _ h1, List.getElem?_set_self (hb i List.mem_cons_self)]
        rfl
      | succ j =>
        have h' : is[j]? = some k := by simpa using h
        rw [ih (X.set i q) qs j k h2 (by simpa using hlen) (fun x hx => by rw [List.length_set]; exact hb x (List.mem_cons_of_mem _ hx)) h']
        simp
section FR
variable {D : va_G} {X pl wc w1 : va_W} {H H1 : Heap} {A0 : Nat → Prop}
/-- behind a call: the row with the callee's places written anew, and the pool -/
theorem fr_join (hP : va_P D vwCl (X ++ pl) H) (hD : va_D A0 (X ++ pl)) (is : List Nat) (hn : is.Nodup) (hb : ∀ i ∈ is, i < X.length) (hC : is.map (fun i => X[i]?) = wc.map some) (hlen : is.length = w1.length)
    (hk : ∀ q : Nat, q < H.size → ¬ va_A wc H.size q → H1[q]? = H[q]?) (hF : ∀ q, va_A wc H.size q → A0 q) {w2 : va_W} (hP1 : va_P D vwCl (w1 ++ w2) H1) (hD1 : va_D (va_A wc H.size) (w1 ++ w2)) : va_P D vwCl (setAll X is w1 ++ (pl ++ w2)) H1 ∧ va_D A0 (setAll X is w1 ++ (pl ++ w2)) := by
  -- what stands at a place
  have kind : ∀ (k : Nat) (q : Nat × va_E), (setAll X is w1 ++ (pl ++ w2))[k]? = some q → (∃ j, (w1 ++ w2)[j]? = some q ∧ ((j < w1.length ∧ is[j]? = some k) ∨ (w1.length ≤ j ∧ k = X.length + pl.length + (j - w1.length)))) ∨ ((X ++ pl)[k]? = some q ∧ k ∉ is) := by
    intro k q hq
    by_cases h1 : k < X.length
    · rw [List.getElem?_append_left (by rw [setAll_len]; exact h1)] at hq
      by_cases h2 : k ∈ is
      · obtain ⟨j, hj⟩ := List.getElem?_of_mem h2
        have hjl : j < is.length := (List.getElem?_eq_some_iff.mp hj).1
        rw [setAll_in is X w1 j k hn hlen hb hj] at hq
        exact Or.inl ⟨j, by rw [List.getElem?_append_left (by omega)]; exact hq, Or.inl ⟨by omega, hj⟩⟩
      · rw [setAll_out _ _ _ _ h2] at hq
        exact Or.inr ⟨by rw [List.getElem?_append_left h1]; exact hq, h2⟩
    · rw [List.getElem?_append_right (by rw [setAll_len]; omega), setAll_len] at hq
      by_cases h3 : k - X.length < pl.length
      · rw [List.getElem?_append_left h3] at hq
        exact Or.inr ⟨by rw [List.getElem?_append_right (by omega)]; exact hq, fun z => h1 (hb k z)⟩
      · rw [List.getElem?_append_right (by omega)] at hq
        exact Or.inl ⟨w1.length + (k - X.length - pl.length), by rw [List.getElem?_append_right (by omega)]; rw [show w1.length + (k - X.length - pl.length) - w1.length = k - X.length - pl.length by omega]; exact hq, Or.inr ⟨by omega, by omega⟩⟩
  have apart : ∀ (k : Nat) (q : Nat × va_E), (X ++ pl)[k]? = some q → k ∉ is → ¬ va_A wc H.size q.1 := by
    intro k q hq hki h
    rcases h with ⟨k2, e, h⟩ | h
    · obtain ⟨i, h5, h6⟩ := va_in_of is hC h
      have hi : i < X.length := (List.getElem?_eq_some_iff.mp h6).1
      have h6' : (X ++ pl)[i]? = some (q.1, e) := by rw [List.getElem?_append_left hi]; exact h6
      have := hD.1 k i q (q.1, e) hq h6' rfl
      subst this
      exact hki (List.mem_of_getElem? h5)
    · have := (hP k q hq).lt
      omega
  refine ⟨fun k q hq => ?_, fun i j p q hi hj e => ?_, fun k q hq => ?_⟩
  · rcases kind k q hq with ⟨j, h1, _⟩ | ⟨h1, h2⟩
    · exact hP1 j q h1
    · exact (hP k q h1).kept (hk q.1 (hP k q h1).lt (apart k q h1 h2))
  · rcases kind i p hi with ⟨x, h1, h1'⟩ | ⟨h1, h2⟩ <;> rcases kind j q hj with ⟨y, h3, h3'⟩ | ⟨h3, h4⟩
    · have exy := hD1.1 x y p q h1 h3 e
      subst exy
      rcases h1' with ⟨a1, a2⟩ | ⟨a1, a2⟩ <;> rcases h3' with ⟨b1, b2⟩ | ⟨b1, b2⟩
      · rw [a2] at b2; exact Option.some.inj b2
      · omega
      · omega
      · omega
    · exact absurd (e ▸ hD1.2 x p h1) (apart j q h3 h4)
    · exact absurd (e.symm ▸ hD1.2 y q h3) (apart i p h1 h2)
    · exact hD.1 i j p q h1 h3 e
  · rcases kind k q hq with ⟨j, h1, _⟩ | ⟨h1, h2⟩
    · exact hF _ (hD1.2 j q h1)
    · exact hD.2 k q h1
theorem fr_pre {ak : Nat → ClassId} {ad : Nat → Nat} {av : List Value} {sz : Nat} {ck : va_W} (is : List Nat) (hn : is.Nodup) (hC : is.map (fun i => X[i]?) = wc.map some) (hck : ∀ q ∈ ck, q ∈ pl) : ∀ (a : Array Value) (s : State), cPre D ak ad av (X ++ pl) sz a s → cPreK D ak ad av wc sz ck a s := by
  intro a s h
  obtain ⟨h0, h1, h2, h3, h4, h5⟩ := h
  have at' : ∀ (k : Nat) (q : Nat × va_E), wc[k]? = some q → ∃ i, is[k]? = some i ∧ X[i]? = some q ∧ (X ++ pl)[i]? = some q := by
    intro k q hq
    obtain ⟨i, a1, a2⟩ := va_in_of is hC hq
    exact ⟨i, a1, a2, by rw [List.getElem?_append_left (List.getElem?_eq_some_iff.mp a2).1]; exact a2⟩
  have hsub : ∀ q, va_A wc sz q → va_A (X ++ pl) sz q := by
    intro q h
    rcases h with ⟨k, e, h⟩ | h
    · obtain ⟨i, -, -, a3⟩ := at' k _ h
      exact Or.inl ⟨i, e, a3⟩
    · exact Or.inr h
  have hPc : va_P D vwCl wc s.heap := fun k q hq => by
    obtain ⟨i, -, -, a3⟩ := at' k q hq
    exact h2 i q a3
  refine ⟨⟨h0, h1, hPc, h3, ⟨fun i j p q hi hj e => ?_, fun _ _ _ => trivial⟩, h5.narrow hsub⟩, fun k q hq => ?_, fun k q hq z => ?_⟩
  · obtain ⟨x, a1, -, a3⟩ := at' i p hi
    obtain ⟨y, b1, -, b3⟩ := at' j q hj
    have := h4.1 x y p q a3 b3 e
    subst this
    exact (List.getElem?_inj (List.getElem?_eq_some_iff.mp a1).1 hn).mp (a1.trans b1.symm)
  · obtain ⟨i, hi⟩ := List.getElem?_of_mem (hck q (List.mem_of_getElem? hq))
    exact h2 (X.length + i) q (by rw [List.getElem?_append_right (by omega), show X.length + i - X.length = i by omega]; exact hi)
  · obtain ⟨i, hi⟩ := List.getElem?_of_mem (hck q (List.mem_of_getElem? hq))
    have hq2 : (X ++ pl)[X.length + i]? = some q := by rw [List.getElem?_append_right (by omega), show X.length + i - X.length = i by omega]; exact hi
    rcases z with ⟨k2, e, z⟩ | z
    · obtain ⟨x, -, a2, a3⟩ := at' k2 _ z
      have := h4.1 _ _ q (q.1, e) hq2 a3 rfl
      have := (List.getElem?_eq_some_iff.mp a2).1
      omega
    · have := (h2 _ q hq2).lt
      omega
/-- a contract over some cells, as one over the whole row and the pool -/
theorem fr_i {l : Launch} {y : MethodName} {ws : List Cond} {rm : Room} {mc ms : Nat} {ak : Nat → ClassId} {ad : Nat → Nat} {av : List Value} {sz : Nat} {ck : va_W} {S : Type} {post : Int32 → S → Prop} {w : S → va_W} (hm : Met l y ws rm (cPreK D ak ad av wc sz ck) (cI D post w wc sz) mc ms (va_A wc sz)) (is : List Nat) (hn : is.Nodup) (hb : ∀ i ∈ is, i < X.length) (hC : is.map (fun i => X[i]?) = wc.map some) (hck : ∀ q ∈ ck, q ∈ pl) (hw : ∀ u, is.length = (w u).length) {R : Int32 → va_W → Prop} (hR : ∀ r u, post r u → R r (setAll X is (w u) ++ pl)) :
    Met l y ws rm (cPre D ak ad av (X ++ pl) sz) (cI D (S := va_W) R (fun L => L) (X ++ pl) sz) mc ms (va_A (X ++ pl) sz) := by
  have hsub : ∀ q, va_A wc sz q → va_A (X ++ pl) sz q := by
    intro q h
    rcases h with ⟨k, e, h⟩ | h
    · obtain ⟨i, -, a2⟩ := va_in_of is hC h
      exact Or.inl ⟨i, e, by rw [List.getElem?_append_left (List.getElem?_eq_some_iff.mp a2).1]; exact a2⟩
    · exact Or.inr h
  refine hm.mono (fr_pre is hn hC hck) (fun a s o t hp hq => ?_) hsub
  obtain ⟨⟨r, u, ho, hpo, hP1, hD1⟩, hF⟩ := hq
  obtain ⟨_, h1, h2, _, h4, _⟩ := hp
  subst h1
  obtain ⟨j1, j2⟩ := fr_join (w1 := w u) (w2 := []) h2 (h4.self (sz := s.heap.size)) is hn hb hC (hw u) hF.2 hsub (by rw [List.append_nil]; exact hP1) (by rw [List.append_nil]; exact hD1)
  rw [List.append_nil] at j1 j2
  exact ⟨⟨r, _, ho, hR r u hpo, j1, j2⟩, hF.1, fun q h1 h2 => hF.2 q h1 (fun z => h2 (hsub q z))⟩
theorem fr_i0 {l : Launch} {y : MethodName} {ws : List Cond} {rm : Room} {mc ms : Nat} {ak : Nat → ClassId} {ad : Nat → Nat} {av : List Value} {sz : Nat} {S : Type} {post : Int32 → S → Prop} {w : S → va_W} (hm : Met l y ws rm (cPre D ak ad av wc sz) (cI D post w wc sz) mc ms (va_A wc sz)) (is : List Nat) (hn : is.Nodup) (hb : ∀ i ∈ is, i < X.length) (hC : is.map (fun i => X[i]?) = wc.map some) (hw : ∀ u, is.length = (w u).length) {R : Int32 → va_W → Prop} (hR : ∀ r u, post r u → R r (setAll X is (w u) ++ pl)) :
    Met l y ws rm (cPre D ak ad av (X ++ pl) sz) (cI D (S := va_W) R (fun L => L) (X ++ pl) sz) mc ms (va_A (X ++ pl) sz) :=
  fr_i (ck := []) (hm.mono (fun _ _ h => h.1) (fun _ _ _ _ _ h => h) (fun _ h => h)) is hn hb hC (fun q h => by cases h) hw hR
end FR
end
section
def upM {α : Type} (f : Nat → α) (k : Nat) (x : α) : Nat → α := fun i => cond (Nat.beq i k) x (f i)
def mi5 (a b c d e : Int32) : Nat → Int32
  | 0 => a
  | 1 => b
  | 2 => c
  | 3 => d
  | _ => e
def ma6 (a b c d e f : Nat → Int32) : Nat → Nat → Int32
  | 0 => a
  | 1 => b
  | 2 => c
  | 3 => d
  | 4 => e
  | _ => f
def ma4 (a b c d : Nat → Int32) : Nat → Nat → Int32
  | 0 => a
  | 1 => b
  | 2 => c
  | _ => d
/-- all cells of the object but those of programmes -/
def XL (ak : Nat → ClassId) (ad : Nat → Nat) (h7 : Nat) (xa ta ra ma wa ga sa la gq mk : Nat → Nat) (ka : Nat → Nat → Nat) (n : Nat) (M : Nat → Nat × (Nat → Int32) × (Nat → Nat → Int32)) (tr : ((Int32) × (Nat → Int32) × (Nat → Nat) × (Nat → Int32) × (Nat → Int64) × (Int32) × (Nat) × (Int32) × (Nat) × (Int32) × (Int64) × (Int32) × (Nat → Int64) × (Nat → Int64) × (Nat → Int32))) (bm : Nat → Int32) (sf : Option Nat) (sn : Int32) (so : Nat → Nat → Int32) (lp : Nat) (lu : Int32) (lt : Int32) (lk : Nat → Int32) (lr : Nat → Nat → Int32) : va_W := [(h7, .inr (6, wob xa)), (xa 0, .inr (5, tob ta (nI n) (tr.1))), (ta 0, .inl (ak 2, 1000, .inl (tr.2.1))), (ta 1, .inl (ak 4, 1001, .inr (.inr (.inr (.inr (tokA ad (tr.2.2.1))))))), (ta 2, .inl (ak 0, 1001, .inl (tr.2.2.2.1))), (ta 3, .inl (ak 1, 1001, .inr (.inl (tr.2.2.2.2.1)))), (xa 2, .inr (3, rob ad ra (xa 0) (tr.2.2.2.2.2.1) (tr.2.2.2.2.2.2.1) (tr.2.2.2.2.2.2.2.1) (tr.2.2.2.2.2.2.2.2.1) (tr.2.2.2.2.2.2.2.2.2.1) (tr.2.2.2.2.2.2.2.2.2.2.1) (tr.2.2.2.2.2.2.2.2.2.2.2.1))), (ra 0, .inl (ak 1, 4, .inr (.inl (tr.2.2.2.2.2.2.2.2.2.2.2.2.1)))), (ra 1, .inl (ak 1, 6, .inr (.inl (tr.2.2.2.2.2.2.2.2.2.2.2.2.2.1)))), (ra 2, .inl (ak 0, 1000, .inl (tr.2.2.2.2.2.2.2.2.2.2.2.2.2.2))), (xa 3, .inr (1, xob ma ((M 0).1) (((M 0).2.1 0)) (((M 0).2.1 1)) (((M 0).2.1 2)) (((M 0).2.1 3)) (((M 0).2.1 4)))), (ma 0, .inl (ak 0, 16, .inl ((M 0).2.2 0))), (ma 1, .inl (ak 0, 16, .inl ((M 0).2.2 1))), (ma 2, .inl (ak 0, 16, .inl ((M 0).2.2 2))), (ma 3, .inl (ak 0, 6, .inl ((M 0).2.2 3))), (ma 4, .inl (ak 0, 200, .inl ((M 0).2.2 4))), (ma 5, .inl (ak 0, 32, .inl ((M 0).2.2 5))), (xa 4, .inr (1, xob wa ((M 1).1) (((M 1).2.1 0)) (((M 1).2.1 1)) (((M 1).2.1 2)) (((M 1).2.1 3)) (((M 1).2.1 4)))), (wa 0, .inl (ak 0, 16, .inl ((M 1).2.2 0))), (wa 1, .inl (ak 0, 16, .inl ((M 1).2.2 1))), (wa 2, .inl (ak 0, 16, .inl ((M 1).2.2 2))), (wa 3, .inl (ak 0, 6, .inl ((M 1).2.2 3))), (wa 4, .inl (ak 0, 1000, .inl ((M 1).2.2 4))), (wa 5, .inl (ak 0, 32, .inl ((M 1).2.2 5))), (xa 5, .inr (1, xob ga ((M 2).1) (((M 2).2.1 0)) (((M 2).2.1 1)) (((M 2).2.1 2)) (((M 2).2.1 3)) (((M 2).2.1 4)))), (ga 0, .inl (ak 0, 16, .inl ((M 2).2.2 0))), (ga 1, .inl (ak 0, 16, .inl ((M 2).2.2 1))), (ga 2, .inl (ak 0, 16, .inl ((M 2).2.2 2))), (ga 3, .inl (ak 0, 6, .inl ((M 2).2.2 3))), (ga 4, .inl (ak 0, 1000, .inl ((M 2).2.2 4))), (ga 5, .inl (ak 0, 32, .inl ((M 2).2.2 5))), (xa 6, .inl (ak 5, 4, .inr (.inr (.inr (.inr (mkA mk)))))), (xa 7, .inl (ak 3, 4, .inl bm)), (mk 0, .inr (1, xob (ka 0) ((M 3).1) (((M 3).2.1 0)) (((M 3).2.1 1)) (((M 3).2.1 2)) (((M 3).2.1 3)) (((M 3).2.1 4)))), ((ka 0) 0, .inl (ak 0, 16, .inl ((M 3).2.2 0))), ((ka 0) 1, .inl (ak 0, 16, .inl ((M 3).2.2 1))), ((ka 0) 2, .inl (ak 0, 16, .inl ((M 3).2.2 2))), ((ka 0) 3, .inl (ak 0, 6, .inl ((M 3).2.2 3))), ((ka 0) 4, .inl (ak 0, 200, .inl ((M 3).2.2 4))), ((ka 0) 5, .inl (ak 0, 32, .inl ((M 3).2.2 5))), (mk 1, .inr (1, xob (ka 1) ((M 4).1) (((M 4).2.1 0)) (((M 4).2.1 1)) (((M 4).2.1 2)) (((M 4).2.1 3)) (((M 4).2.1 4)))), ((ka 1) 0, .inl (ak 0, 16, .inl ((M 4).2.2 0))), ((ka 1) 1, .inl (ak 0, 16, .inl ((M 4).2.2 1))), ((ka 1) 2, .inl (ak 0, 16, .inl ((M 4).2.2 2))), ((ka 1) 3, .inl (ak 0, 6, .inl ((M 4).2.2 3))), ((ka 1) 4, .inl (ak 0, 200, .inl ((M 4).2.2 4))), ((ka 1) 5, .inl (ak 0, 32, .inl ((M 4).2.2 5))), (mk 2, .inr (1, xob (ka 2) ((M 5).1) (((M 5).2.1 0)) (((M 5).2.1 1)) (((M 5).2.1 2)) (((M 5).2.1 3)) (((M 5).2.1 4)))), ((ka 2) 0, .inl (ak 0, 16, .inl ((M 5).2.2 0))), ((ka 2) 1, .inl (ak 0, 16, .inl ((M 5).2.2 1))), ((ka 2) 2, .inl (ak 0, 16, .inl ((M 5).2.2 2))), ((ka 2) 3, .inl (ak 0, 6, .inl ((M 5).2.2 3))), ((ka 2) 4, .inl (ak 0, 200, .inl ((M 5).2.2 4))), ((ka 2) 5, .inl (ak 0, 32, .inl ((M 5).2.2 5))), (mk 3, .inr (1, xob (ka 3) ((M 6).1) (((M 6).2.1 0)) (((M 6).2.1 1)) (((M 6).2.1 2)) (((M 6).2.1 3)) (((M 6).2.1 4)))), ((ka 3) 0, .inl (ak 0, 16, .inl ((M 6).2.2 0))), ((ka 3) 1, .inl (ak 0, 16, .inl ((M 6).2.2 1))), ((ka 3) 2, .inl (ak 0, 16, .inl ((M 6).2.2 2))), ((ka 3) 3, .inl (ak 0, 6, .inl ((M 6).2.2 3))), ((ka 3) 4, .inl (ak 0, 200, .inl ((M 6).2.2 4))), ((ka 3) 5, .inl (ak 0, 32, .inl ((M 6).2.2 5))), (xa 8, .inr (4, sob sa sf sn)), (sa 0, .inl (ak 0, 16, .inl (so 0))), (sa 1, .inl (ak 0, 16, .inl (so 1))), (sa 2, .inl (ak 0, 16, .inl (so 2))), (sa 3, .inl (ak 0, 16, .inl (so 3))), (xa 9, .inr (0, lob la lp lu lt)), (la 0, .inl (ak 0, 16, .inl lk)), (la 1, .inl (ak 6, 17, .inr (.inr (.inr (.inr (grA gq))))))] ++ gRows ak gq lr
theorem XL_len {ak : Nat → ClassId} {ad : Nat → Nat} {h7 : Nat} {xa ta ra ma wa ga sa la gq mk : Nat → Nat} {ka : Nat → Nat → Nat} {n : Nat} {M : Nat → Nat × (Nat → Int32) × (Nat → Nat → Int32)} {tr : ((Int32) × (Nat → Int32) × (Nat → Nat) × (Nat → Int32) × (Nat → Int64) × (Int32) × (Nat) × (Int32) × (Nat) × (Int32) × (Int64) × (Int32) × (Nat → Int64) × (Nat → Int64) × (Nat → Int32))} {bm : Nat → Int32} {sf : Option Nat} {sn : Int32} {so : Nat → Nat → Int32} {lp : Nat} {lu : Int32} {lt : Int32} {lk : Nat → Int32} {lr : Nat → Nat → Int32} : (XL ak ad h7 xa ta ra ma wa ga sa la gq mk ka n M tr bm sf sn so lp lu lt lk lr).length = 86 := rfl
/-- the cells of a programme -/
def PWl (ak : Nat → ClassId) (pg : Nat) (pa : Nat → Nat) (cl : Nat) (x0 x1 x2 x3 : Int32) (be co to_ gc le gr ac sq tg fr mi en cd : Nat → Int32) : va_W := [(pg, .inr (2, pob pa x0 x1 x2 x3)), (pa 0, .inl (ak 0, 4, .inl be)), (pa 1, .inl (ak 0, 4, .inl co)), (pa 2, .inl (ak 0, 6, .inl to_)), (pa 3, .inl (ak 0, 2, .inl gc)), (pa 4, .inl (ak 0, 2, .inl le)), (pa 5, .inl (ak 0, 2, .inl gr)), (pa 6, .inl (ak 0, 16, .inl ac)), (pa 7, .inl (ak 0, 16, .inl sq)), (pa 8, .inl (ak 0, 16, .inl tg)), (pa 9, .inl (ak 0, 16, .inl fr)), (pa 10, .inl (ak 0, 16, .inl mi)), (pa 11, .inl (ak 0, 16, .inl en)), (pa 12, .inl (ak 0, cl, .inl cd))]
/-- a good programme lies in the pool; it is g -/
def PGo (ak : Nat → ClassId) (PL : va_W) (g : PGr) (p : Nat) : Prop := ∃ (pa : Nat → Nat) (cl ps pe pi_ pn : Nat) (be co to_ gc le gr ac sq tg fr mi en cd : Nat → Int32), PK ps pe pi_ pn sq tg cl cd ∧ PQ9 g (nI ps) (nI pe) (nI pi_) (nI pn) be co to_ gc le gr ac sq tg fr mi en cl cd ∧ ∀ q ∈ PWl ak p pa cl (nI ps) (nI pe) (nI pi_) (nI pn) be co to_ gc le gr ac sq tg fr mi en cd, q ∈ PL
/-- a machine stands well, and is m -/
def MI (ak : Nat → ClassId) (PL : va_W) (GA : Nat → PGr) (m : MS) (X : Nat × (Nat → Int32) × (Nat → Nat → Int32)) : Prop := PGo ak PL m.1 X.1 ∧ HC (X.2.1 3) (X.2.1 4) ∧ AS (X.2.2 0) ∧ CMV m (X.2.1 0) (X.2.1 1) (X.2.1 2) (X.2.1 3) (X.2.1 4) (X.2.2 0) (X.2.2 1) (X.2.2 2) (X.2.2 3) (X.2.2 4) ∧ m.1 = GA X.1
theorem PGo.app {ak : Nat → ClassId} {PL w : va_W} {g : PGr} {p : Nat} (h : PGo ak PL g p) : PGo ak (PL ++ w) g p := by
  obtain ⟨pa, cl, ps, pe, pi_, pn, be, co, to_, gc, le, gr, ac, sq, tg, fr, mi, en, cd, h1, h2, h3⟩ := h
  exact ⟨pa, cl, ps, pe, pi_, pn, be, co, to_, gc, le, gr, ac, sq, tg, fr, mi, en, cd, h1, h2, fun q hq => List.mem_append_left _ (h3 q hq)⟩
theorem PGo.eq {ak : Nat → ClassId} {PL : va_W} {g g' : PGr} {p : Nat} (h : PGo ak PL g p) (e : g' = g) : PGo ak PL g' p := by rw [e]; exact h
theorem PGo.mem {ak : Nat → ClassId} {PL : va_W} {g : PGr} {p : Nat} (h : PGo ak PL g p) : ∃ e, (p, e) ∈ PL := by
  obtain ⟨pa, cl, ps, pe, pi_, pn, be, co, to_, gc, le, gr, ac, sq, tg, fr, mi, en, cd, h1, h2, h3⟩ := h
  exact ⟨_, h3 _ List.mem_cons_self⟩
theorem MI.app {ak : Nat → ClassId} {PL w : va_W} {GA GA' : Nat → PGr} {m : MS} {X : Nat × (Nat → Int32) × (Nat → Nat → Int32)} (h : MI ak PL GA m X) (ne : ∀ a, (∃ e, (a, e) ∈ PL) → GA' a = GA a) : MI ak (PL ++ w) GA' m X := ⟨h.1.app, h.2.1, h.2.2.1, h.2.2.2.1, by rw [ne _ h.1.mem]; exact h.2.2.2.2⟩
/-- what the survey and the layout keep, by the programme's address -/
def CKc (PL : va_W) (GA : Nat → PGr) (sf : Option Nat) (sn : Int32) (of by_ pk : Nat → Int32) (lp : Nat) (lk : Nat → Int32) (lr : Nat → Nat → Int32) : Prop := ∀ a, sf = some a → SRg (GA a) a sn of by_ pk lp lk lr ∧ ∃ e, (a, e) ∈ PL
theorem CKc.app {PL w : va_W} {GA GA' : Nat → PGr} {sf : Option Nat} {sn : Int32} {of by_ pk : Nat → Int32} {lp : Nat} {lk : Nat → Int32} {lr : Nat → Nat → Int32} (h : CKc PL GA sf sn of by_ pk lp lk lr) (ne : ∀ a, (∃ e, (a, e) ∈ PL) → GA' a = GA a) : CKc (PL ++ w) GA' sf sn of by_ pk lp lk lr := fun a ea => by
  obtain ⟨c1, c2⟩ := h a ea
  exact ⟨by rw [ne a c2]; exact c1, c2.elim (fun e he => ⟨e, List.mem_append_left _ he⟩)⟩
theorem CKc.kok {PL : va_W} {GA : Nat → PGr} {g : PGr} {p : Nat} (hg : g = GA p) (hp : ∃ e, (p, e) ∈ PL) : KOK (CKc PL GA) g p := fun sn of by_ pk lp lk lr => ⟨fun h => by rw [hg]; exact (h p rfl).1, fun h a ea => by
  have ea : p = a := Option.some.inj ea
  subst ea
  exact ⟨by rw [← hg]; exact h, hp⟩⟩
/-- no address twice -/
def DIS (L : va_W) : Prop := ∀ (i j : Nat) (p q : Nat × va_E), L[i]? = some p → L[j]? = some q → p.1 = q.1 → i = j
theorem dis_ne {X PL W : va_W} {a p : Nat} {e e' : va_E} (hd : DIS (X ++ (PL ++ ((p, e') :: W)))) (h : (a, e) ∈ PL) : ¬ a = p := by
  intro ea
  obtain ⟨i, hi⟩ := List.getElem?_of_mem h
  have hl : i < PL.length := (List.getElem?_eq_some_iff.mp hi).1
  have h1 : (X ++ (PL ++ ((p, e') :: W)))[X.length + i]? = some (a, e) := by
    rw [List.getElem?_append_right (by omega), show X.length + i - X.length = i by omega, List.getElem?_append_left hl]
    exact hi
  have h2 : (X ++ (PL ++ ((p, e') :: W)))[X.length + PL.length]? = some (p, e') := by
    rw [List.getElem?_append_right (by omega), show X.length + PL.length - X.length = PL.length by omega, List.getElem?_append_right (Nat.le_refl _), Nat.sub_self]
    rfl
  have := hd _ _ _ _ h1 h2 ea
  omega
theorem Met.disZ {l : Launch} {y : MethodName} {ws : List Cond} {rm : Room} {D : va_G} {ak : Nat → ClassId} {ad : Nat → Nat} {av : List Value} {L : va_W} {sz mc ms : Nat} {free : Addr → Prop} {R R' : Int32 → va_W → Prop} (h : Met l y ws rm (cPre D ak ad av L sz) (cI D (S := va_W) R (fun L1 => L1) L sz) mc ms free) (hR : ∀ r L1, R r L1 → DIS L1 → R' r L1) : Met l y ws rm (cPre D ak ad av L sz) (cI D (S := va_W) R' (fun L1 => L1) L sz) mc ms free :=
  h.mono (fun _ _ q => q) (fun a s o t _ q => by
    obtain ⟨⟨r, u, h1, h2, h3, h4⟩, h5⟩ := q
    exact ⟨⟨r, u, h1, hR r u h2 h4.1, h3, h4⟩, h5⟩) (fun _ q => q)
/-- what is shown of an object: the signs on the tape; which marks are laid; the hand; the marks -/
abbrev VW : Type := List Nat × (Nat → Bool) × MS × (Nat → MS)
def v0 : VW := ([], fun _ => false, tdG e0g, fun _ => tdG e0g)
def VB4 (v : VW) (bm : Nat → Int32) : Prop := ∀ k, k < 4 → (bm k = 0 ↔ v.2.1 k = false)
/-- another hand -/
abbrev setH (v : VW) (m : MS) : VW := (v.1, v.2.1, m, v.2.2.2)
def s_feed (v : VW) (a b c : Int64) : VW := (fts a b c 24 0 v.1, v.2)
def f_feed (v : VW) (a b c : Int64) : Int32 := nI (fts a b c 24 0 v.1).length
def hdP (v : VW) : MS := match parse v.1 with | .inl _ => v.2.2.1 | .inr g => tdG g
abbrev s_programme (v : VW) : VW := ([], v.2.1, hdP v, v.2.2.2)
def f_programme (v : VW) : Int32 := match parse v.1 with | .inl e => nI e | .inr _ => 0
theorem f_pb {v : VW} {e : Nat} (h : parse v.1 = .inl e) : nI e = f_programme v := by unfold f_programme; rw [h]
theorem f_pg {v : VW} {g : PGr} (h : parse v.1 = .inr g) : (0 : Int32) = f_programme v := by unfold f_programme; rw [h]
theorem hdP_b {v : VW} {e : Nat} (h : parse v.1 = .inl e) : hdP v = v.2.2.1 := by unfold hdP; rw [h]
theorem hdP_g {v : VW} {g : PGr} (h : parse v.1 = .inr g) : hdP v = tdG g := by unfold hdP; rw [h]
def f_mark (v : VW) (k : Nat) (x : Int32) : Int32 := if ¬ x = 0 ∧ v.2.1 k = false then 0 else 1
def s_mark (v : VW) (k : Nat) (x : Int32) : VW := if x = 0 then (v.1, (fun i => if i = k then true else v.2.1 i), v.2.2.1, updS v.2.2.2 k v.2.2.1) else if v.2.1 k = false then v else (v.1, v.2.1, v.2.2.2 k, v.2.2.2)
theorem s_mark_0 {v : VW} {k : Nat} {x : Int32} (h : x = 0) : s_mark v k x = (v.1, (fun i => if i = k then true else v.2.1 i), v.2.2.1, updS v.2.2.2 k v.2.2.1) := if_pos h
theorem s_mark_1 {v : VW} {k : Nat} {x : Int32} (h : ¬ x = 0) (h2 : v.2.1 k = false) : s_mark v k x = v := by unfold s_mark; rw [if_neg h, if_pos h2]
theorem s_mark_2 {v : VW} {k : Nat} {x : Int32} (h : ¬ x = 0) (h2 : ¬ v.2.1 k = false) : s_mark v k x = (v.1, v.2.1, v.2.2.2 k, v.2.2.2) := by unfold s_mark; rw [if_neg h, if_neg h2]
theorem s_mark_t {v : VW} {k : Nat} {x : Int32} : (s_mark v k x).1 = v.1 := by
  by_cases h : x = 0
  · rw [s_mark_0 h]
  · by_cases h2 : v.2.1 k = false
    · rw [s_mark_1 h h2]
    · rw [s_mark_2 h h2]
theorem s_mark_n {v : VW} {k j : Nat} {x : Int32} (hj : ¬ j = k) : (s_mark v k x).2.2.2 j = v.2.2.2 j := by
  by_cases h : x = 0
  · rw [s_mark_0 h]; exact updS_n hj
  · by_cases h2 : v.2.1 k = false
    · rw [s_mark_1 h h2]
    · rw [s_mark_2 h h2]
theorem f_mark_0 {v : VW} {k : Nat} {x : Int32} (h : x = 0) : (1 : Int32) = f_mark v k x := (if_neg (fun z => z.1 h)).symm
theorem f_mark_1 {v : VW} {k : Nat} {x : Int32} (h : ¬ x = 0) (h2 : v.2.1 k = false) : (0 : Int32) = f_mark v k x := (if_pos ⟨h, h2⟩).symm
theorem f_mark_2 {v : VW} {k : Nat} {x : Int32} (h2 : ¬ v.2.1 k = false) : (1 : Int32) = f_mark v k x := (if_neg (fun z => h2 z.2)).symm
theorem vb_mark {v : VW} {bm : Nat → Int32} {k : Nat} {h : MS} {m : Nat → MS} (hV : VB4 v bm) : VB4 (v.1, (fun i => if i = k then true else v.2.1 i), h, m) (upd bm k (vp_nar .boolean 1)) := by
  intro i hi
  show _ ↔ (if i = k then true else v.2.1 i) = false
  by_cases e : i = k
  · subst e
    rw [pk_us, if_pos rfl]
    exact ⟨fun z => absurd z (by decide), fun z => absurd z (by decide)⟩
  · rw [pk_un e, if_neg e]
    exact hV i hi
theorem vb_back {v : VW} {bm : Nat → Int32} {k : Nat} {h : MS} {m : Nat → MS} (hV : VB4 v bm) (hk : k < 4) (hb : ¬ bm k = 0) : VB4 (v.1, v.2.1, h, m) (upd bm k (vp_nar .boolean 1)) := by
  intro i hi
  show _ ↔ v.2.1 i = false
  by_cases e : i = k
  · subst e
    rw [pk_us]
    exact ⟨fun z => absurd z (by decide), fun z => absurd ((hV i hi).mpr z) hb⟩
  · rw [pk_un e]
    exact hV i hi
def f_same (v : VW) (x : Int32) : Int32 := match ixO x 4 with
  | some k => if v.2.1 k = false then -2 else sameM v.2.2.1 (v.2.2.2 k)
  | none => -2
theorem f_same_k {v : VW} {k : Nat} (hk : k < 4) : f_same v (nI k) = if v.2.1 k = false then -2 else sameM v.2.2.1 (v.2.2.2 k) := by
  unfold f_same
  rw [ixO_nI (by decide) hk]
theorem f_same_0 {v : VW} {bm : Nat → Int32} {k : Nat} (h : VB4 v bm) (hk : k < 4) (e : bm k = 0) : (-2 : Int32) = f_same v (nI k) := by rw [f_same_k hk, if_pos ((h k hk).mp e)]
theorem f_same_1 {v : VW} {bm : Nat → Int32} {k : Nat} (h : VB4 v bm) (hk : k < 4) (e : ¬ bm k = 0) : sameM v.2.2.1 (v.2.2.2 k) = f_same v (nI k) := by rw [f_same_k hk, if_neg (fun z => e ((h k hk).mpr z))]
theorem f_same_x {v : VW} {x : Int32} (h : x < 0 ∨ 4 ≤ x) : (-2 : Int32) = f_same v x := by
  unfold f_same
  rcases h with h | h
  · rw [ixO_lt h]
  · rw [ixO_ge (n := 4) h]
/-- the object stands well, and shows v -/
def IX (ak : Nat → ClassId) (ad : Nat → Nat) (h7 : Nat) (v : VW) (L : va_W) : Prop := ∃ (xa ta ra ma wa ga sa la gq mk : Nat → Nat) (ka : Nat → Nat → Nat) (M : Nat → Nat × (Nat → Int32) × (Nat → Nat → Int32)) (tr : ((Int32) × (Nat → Int32) × (Nat → Nat) × (Nat → Int32) × (Nat → Int64) × (Int32) × (Nat) × (Int32) × (Nat) × (Int32) × (Int64) × (Int32) × (Nat → Int64) × (Nat → Int64) × (Nat → Int32))) (bm : Nat → Int32) (sf : Option Nat) (sn : Int32) (so : Nat → Nat → Int32) (lp : Nat) (lu : Int32) (lt : Int32) (lk : Nat → Int32) (lr : Nat → Nat → Int32) (PL : va_W) (GA : Nat → PGr), L = XL ak ad h7 xa ta ra ma wa ga sa la gq mk ka v.1.length M tr bm sf sn so lp lu lt lk lr ++ PL ∧ TL v.1 tr.2.1 ∧ SO sf lp ∧ MI ak PL GA v.2.2.1 (M 0) ∧ MI ak PL GA (v.2.2.2 0) (M 3) ∧ MI ak PL GA (v.2.2.2 1) (M 4) ∧ MI ak PL GA (v.2.2.2 2) (M 5) ∧ MI ak PL GA (v.2.2.2 3) (M 6) ∧ VB4 v bm ∧ CKc PL GA sf sn (so 0) (so 1) (so 2) lp lk lr
theorem st2 {X X1 X2 : va_W} {w : va_W} (is1 is2 : List Nat) (hl : is1.length ≤ w.length) (h1 : setAll X is1 (w.take is1.length) = X1) (h2 : setAll X1 is2 (w.drop is1.length) = X2) : setAll X (is1 ++ is2) w = X2 := by
  subst h1
  subst h2
  induction is1 generalizing X w with
  | nil => rfl
  | cons i is ih =>
    cases w with
    | nil => simp at hl
    | cons q w =>
      show setAll (X.set i q) (is ++ is2) w = setAll (setAll (X.set i q) is (w.take is.length)) is2 (w.drop is.length)
      exact ih (by simpa using hl)
theorem set_tail : ∀ (T P T1 : va_W), T1.length = T.length → setAll (P ++ T) (List.range' P.length T.length) T1 = P ++ T1 := by
  intro T
  induction T with
  | nil =>
    intro P T1 h
    cases T1 with
    | nil => rfl
    | cons q w => simp at h
  | cons x T ih =>
    intro P T1 h
    cases T1 with
    | nil => simp at h
    | cons q w =>
      have h1 := ih (P ++ [q]) w (by simpa using h)
      rw [List.length_append, List.append_assoc, List.append_assoc] at h1
      show setAll ((P ++ x :: T).set P.length q) (List.range' (P.length + 1) T.length) w = _
      rw [List.set_append_right _ _ (Nat.le_refl _), Nat.sub_self]
      exact h1
theorem mem_of_map {ck Pw : va_W} (is : List Nat) (h : is.map (fun i => Pw[i]?) = ck.map some) : ∀ q ∈ ck, q ∈ Pw := by
  intro q hq
  obtain ⟨k, hk⟩ := List.getElem?_of_mem hq
  obtain ⟨i, _, h2⟩ := va_in_of is h hk
  exact List.mem_of_getElem? h2
end
section
set_option maxHeartbeats 4000000 in
set_option maxRecDepth 100000 in
theorem gx_stuff (l : Launch) (D : va_G) (ak : Nat → ClassId) (ad : Nat → Nat) (sz h7 : Nat) (xa ta ra ma wa ga sa la gq mk : Nat → Nat) (ka : Nat → Nat → Nat) (n : Nat) (M : Nat → Nat × (Nat → Int32) × (Nat → Nat → Int32)) (tr : ((Int32) × (Nat → Int32) × (Nat → Nat) × (Nat → Int32) × (Nat → Int64) × (Int32) × (Nat) × (Int32) × (Nat) × (Int32) × (Int64) × (Int32) × (Nat → Int64) × (Nat → Int64) × (Nat → Int32))) (bm : Nat → Int32) (sf : Option Nat) (sn : Int32) (so : Nat → Nat → Int32) (lp : Nat) (lu : Int32) (lt : Int32) (lk : Nat → Int32) (lr : Nat → Nat → Int32) (PL : va_W) (pa : Nat → Nat) (cl ps pe pi_ pn : Nat) (be co to_ gc le gr ac sq tg fr mi en cd : Nat → Int32) (hPL : ∀ q ∈ PWl ak (M 0).1 pa cl (nI ps) (nI pe) (nI pi_) (nI pn) be co to_ gc le gr ac sq tg fr mi en cd, q ∈ PL) (xs : Int32) (xw : Int32) (R : Int32 → va_W → Prop) (hf : wp_X7_stuff (nI ps) be co xs xw (fun (r : Int32)  => R r (XL ak ad h7 xa ta ra ma wa ga sa la gq mk ka n (M) (tr) (bm) (sf) (sn) (so) (lp) (lu) (lt) (lk) (lr) ++ PL))) : Met l yX7_stuff wsX7_stuff ({ frames := 1, cells := 0, slots := 0, locals := 21 }) (cPre D ak ad [.ref h7, .int (xs), .int (xw)] (XL ak ad h7 xa ta ra ma wa ga sa la gq mk ka n M tr bm sf sn so lp lu lt lk lr ++ PL) sz) (cI D (S := va_W) R (fun L1 => L1) (XL ak ad h7 xa ta ra ma wa ga sa la gq mk ka n M tr bm sf sn so lp lu lt lk lr ++ PL) sz) 0 0 (va_A (XL ak ad h7 xa ta ra ma wa ga sa la gq mk ka n M tr bm sf sn so lp lu lt lk lr ++ PL) sz) := by
  exact fr_i (c_X7_stuff l D ak ad sz h7 xa ma (M 0).1 pa ((M 0).2.1 0) ((M 0).2.1 1) ((M 0).2.1 2) ((M 0).2.1 3) ((M 0).2.1 4) (nI ps) (nI pe) (nI pi_) (nI pn) be co xs xw _ hf) [0, 10] (by decide) (by rw [XL_len]; decide) rfl (fun q hq => hPL q (mem_of_map (Pw := PWl ak (M 0).1 pa cl (nI ps) (nI pe) (nI pi_) (nI pn) be co to_ gc le gr ac sq tg fr mi en cd) [0, 1, 2] rfl q hq)) (fun u => rfl) (fun r u h => h)

set_option maxHeartbeats 4000000 in
set_option maxRecDepth 100000 in
theorem gx_line (l : Launch) (D : va_G) (ak : Nat → ClassId) (ad : Nat → Nat) (sz h7 : Nat) (xa ta ra ma wa ga sa la gq mk : Nat → Nat) (ka : Nat → Nat → Nat) (n : Nat) (M : Nat → Nat × (Nat → Int32) × (Nat → Nat → Int32)) (tr : ((Int32) × (Nat → Int32) × (Nat → Nat) × (Nat → Int32) × (Nat → Int64) × (Int32) × (Nat) × (Int32) × (Nat) × (Int32) × (Int64) × (Int32) × (Nat → Int64) × (Nat → Int64) × (Nat → Int32))) (bm : Nat → Int32) (sf : Option Nat) (sn : Int32) (so : Nat → Nat → Int32) (lp : Nat) (lu : Int32) (lt : Int32) (lk : Nat → Int32) (lr : Nat → Nat → Int32) (PL : va_W) (pa : Nat → Nat) (cl ps pe pi_ pn : Nat) (be co to_ gc le gr ac sq tg fr mi en cd : Nat → Int32) (hPL : ∀ q ∈ PWl ak (M 0).1 pa cl (nI ps) (nI pe) (nI pi_) (nI pn) be co to_ gc le gr ac sq tg fr mi en cd, q ∈ PL) (xl : Int32) (xw : Int32) (R : Int32 → va_W → Prop) (hf : wp_X7_line ((M 0).2.2 0) ((M 0).2.2 1) ((M 0).2.2 2) (nI pn) be ac xl xw (fun (r : Int32)  => R r (XL ak ad h7 xa ta ra ma wa ga sa la gq mk ka n (M) (tr) (bm) (sf) (sn) (so) (lp) (lu) (lt) (lk) (lr) ++ PL))) : Met l yX7_line wsX7_line ({ frames := 1, cells := 0, slots := 0, locals := 21 }) (cPre D ak ad [.ref h7, .int (xl), .int (xw)] (XL ak ad h7 xa ta ra ma wa ga sa la gq mk ka n M tr bm sf sn so lp lu lt lk lr ++ PL) sz) (cI D (S := va_W) R (fun L1 => L1) (XL ak ad h7 xa ta ra ma wa ga sa la gq mk ka n M tr bm sf sn so lp lu lt lk lr ++ PL) sz) 0 0 (va_A (XL ak ad h7 xa ta ra ma wa ga sa la gq mk ka n M tr bm sf sn so lp lu lt lk lr ++ PL) sz) := by
  exact fr_i (c_X7_line l D ak ad sz h7 xa ma (M 0).1 pa ((M 0).2.1 0) ((M 0).2.1 1) ((M 0).2.1 2) ((M 0).2.1 3) ((M 0).2.1 4) ((M 0).2.2 0) ((M 0).2.2 1) ((M 0).2.2 2) (nI ps) (nI pe) (nI pi_) (nI pn) be ac xl xw _ hf) [0, 10, 11, 12, 13] (by decide) (by rw [XL_len]; decide) rfl (fun q hq => hPL q (mem_of_map (Pw := PWl ak (M 0).1 pa cl (nI ps) (nI pe) (nI pi_) (nI pn) be co to_ gc le gr ac sq tg fr mi en cd) [0, 1, 7] rfl q hq)) (fun u => rfl) (fun r u h => h)

set_option maxHeartbeats 4000000 in
set_option maxRecDepth 100000 in
theorem gx_lay (l : Launch) (D : va_G) (ak : Nat → ClassId) (ad : Nat → Nat) (sz h7 : Nat) (xa ta ra ma wa ga sa la gq mk : Nat → Nat) (ka : Nat → Nat → Nat) (n : Nat) (M : Nat → Nat × (Nat → Int32) × (Nat → Nat → Int32)) (tr : ((Int32) × (Nat → Int32) × (Nat → Nat) × (Nat → Int32) × (Nat → Int64) × (Int32) × (Nat) × (Int32) × (Nat) × (Int32) × (Int64) × (Int32) × (Nat → Int64) × (Nat → Int64) × (Nat → Int32))) (bm : Nat → Int32) (sf : Option Nat) (sn : Int32) (so : Nat → Nat → Int32) (lp : Nat) (lu : Int32) (lt : Int32) (lk : Nat → Int32) (lr : Nat → Nat → Int32) (PL : va_W) (pa : Nat → Nat) (cl ps pe pi_ pn : Nat) (be co to_ gc le gr ac sq tg fr mi en cd : Nat → Int32) (hPL : ∀ q ∈ PWl ak (M 0).1 pa cl (nI ps) (nI pe) (nI pi_) (nI pn) be co to_ gc le gr ac sq tg fr mi en cd, q ∈ PL) (xl : Int32) (xs : Int32) (xt : Int32) (R : Int32 → va_W → Prop) (hf : wp_X7_lay (nI ps) (nI pn) xl xs xt ((M 0).2.2 0) ((M 0).2.2 1) ((M 0).2.2 2) (fun (r : Int32) (y0 : Nat → Int32) (y1 : Nat → Int32) (y2 : Nat → Int32) => R r (XL ak ad h7 xa ta ra ma wa ga sa la gq mk ka n (upM M 0 ((M 0).1, mi5 ((M 0).2.1 0) ((M 0).2.1 1) ((M 0).2.1 2) ((M 0).2.1 3) ((M 0).2.1 4), ma6 y0 y1 y2 ((M 0).2.2 3) ((M 0).2.2 4) ((M 0).2.2 5))) (tr) (bm) (sf) (sn) (so) (lp) (lu) (lt) (lk) (lr) ++ PL))) : Met l yX7_lay wsX7_lay ({ frames := 1, cells := 0, slots := 0, locals := 21 }) (cPre D ak ad [.ref h7, .int (xl), .int (xs), .int (xt)] (XL ak ad h7 xa ta ra ma wa ga sa la gq mk ka n M tr bm sf sn so lp lu lt lk lr ++ PL) sz) (cI D (S := va_W) R (fun L1 => L1) (XL ak ad h7 xa ta ra ma wa ga sa la gq mk ka n M tr bm sf sn so lp lu lt lk lr ++ PL) sz) 0 0 (va_A (XL ak ad h7 xa ta ra ma wa ga sa la gq mk ka n M tr bm sf sn so lp lu lt lk lr ++ PL) sz) := by
  exact fr_i (c_X7_lay l D ak ad sz h7 xa ma (M 0).1 pa ((M 0).2.1 0) ((M 0).2.1 1) ((M 0).2.1 2) ((M 0).2.1 3) ((M 0).2.1 4) ((M 0).2.2 0) ((M 0).2.2 1) ((M 0).2.2 2) (nI ps) (nI pe) (nI pi_) (nI pn) xl xs xt _ hf) [0, 10, 11, 12, 13] (by decide) (by rw [XL_len]; decide) rfl (fun q hq => hPL q (mem_of_map (Pw := PWl ak (M 0).1 pa cl (nI ps) (nI pe) (nI pi_) (nI pn) be co to_ gc le gr ac sq tg fr mi en cd) [0] rfl q hq)) (fun u => rfl) (fun r u h => Eq.subst (motive := fun Z => R r (Z ++ PL)) (Eq.symm (a := setAll (XL ak ad h7 xa ta ra ma wa ga sa la gq mk ka n M tr bm sf sn so lp lu lt lk lr) [0, 10, 11, 12, 13] (wW_X7_lay ak ad h7 xa ma (M 0).1 ((M 0).2.1 0) ((M 0).2.1 1) ((M 0).2.1 2) ((M 0).2.1 3) ((M 0).2.1 4) u.1 u.2.1 u.2.2)) (b := XL ak ad h7 xa ta ra ma wa ga sa la gq mk ka n (upM M 0 ((M 0).1, mi5 ((M 0).2.1 0) ((M 0).2.1 1) ((M 0).2.1 2) ((M 0).2.1 3) ((M 0).2.1 4), ma6 u.1 u.2.1 u.2.2 ((M 0).2.2 3) ((M 0).2.2 4) ((M 0).2.2 5))) (tr) (bm) (sf) (sn) (so) (lp) (lu) (lt) (lk) (lr)) (rfl)) h)

set_option maxHeartbeats 4000000 in
set_option maxRecDepth 100000 in
theorem gx_cost (l : Launch) (D : va_G) (ak : Nat → ClassId) (ad : Nat → Nat) (sz h7 : Nat) (xa ta ra ma wa ga sa la gq mk : Nat → Nat) (ka : Nat → Nat → Nat) (n : Nat) (M : Nat → Nat × (Nat → Int32) × (Nat → Nat → Int32)) (tr : ((Int32) × (Nat → Int32) × (Nat → Nat) × (Nat → Int32) × (Nat → Int64) × (Int32) × (Nat) × (Int32) × (Nat) × (Int32) × (Int64) × (Int32) × (Nat → Int64) × (Nat → Int64) × (Nat → Int32))) (bm : Nat → Int32) (sf : Option Nat) (sn : Int32) (so : Nat → Nat → Int32) (lp : Nat) (lu : Int32) (lt : Int32) (lk : Nat → Int32) (lr : Nat → Nat → Int32) (PL : va_W) (pa : Nat → Nat) (cl ps pe pi_ pn : Nat) (be co to_ gc le gr ac sq tg fr mi en cd : Nat → Int32) (hPL : ∀ q ∈ PWl ak (M 0).1 pa cl (nI ps) (nI pe) (nI pi_) (nI pn) be co to_ gc le gr ac sq tg fr mi en cd, q ∈ PL)  (R : Int32 → va_W → Prop) (hf : wp_X7_cost ((M 0).2.2 0) ((M 0).2.2 1) (nI pn) co (fun (r : Int32)  => R r (XL ak ad h7 xa ta ra ma wa ga sa la gq mk ka n (M) (tr) (bm) (sf) (sn) (so) (lp) (lu) (lt) (lk) (lr) ++ PL))) : Met l yX7_cost wsX7_cost ({ frames := 0, cells := 0, slots := 0, locals := 0 }) (cPre D ak ad [.ref h7] (XL ak ad h7 xa ta ra ma wa ga sa la gq mk ka n M tr bm sf sn so lp lu lt lk lr ++ PL) sz) (cI D (S := va_W) R (fun L1 => L1) (XL ak ad h7 xa ta ra ma wa ga sa la gq mk ka n M tr bm sf sn so lp lu lt lk lr ++ PL) sz) 0 0 (va_A (XL ak ad h7 xa ta ra ma wa ga sa la gq mk ka n M tr bm sf sn so lp lu lt lk lr ++ PL) sz) := by
  exact fr_i (c_X7_cost l D ak ad sz h7 xa ma (M 0).1 pa ((M 0).2.1 0) ((M 0).2.1 1) ((M 0).2.1 2) ((M 0).2.1 3) ((M 0).2.1 4) ((M 0).2.2 0) ((M 0).2.2 1) (nI ps) (nI pe) (nI pi_) (nI pn) co _ hf) [0, 10, 11, 12] (by decide) (by rw [XL_len]; decide) rfl (fun q hq => hPL q (mem_of_map (Pw := PWl ak (M 0).1 pa cl (nI ps) (nI pe) (nI pi_) (nI pn) be co to_ gc le gr ac sq tg fr mi en cd) [0, 2] rfl q hq)) (fun u => rfl) (fun r u h => h)

set_option maxHeartbeats 4000000 in
set_option maxRecDepth 100000 in
theorem gx_inputs (l : Launch) (D : va_G) (ak : Nat → ClassId) (ad : Nat → Nat) (sz h7 : Nat) (xa ta ra ma wa ga sa la gq mk : Nat → Nat) (ka : Nat → Nat → Nat) (n : Nat) (M : Nat → Nat × (Nat → Int32) × (Nat → Nat → Int32)) (tr : ((Int32) × (Nat → Int32) × (Nat → Nat) × (Nat → Int32) × (Nat → Int64) × (Int32) × (Nat) × (Int32) × (Nat) × (Int32) × (Int64) × (Int32) × (Nat → Int64) × (Nat → Int64) × (Nat → Int32))) (bm : Nat → Int32) (sf : Option Nat) (sn : Int32) (so : Nat → Nat → Int32) (lp : Nat) (lu : Int32) (lt : Int32) (lk : Nat → Int32) (lr : Nat → Nat → Int32) (PL : va_W) (pa : Nat → Nat) (cl ps pe pi_ pn : Nat) (be co to_ gc le gr ac sq tg fr mi en cd : Nat → Int32) (hPL : ∀ q ∈ PWl ak (M 0).1 pa cl (nI ps) (nI pe) (nI pi_) (nI pn) be co to_ gc le gr ac sq tg fr mi en cd, q ∈ PL)  (R : Int32 → va_W → Prop) (hf : wp_X7_inputs (nI pi_) le gr (fun (r : Int32)  => R r (XL ak ad h7 xa ta ra ma wa ga sa la gq mk ka n (M) (tr) (bm) (sf) (sn) (so) (lp) (lu) (lt) (lk) (lr) ++ PL))) : Met l yX7_inputs wsX7_inputs ({ frames := 3, cells := 0, slots := 0, locals := 56 }) (cPre D ak ad [.ref h7] (XL ak ad h7 xa ta ra ma wa ga sa la gq mk ka n M tr bm sf sn so lp lu lt lk lr ++ PL) sz) (cI D (S := va_W) R (fun L1 => L1) (XL ak ad h7 xa ta ra ma wa ga sa la gq mk ka n M tr bm sf sn so lp lu lt lk lr ++ PL) sz) 0 0 (va_A (XL ak ad h7 xa ta ra ma wa ga sa la gq mk ka n M tr bm sf sn so lp lu lt lk lr ++ PL) sz) := by
  exact fr_i (c_X7_inputs l D ak ad sz h7 xa ma (M 0).1 pa ((M 0).2.1 0) ((M 0).2.1 1) ((M 0).2.1 2) ((M 0).2.1 3) ((M 0).2.1 4) (nI ps) (nI pe) (nI pi_) (nI pn) le gr _ hf) [0, 10] (by decide) (by rw [XL_len]; decide) rfl (fun q hq => hPL q (mem_of_map (Pw := PWl ak (M 0).1 pa cl (nI ps) (nI pe) (nI pi_) (nI pn) be co to_ gc le gr ac sq tg fr mi en cd) [0, 5, 6] rfl q hq)) (fun u => rfl) (fun r u h => h)

set_option maxHeartbeats 4000000 in
set_option maxRecDepth 100000 in
theorem gx_input (l : Launch) (D : va_G) (ak : Nat → ClassId) (ad : Nat → Nat) (sz h7 : Nat) (xa ta ra ma wa ga sa la gq mk : Nat → Nat) (ka : Nat → Nat → Nat) (n : Nat) (M : Nat → Nat × (Nat → Int32) × (Nat → Nat → Int32)) (tr : ((Int32) × (Nat → Int32) × (Nat → Nat) × (Nat → Int32) × (Nat → Int64) × (Int32) × (Nat) × (Int32) × (Nat) × (Int32) × (Int64) × (Int32) × (Nat → Int64) × (Nat → Int64) × (Nat → Int32))) (bm : Nat → Int32) (sf : Option Nat) (sn : Int32) (so : Nat → Nat → Int32) (lp : Nat) (lu : Int32) (lt : Int32) (lk : Nat → Int32) (lr : Nat → Nat → Int32) (PL : va_W) (pa : Nat → Nat) (cl ps pe pi_ pn : Nat) (be co to_ gc le gr ac sq tg fr mi en cd : Nat → Int32) (hPL : ∀ q ∈ PWl ak (M 0).1 pa cl (nI ps) (nI pe) (nI pi_) (nI pn) be co to_ gc le gr ac sq tg fr mi en cd, q ∈ PL) (xi : Int32) (xc : Int32) (R : Int32 → va_W → Prop) (hf : wp_X7_input (nI pe) (nI pi_) to_ gc le gr xi xc (fun (r : Int32)  => R r (XL ak ad h7 xa ta ra ma wa ga sa la gq mk ka n (M) (tr) (bm) (sf) (sn) (so) (lp) (lu) (lt) (lk) (lr) ++ PL))) : Met l yX7_input wsX7_input ({ frames := 3, cells := 0, slots := 0, locals := 60 }) (cPre D ak ad [.ref h7, .int (xi), .int (xc)] (XL ak ad h7 xa ta ra ma wa ga sa la gq mk ka n M tr bm sf sn so lp lu lt lk lr ++ PL) sz) (cI D (S := va_W) R (fun L1 => L1) (XL ak ad h7 xa ta ra ma wa ga sa la gq mk ka n M tr bm sf sn so lp lu lt lk lr ++ PL) sz) 0 0 (va_A (XL ak ad h7 xa ta ra ma wa ga sa la gq mk ka n M tr bm sf sn so lp lu lt lk lr ++ PL) sz) := by
  exact fr_i (c_X7_input l D ak ad sz h7 xa ma (M 0).1 pa ((M 0).2.1 0) ((M 0).2.1 1) ((M 0).2.1 2) ((M 0).2.1 3) ((M 0).2.1 4) (nI ps) (nI pe) (nI pi_) (nI pn) to_ gc le gr xi xc _ hf) [0, 10] (by decide) (by rw [XL_len]; decide) rfl (fun q hq => hPL q (mem_of_map (Pw := PWl ak (M 0).1 pa cl (nI ps) (nI pe) (nI pi_) (nI pn) be co to_ gc le gr ac sq tg fr mi en cd) [0, 3, 4, 5, 6] rfl q hq)) (fun u => rfl) (fun r u h => h)

set_option maxHeartbeats 4000000 in
set_option maxRecDepth 100000 in
theorem gx_begin (l : Launch) (D : va_G) (ak : Nat → ClassId) (ad : Nat → Nat) (sz h7 : Nat) (xa ta ra ma wa ga sa la gq mk : Nat → Nat) (ka : Nat → Nat → Nat) (n : Nat) (M : Nat → Nat × (Nat → Int32) × (Nat → Nat → Int32)) (tr : ((Int32) × (Nat → Int32) × (Nat → Nat) × (Nat → Int32) × (Nat → Int64) × (Int32) × (Nat) × (Int32) × (Nat) × (Int32) × (Int64) × (Int32) × (Nat → Int64) × (Nat → Int64) × (Nat → Int32))) (bm : Nat → Int32) (sf : Option Nat) (sn : Int32) (so : Nat → Nat → Int32) (lp : Nat) (lu : Int32) (lt : Int32) (lk : Nat → Int32) (lr : Nat → Nat → Int32) (PL : va_W) (pa : Nat → Nat) (cl ps pe pi_ pn : Nat) (be co to_ gc le gr ac sq tg fr mi en cd : Nat → Int32) (hPL : ∀ q ∈ PWl ak (M 0).1 pa cl (nI ps) (nI pe) (nI pi_) (nI pn) be co to_ gc le gr ac sq tg fr mi en cd, q ∈ PL) (xi : Int32) (R : Int32 → va_W → Prop) (hf : wp_X7_begin (nI pe) (nI pi_) (nI pn) to_ gc le gr xi ((M 0).2.1 1) ((M 0).2.1 2) ((M 0).2.1 3) ((M 0).2.1 4) ((M 0).2.2 3) (fun (r : Int32) (y0 : Int32) (y1 : Int32) (y2 : Int32) (y3 : Int32) (y4 : Nat → Int32) => R r (XL ak ad h7 xa ta ra ma wa ga sa la gq mk ka n (upM M 0 ((M 0).1, mi5 ((M 0).2.1 0) y0 y1 y2 y3, ma6 ((M 0).2.2 0) ((M 0).2.2 1) ((M 0).2.2 2) y4 ((M 0).2.2 4) ((M 0).2.2 5))) (tr) (bm) (sf) (sn) (so) (lp) (lu) (lt) (lk) (lr) ++ PL))) : Met l yX7_begin wsX7_begin ({ frames := 4, cells := 0, slots := 0, locals := 82 }) (cPre D ak ad [.ref h7, .int (xi)] (XL ak ad h7 xa ta ra ma wa ga sa la gq mk ka n M tr bm sf sn so lp lu lt lk lr ++ PL) sz) (cI D (S := va_W) R (fun L1 => L1) (XL ak ad h7 xa ta ra ma wa ga sa la gq mk ka n M tr bm sf sn so lp lu lt lk lr ++ PL) sz) 0 0 (va_A (XL ak ad h7 xa ta ra ma wa ga sa la gq mk ka n M tr bm sf sn so lp lu lt lk lr ++ PL) sz) := by
  exact fr_i (c_X7_begin l D ak ad sz h7 xa ma (M 0).1 pa ((M 0).2.1 0) ((M 0).2.1 1) ((M 0).2.1 2) ((M 0).2.1 3) ((M 0).2.1 4) ((M 0).2.2 3) (nI ps) (nI pe) (nI pi_) (nI pn) to_ gc le gr xi _ hf) [0, 10, 14] (by decide) (by rw [XL_len]; decide) rfl (fun q hq => hPL q (mem_of_map (Pw := PWl ak (M 0).1 pa cl (nI ps) (nI pe) (nI pi_) (nI pn) be co to_ gc le gr ac sq tg fr mi en cd) [0, 3, 4, 5, 6] rfl q hq)) (fun u => rfl) (fun r u h => Eq.subst (motive := fun Z => R r (Z ++ PL)) (Eq.symm (a := setAll (XL ak ad h7 xa ta ra ma wa ga sa la gq mk ka n M tr bm sf sn so lp lu lt lk lr) [0, 10, 14] (wW_X7_begin ak ad h7 xa ma (M 0).1 ((M 0).2.1 0) u.1 u.2.1 u.2.2.1 u.2.2.2.1 u.2.2.2.2)) (b := XL ak ad h7 xa ta ra ma wa ga sa la gq mk ka n (upM M 0 ((M 0).1, mi5 ((M 0).2.1 0) u.1 u.2.1 u.2.2.1 u.2.2.2.1, ma6 ((M 0).2.2 0) ((M 0).2.2 1) ((M 0).2.2 2) u.2.2.2.2 ((M 0).2.2 4) ((M 0).2.2 5))) (tr) (bm) (sf) (sn) (so) (lp) (lu) (lt) (lk) (lr)) (rfl)) h)

set_option maxHeartbeats 4000000 in
set_option maxRecDepth 100000 in
theorem gx_state (l : Launch) (D : va_G) (ak : Nat → ClassId) (ad : Nat → Nat) (sz h7 : Nat) (xa ta ra ma wa ga sa la gq mk : Nat → Nat) (ka : Nat → Nat → Nat) (n : Nat) (M : Nat → Nat × (Nat → Int32) × (Nat → Nat → Int32)) (tr : ((Int32) × (Nat → Int32) × (Nat → Nat) × (Nat → Int32) × (Nat → Int64) × (Int32) × (Nat) × (Int32) × (Nat) × (Int32) × (Int64) × (Int32) × (Nat → Int64) × (Nat → Int64) × (Nat → Int32))) (bm : Nat → Int32) (sf : Option Nat) (sn : Int32) (so : Nat → Nat → Int32) (lp : Nat) (lu : Int32) (lt : Int32) (lk : Nat → Int32) (lr : Nat → Nat → Int32) (PL : va_W) (xw : Int32) (R : Int32 → va_W → Prop) (hf : wp_X7_state ((M 0).2.1 1) ((M 0).2.1 2) ((M 0).2.1 3) ((M 0).2.1 4) xw (fun (r : Int32)  => R r (XL ak ad h7 xa ta ra ma wa ga sa la gq mk ka n (M) (tr) (bm) (sf) (sn) (so) (lp) (lu) (lt) (lk) (lr) ++ PL))) : Met l yX7_state wsX7_state ({ frames := 0, cells := 0, slots := 0, locals := 0 }) (cPre D ak ad [.ref h7, .int (xw)] (XL ak ad h7 xa ta ra ma wa ga sa la gq mk ka n M tr bm sf sn so lp lu lt lk lr ++ PL) sz) (cI D (S := va_W) R (fun L1 => L1) (XL ak ad h7 xa ta ra ma wa ga sa la gq mk ka n M tr bm sf sn so lp lu lt lk lr ++ PL) sz) 0 0 (va_A (XL ak ad h7 xa ta ra ma wa ga sa la gq mk ka n M tr bm sf sn so lp lu lt lk lr ++ PL) sz) := by
  exact fr_i0 (c_X7_state l D ak ad sz h7 xa ma (M 0).1 ((M 0).2.1 0) ((M 0).2.1 1) ((M 0).2.1 2) ((M 0).2.1 3) ((M 0).2.1 4) xw _ hf) [0, 10] (by decide) (by rw [XL_len]; decide) rfl (fun u => rfl) (fun r u h => h)

set_option maxHeartbeats 4000000 in
set_option maxRecDepth 100000 in
theorem gx_fresh (l : Launch) (D : va_G) (ak : Nat → ClassId) (ad : Nat → Nat) (sz h7 : Nat) (xa ta ra ma wa ga sa la gq mk : Nat → Nat) (ka : Nat → Nat → Nat) (n : Nat) (M : Nat → Nat × (Nat → Int32) × (Nat → Nat → Int32)) (tr : ((Int32) × (Nat → Int32) × (Nat → Nat) × (Nat → Int32) × (Nat → Int64) × (Int32) × (Nat) × (Int32) × (Nat) × (Int32) × (Int64) × (Int32) × (Nat → Int64) × (Nat → Int64) × (Nat → Int32))) (bm : Nat → Int32) (sf : Option Nat) (sn : Int32) (so : Nat → Nat → Int32) (lp : Nat) (lu : Int32) (lt : Int32) (lk : Nat → Int32) (lr : Nat → Nat → Int32) (PL : va_W)  (R : Int32 → va_W → Prop) (hf : wp_X7_fresh ((M 0).2.2 2) (fun (r : Int32) (y0 : Nat → Int32) => R r (XL ak ad h7 xa ta ra ma wa ga sa la gq mk ka n (upM M 0 ((M 0).1, mi5 ((M 0).2.1 0) ((M 0).2.1 1) ((M 0).2.1 2) ((M 0).2.1 3) ((M 0).2.1 4), ma6 ((M 0).2.2 0) ((M 0).2.2 1) y0 ((M 0).2.2 3) ((M 0).2.2 4) ((M 0).2.2 5))) (tr) (bm) (sf) (sn) (so) (lp) (lu) (lt) (lk) (lr) ++ PL))) : Met l yX7_fresh wsX7_fresh ({ frames := 1, cells := 0, slots := 0, locals := 23 }) (cPre D ak ad [.ref h7] (XL ak ad h7 xa ta ra ma wa ga sa la gq mk ka n M tr bm sf sn so lp lu lt lk lr ++ PL) sz) (cI D (S := va_W) R (fun L1 => L1) (XL ak ad h7 xa ta ra ma wa ga sa la gq mk ka n M tr bm sf sn so lp lu lt lk lr ++ PL) sz) 0 0 (va_A (XL ak ad h7 xa ta ra ma wa ga sa la gq mk ka n M tr bm sf sn so lp lu lt lk lr ++ PL) sz) := by
  exact fr_i0 (c_X7_fresh l D ak ad sz h7 xa ma (M 0).1 ((M 0).2.1 0) ((M 0).2.1 1) ((M 0).2.1 2) ((M 0).2.1 3) ((M 0).2.1 4) ((M 0).2.2 2) _ hf) [0, 10, 13] (by decide) (by rw [XL_len]; decide) rfl (fun u => rfl) (fun r u h => Eq.subst (motive := fun Z => R r (Z ++ PL)) (Eq.symm (a := setAll (XL ak ad h7 xa ta ra ma wa ga sa la gq mk ka n M tr bm sf sn so lp lu lt lk lr) [0, 10, 13] (wW_X7_fresh ak ad h7 xa ma (M 0).1 ((M 0).2.1 0) ((M 0).2.1 1) ((M 0).2.1 2) ((M 0).2.1 3) ((M 0).2.1 4) u)) (b := XL ak ad h7 xa ta ra ma wa ga sa la gq mk ka n (upM M 0 ((M 0).1, mi5 ((M 0).2.1 0) ((M 0).2.1 1) ((M 0).2.1 2) ((M 0).2.1 3) ((M 0).2.1 4), ma6 ((M 0).2.2 0) ((M 0).2.2 1) u ((M 0).2.2 3) ((M 0).2.2 4) ((M 0).2.2 5))) (tr) (bm) (sf) (sn) (so) (lp) (lu) (lt) (lk) (lr)) (rfl)) h)

set_option maxHeartbeats 4000000 in
set_option maxRecDepth 100000 in
theorem gx_count (l : Launch) (D : va_G) (ak : Nat → ClassId) (ad : Nat → Nat) (sz h7 : Nat) (xa ta ra ma wa ga sa la gq mk : Nat → Nat) (ka : Nat → Nat → Nat) (n : Nat) (M : Nat → Nat × (Nat → Int32) × (Nat → Nat → Int32)) (tr : ((Int32) × (Nat → Int32) × (Nat → Nat) × (Nat → Int32) × (Nat → Int64) × (Int32) × (Nat) × (Int32) × (Nat) × (Int32) × (Int64) × (Int32) × (Nat → Int64) × (Nat → Int64) × (Nat → Int32))) (bm : Nat → Int32) (sf : Option Nat) (sn : Int32) (so : Nat → Nat → Int32) (lp : Nat) (lu : Int32) (lt : Int32) (lk : Nat → Int32) (lr : Nat → Nat → Int32) (PL : va_W) (pa : Nat → Nat) (cl ps pe pi_ pn : Nat) (be co to_ gc le gr ac sq tg fr mi en cd : Nat → Int32) (hPL : ∀ q ∈ PWl ak (M 0).1 pa cl (nI ps) (nI pe) (nI pi_) (nI pn) be co to_ gc le gr ac sq tg fr mi en cd, q ∈ PL) (xw : Int32) (R : Int32 → va_W → Prop) (hf : wp_X7_count (nI n) (nI ps) (nI pe) (nI pi_) (nI pn) xw (fun (r : Int32)  => R r (XL ak ad h7 xa ta ra ma wa ga sa la gq mk ka n (M) (tr) (bm) (sf) (sn) (so) (lp) (lu) (lt) (lk) (lr) ++ PL))) : Met l yX7_count wsX7_count ({ frames := 0, cells := 0, slots := 0, locals := 0 }) (cPre D ak ad [.ref h7, .int (xw)] (XL ak ad h7 xa ta ra ma wa ga sa la gq mk ka n M tr bm sf sn so lp lu lt lk lr ++ PL) sz) (cI D (S := va_W) R (fun L1 => L1) (XL ak ad h7 xa ta ra ma wa ga sa la gq mk ka n M tr bm sf sn so lp lu lt lk lr ++ PL) sz) 0 0 (va_A (XL ak ad h7 xa ta ra ma wa ga sa la gq mk ka n M tr bm sf sn so lp lu lt lk lr ++ PL) sz) := by
  exact fr_i (c_X7_count l D ak ad sz h7 xa ma ta (M 0).1 pa (nI n) tr.1 ((M 0).2.1 0) ((M 0).2.1 1) ((M 0).2.1 2) ((M 0).2.1 3) ((M 0).2.1 4) (nI ps) (nI pe) (nI pi_) (nI pn) xw _ hf) [0, 1, 10] (by decide) (by rw [XL_len]; decide) rfl (fun q hq => hPL q (mem_of_map (Pw := PWl ak (M 0).1 pa cl (nI ps) (nI pe) (nI pi_) (nI pn) be co to_ gc le gr ac sq tg fr mi en cd) [0] rfl q hq)) (fun u => rfl) (fun r u h => h)
end
section
set_option maxHeartbeats 4000000 in
set_option maxRecDepth 100000 in
theorem gx_run (l : Launch) (D : va_G) (ak : Nat → ClassId) (ad : Nat → Nat) (sz h7 : Nat) (xa ta ra ma wa ga sa la gq mk : Nat → Nat) (ka : Nat → Nat → Nat) (n : Nat) (M : Nat → Nat × (Nat → Int32) × (Nat → Nat → Int32)) (tr : ((Int32) × (Nat → Int32) × (Nat → Nat) × (Nat → Int32) × (Nat → Int64) × (Int32) × (Nat) × (Int32) × (Nat) × (Int32) × (Int64) × (Int32) × (Nat → Int64) × (Nat → Int64) × (Nat → Int32))) (bm : Nat → Int32) (sf : Option Nat) (sn : Int32) (so : Nat → Nat → Int32) (lp : Nat) (lu : Int32) (lt : Int32) (lk : Nat → Int32) (lr : Nat → Nat → Int32) (PL : va_W) (pa : Nat → Nat) (cl ps pe pi_ pn : Nat) (be co to_ gc le gr ac sq tg fr mi en cd : Nat → Int32) (hPL : ∀ q ∈ PWl ak (M 0).1 pa cl (nI ps) (nI pe) (nI pi_) (nI pn) be co to_ gc le gr ac sq tg fr mi en cd, q ∈ PL) (xs : Int32) (R : Int32 → va_W → Prop) (hf : wp_X7_run ((M 0).2.1 0) ((M 0).2.2 0) ((M 0).2.2 1) (nI pn) be ac tg fr mi en cd cl xs ((M 0).2.1 1) ((M 0).2.1 2) ((M 0).2.1 3) ((M 0).2.1 4) ((M 0).2.2 2) ((M 0).2.2 3) ((M 0).2.2 4) ((M 0).2.2 5) (fun (r : Int32) (y0 : Int32) (y1 : Int32) (y2 : Int32) (y3 : Int32) (y4 : Nat → Int32) (y5 : Nat → Int32) (y6 : Nat → Int32) (y7 : Nat → Int32) => R r (XL ak ad h7 xa ta ra ma wa ga sa la gq mk ka n (upM M 0 ((M 0).1, mi5 ((M 0).2.1 0) y0 y1 y2 y3, ma6 ((M 0).2.2 0) ((M 0).2.2 1) y4 y5 y6 y7)) (tr) (bm) (sf) (sn) (so) (lp) (lu) (lt) (lk) (lr) ++ PL))) : Met l yX7_run wsX7_run ({ frames := 5, cells := 0, slots := 0, locals := 115 }) (cPre D ak ad [.ref h7, .int (xs)] (XL ak ad h7 xa ta ra ma wa ga sa la gq mk ka n M tr bm sf sn so lp lu lt lk lr ++ PL) sz) (cI D (S := va_W) R (fun L1 => L1) (XL ak ad h7 xa ta ra ma wa ga sa la gq mk ka n M tr bm sf sn so lp lu lt lk lr ++ PL) sz) 0 0 (va_A (XL ak ad h7 xa ta ra ma wa ga sa la gq mk ka n M tr bm sf sn so lp lu lt lk lr ++ PL) sz) := by
  exact fr_i (c_X7_run l D ak ad sz h7 xa ma (M 0).1 pa cl ((M 0).2.1 0) ((M 0).2.1 1) ((M 0).2.1 2) ((M 0).2.1 3) ((M 0).2.1 4) ((M 0).2.2 0) ((M 0).2.2 1) ((M 0).2.2 2) ((M 0).2.2 3) ((M 0).2.2 4) ((M 0).2.2 5) (nI ps) (nI pe) (nI pi_) (nI pn) be ac tg fr mi en cd xs _ hf) [0, 10, 11, 12, 13, 14, 15, 16] (by decide) (by rw [XL_len]; decide) rfl (fun q hq => hPL q (mem_of_map (Pw := PWl ak (M 0).1 pa cl (nI ps) (nI pe) (nI pi_) (nI pn) be co to_ gc le gr ac sq tg fr mi en cd) [0, 1, 7, 9, 10, 11, 12, 13] rfl q hq)) (fun u => rfl) (fun r u h => Eq.subst (motive := fun Z => R r (Z ++ PL)) (Eq.symm (a := setAll (XL ak ad h7 xa ta ra ma wa ga sa la gq mk ka n M tr bm sf sn so lp lu lt lk lr) [0, 10, 11, 12, 13, 14, 15, 16] (wW_X7_run ak ad h7 xa ma (M 0).1 ((M 0).2.1 0) u.1 u.2.1 u.2.2.1 u.2.2.2.1 ((M 0).2.2 0) ((M 0).2.2 1) u.2.2.2.2.1 u.2.2.2.2.2.1 u.2.2.2.2.2.2.1 u.2.2.2.2.2.2.2)) (b := XL ak ad h7 xa ta ra ma wa ga sa la gq mk ka n (upM M 0 ((M 0).1, mi5 ((M 0).2.1 0) u.1 u.2.1 u.2.2.1 u.2.2.2.1, ma6 ((M 0).2.2 0) ((M 0).2.2 1) u.2.2.2.2.1 u.2.2.2.2.2.1 u.2.2.2.2.2.2.1 u.2.2.2.2.2.2.2)) (tr) (bm) (sf) (sn) (so) (lp) (lu) (lt) (lk) (lr)) (rfl)) h)

set_option maxHeartbeats 4000000 in
set_option maxRecDepth 100000 in
theorem gx_steps (l : Launch) (D : va_G) (ak : Nat → ClassId) (ad : Nat → Nat) (sz h7 : Nat) (xa ta ra ma wa ga sa la gq mk : Nat → Nat) (ka : Nat → Nat → Nat) (n : Nat) (M : Nat → Nat × (Nat → Int32) × (Nat → Nat → Int32)) (tr : ((Int32) × (Nat → Int32) × (Nat → Nat) × (Nat → Int32) × (Nat → Int64) × (Int32) × (Nat) × (Int32) × (Nat) × (Int32) × (Int64) × (Int32) × (Nat → Int64) × (Nat → Int64) × (Nat → Int32))) (bm : Nat → Int32) (sf : Option Nat) (sn : Int32) (so : Nat → Nat → Int32) (lp : Nat) (lu : Int32) (lt : Int32) (lk : Nat → Int32) (lr : Nat → Nat → Int32) (PL : va_W) (pa : Nat → Nat) (cl ps pe pi_ pn : Nat) (be co to_ gc le gr ac sq tg fr mi en cd : Nat → Int32) (hPL : ∀ q ∈ PWl ak (M 0).1 pa cl (nI ps) (nI pe) (nI pi_) (nI pn) be co to_ gc le gr ac sq tg fr mi en cd, q ∈ PL) (xi : Int32) (R : Int32 → va_W → Prop) (hf : wp_X7_steps ((M 0).2.2 0) ((M 0).2.2 1) (nI pe) (nI pi_) (nI pn) be to_ gc le gr ac tg fr mi en cd cl (M 0).1 xi (M 1).1 ((M 1).2.1 0) ((M 1).2.1 1) ((M 1).2.1 2) ((M 1).2.1 3) ((M 1).2.1 4) ((M 1).2.2 0) ((M 1).2.2 1) ((M 1).2.2 2) ((M 1).2.2 3) ((M 1).2.2 4) ((M 1).2.2 5) (fun (r : Int32) (y0 : Nat) (y1 : Int32) (y2 : Int32) (y3 : Int32) (y4 : Int32) (y5 : Int32) (y6 : Nat → Int32) (y7 : Nat → Int32) (y8 : Nat → Int32) (y9 : Nat → Int32) (y10 : Nat → Int32) (y11 : Nat → Int32) => R r (XL ak ad h7 xa ta ra ma wa ga sa la gq mk ka n (upM M 1 (y0, mi5 y1 y2 y3 y4 y5, ma6 y6 y7 y8 y9 y10 y11)) (tr) (bm) (sf) (sn) (so) (lp) (lu) (lt) (lk) (lr) ++ PL))) : Met l yX7_steps wsX7_steps ({ frames := 6, cells := 0, slots := 0, locals := 138 }) (cPre D ak ad [.ref h7, .int (xi)] (XL ak ad h7 xa ta ra ma wa ga sa la gq mk ka n M tr bm sf sn so lp lu lt lk lr ++ PL) sz) (cI D (S := va_W) R (fun L1 => L1) (XL ak ad h7 xa ta ra ma wa ga sa la gq mk ka n M tr bm sf sn so lp lu lt lk lr ++ PL) sz) 0 0 (va_A (XL ak ad h7 xa ta ra ma wa ga sa la gq mk ka n M tr bm sf sn so lp lu lt lk lr ++ PL) sz) := by
  exact fr_i (c_X7_steps l D ak ad sz h7 xa ma wa (M 0).1 pa cl ((M 0).2.1 0) ((M 0).2.1 1) ((M 0).2.1 2) ((M 0).2.1 3) ((M 0).2.1 4) ((M 0).2.2 0) ((M 0).2.2 1) (M 1).1 ((M 1).2.1 0) ((M 1).2.1 1) ((M 1).2.1 2) ((M 1).2.1 3) ((M 1).2.1 4) ((M 1).2.2 0) ((M 1).2.2 1) ((M 1).2.2 2) ((M 1).2.2 3) ((M 1).2.2 4) ((M 1).2.2 5) (nI ps) (nI pe) (nI pi_) (nI pn) be to_ gc le gr ac tg fr mi en cd xi _ hf) [0, 10, 11, 12, 17, 18, 19, 20, 21, 22, 23] (by decide) (by rw [XL_len]; decide) rfl (fun q hq => hPL q (mem_of_map (Pw := PWl ak (M 0).1 pa cl (nI ps) (nI pe) (nI pi_) (nI pn) be co to_ gc le gr ac sq tg fr mi en cd) [0, 1, 3, 4, 5, 6, 7, 9, 10, 11, 12, 13] rfl q hq)) (fun u => rfl) (fun r u h => Eq.subst (motive := fun Z => R r (Z ++ PL)) (Eq.symm (a := setAll (XL ak ad h7 xa ta ra ma wa ga sa la gq mk ka n M tr bm sf sn so lp lu lt lk lr) [0, 10, 11, 12, 17, 18, 19, 20, 21, 22, 23] (wW_X7_steps ak ad h7 xa ma wa (M 0).1 ((M 0).2.1 0) ((M 0).2.1 1) ((M 0).2.1 2) ((M 0).2.1 3) ((M 0).2.1 4) ((M 0).2.2 0) ((M 0).2.2 1) u.1 u.2.1 u.2.2.1 u.2.2.2.1 u.2.2.2.2.1 u.2.2.2.2.2.1 u.2.2.2.2.2.2.1 u.2.2.2.2.2.2.2.1 u.2.2.2.2.2.2.2.2.1 u.2.2.2.2.2.2.2.2.2.1 u.2.2.2.2.2.2.2.2.2.2.1 u.2.2.2.2.2.2.2.2.2.2.2)) (b := XL ak ad h7 xa ta ra ma wa ga sa la gq mk ka n (upM M 1 (u.1, mi5 u.2.1 u.2.2.1 u.2.2.2.1 u.2.2.2.2.1 u.2.2.2.2.2.1, ma6 u.2.2.2.2.2.2.1 u.2.2.2.2.2.2.2.1 u.2.2.2.2.2.2.2.2.1 u.2.2.2.2.2.2.2.2.2.1 u.2.2.2.2.2.2.2.2.2.2.1 u.2.2.2.2.2.2.2.2.2.2.2)) (tr) (bm) (sf) (sn) (so) (lp) (lu) (lt) (lk) (lr)) ((st2 (X1 := XL ak ad h7 xa ta ra ma wa ga sa la gq mk ka n (M) (tr) (bm) (sf) (sn) (so) (lp) (lu) (lt) (lk) (lr)) [0, 10, 11, 12] [17, 18, 19, 20, 21, 22, 23] (Nat.le_of_ble_eq_true rfl) rfl rfl))) h)

set_option maxHeartbeats 4000000 in
set_option maxRecDepth 100000 in
theorem gx_falls (l : Launch) (D : va_G) (ak : Nat → ClassId) (ad : Nat → Nat) (sz h7 : Nat) (xa ta ra ma wa ga sa la gq mk : Nat → Nat) (ka : Nat → Nat → Nat) (n : Nat) (M : Nat → Nat × (Nat → Int32) × (Nat → Nat → Int32)) (tr : ((Int32) × (Nat → Int32) × (Nat → Nat) × (Nat → Int32) × (Nat → Int64) × (Int32) × (Nat) × (Int32) × (Nat) × (Int32) × (Int64) × (Int32) × (Nat → Int64) × (Nat → Int64) × (Nat → Int32))) (bm : Nat → Int32) (sf : Option Nat) (sn : Int32) (so : Nat → Nat → Int32) (lp : Nat) (lu : Int32) (lt : Int32) (lk : Nat → Int32) (lr : Nat → Nat → Int32) (PL : va_W) (pa : Nat → Nat) (cl ps pe pi_ pn : Nat) (be co to_ gc le gr ac sq tg fr mi en cd : Nat → Int32) (hPL : ∀ q ∈ PWl ak (M 0).1 pa cl (nI ps) (nI pe) (nI pi_) (nI pn) be co to_ gc le gr ac sq tg fr mi en cd, q ∈ PL) (xi : Int32) (R : Int32 → va_W → Prop) (hf : wp_X7_falls ((M 0).2.2 0) ((M 0).2.2 1) (nI pe) (nI pi_) (nI pn) be to_ gc le gr ac tg fr mi en cd cl (M 0).1 xi (M 1).1 ((M 1).2.1 0) ((M 1).2.1 1) ((M 1).2.1 2) ((M 1).2.1 3) ((M 1).2.1 4) ((M 1).2.2 0) ((M 1).2.2 1) ((M 1).2.2 2) ((M 1).2.2 3) ((M 1).2.2 4) ((M 1).2.2 5) (fun (r : Int32) (y0 : Nat) (y1 : Int32) (y2 : Int32) (y3 : Int32) (y4 : Int32) (y5 : Int32) (y6 : Nat → Int32) (y7 : Nat → Int32) (y8 : Nat → Int32) (y9 : Nat → Int32) (y10 : Nat → Int32) (y11 : Nat → Int32) => R r (XL ak ad h7 xa ta ra ma wa ga sa la gq mk ka n (upM M 1 (y0, mi5 y1 y2 y3 y4 y5, ma6 y6 y7 y8 y9 y10 y11)) (tr) (bm) (sf) (sn) (so) (lp) (lu) (lt) (lk) (lr) ++ PL))) : Met l yX7_falls wsX7_falls ({ frames := 6, cells := 0, slots := 0, locals := 138 }) (cPre D ak ad [.ref h7, .int (xi)] (XL ak ad h7 xa ta ra ma wa ga sa la gq mk ka n M tr bm sf sn so lp lu lt lk lr ++ PL) sz) (cI D (S := va_W) R (fun L1 => L1) (XL ak ad h7 xa ta ra ma wa ga sa la gq mk ka n M tr bm sf sn so lp lu lt lk lr ++ PL) sz) 0 0 (va_A (XL ak ad h7 xa ta ra ma wa ga sa la gq mk ka n M tr bm sf sn so lp lu lt lk lr ++ PL) sz) := by
  exact fr_i (c_X7_falls l D ak ad sz h7 xa ma wa (M 0).1 pa cl ((M 0).2.1 0) ((M 0).2.1 1) ((M 0).2.1 2) ((M 0).2.1 3) ((M 0).2.1 4) ((M 0).2.2 0) ((M 0).2.2 1) (M 1).1 ((M 1).2.1 0) ((M 1).2.1 1) ((M 1).2.1 2) ((M 1).2.1 3) ((M 1).2.1 4) ((M 1).2.2 0) ((M 1).2.2 1) ((M 1).2.2 2) ((M 1).2.2 3) ((M 1).2.2 4) ((M 1).2.2 5) (nI ps) (nI pe) (nI pi_) (nI pn) be to_ gc le gr ac tg fr mi en cd xi _ hf) [0, 10, 11, 12, 17, 18, 19, 20, 21, 22, 23] (by decide) (by rw [XL_len]; decide) rfl (fun q hq => hPL q (mem_of_map (Pw := PWl ak (M 0).1 pa cl (nI ps) (nI pe) (nI pi_) (nI pn) be co to_ gc le gr ac sq tg fr mi en cd) [0, 1, 3, 4, 5, 6, 7, 9, 10, 11, 12, 13] rfl q hq)) (fun u => rfl) (fun r u h => Eq.subst (motive := fun Z => R r (Z ++ PL)) (Eq.symm (a := setAll (XL ak ad h7 xa ta ra ma wa ga sa la gq mk ka n M tr bm sf sn so lp lu lt lk lr) [0, 10, 11, 12, 17, 18, 19, 20, 21, 22, 23] (wW_X7_falls ak ad h7 xa ma wa (M 0).1 ((M 0).2.1 0) ((M 0).2.1 1) ((M 0).2.1 2) ((M 0).2.1 3) ((M 0).2.1 4) ((M 0).2.2 0) ((M 0).2.2 1) u.1 u.2.1 u.2.2.1 u.2.2.2.1 u.2.2.2.2.1 u.2.2.2.2.2.1 u.2.2.2.2.2.2.1 u.2.2.2.2.2.2.2.1 u.2.2.2.2.2.2.2.2.1 u.2.2.2.2.2.2.2.2.2.1 u.2.2.2.2.2.2.2.2.2.2.1 u.2.2.2.2.2.2.2.2.2.2.2)) (b := XL ak ad h7 xa ta ra ma wa ga sa la gq mk ka n (upM M 1 (u.1, mi5 u.2.1 u.2.2.1 u.2.2.2.1 u.2.2.2.2.1 u.2.2.2.2.2.1, ma6 u.2.2.2.2.2.2.1 u.2.2.2.2.2.2.2.1 u.2.2.2.2.2.2.2.2.1 u.2.2.2.2.2.2.2.2.2.1 u.2.2.2.2.2.2.2.2.2.2.1 u.2.2.2.2.2.2.2.2.2.2.2)) (tr) (bm) (sf) (sn) (so) (lp) (lu) (lt) (lk) (lr)) ((st2 (X1 := XL ak ad h7 xa ta ra ma wa ga sa la gq mk ka n (M) (tr) (bm) (sf) (sn) (so) (lp) (lu) (lt) (lk) (lr)) [0, 10, 11, 12] [17, 18, 19, 20, 21, 22, 23] (Nat.le_of_ble_eq_true rfl) rfl rfl))) h)

set_option maxHeartbeats 4000000 in
set_option maxRecDepth 100000 in
theorem gx_first (l : Launch) (D : va_G) (ak : Nat → ClassId) (ad : Nat → Nat) (sz h7 : Nat) (xa ta ra ma wa ga sa la gq mk : Nat → Nat) (ka : Nat → Nat → Nat) (n : Nat) (M : Nat → Nat × (Nat → Int32) × (Nat → Nat → Int32)) (tr : ((Int32) × (Nat → Int32) × (Nat → Nat) × (Nat → Int32) × (Nat → Int64) × (Int32) × (Nat) × (Int32) × (Nat) × (Int32) × (Int64) × (Int32) × (Nat → Int64) × (Nat → Int64) × (Nat → Int32))) (bm : Nat → Int32) (sf : Option Nat) (sn : Int32) (so : Nat → Nat → Int32) (lp : Nat) (lu : Int32) (lt : Int32) (lk : Nat → Int32) (lr : Nat → Nat → Int32) (PL : va_W) (pa : Nat → Nat) (cl ps pe pi_ pn : Nat) (be co to_ gc le gr ac sq tg fr mi en cd : Nat → Int32) (hPL : ∀ q ∈ PWl ak (M 0).1 pa cl (nI ps) (nI pe) (nI pi_) (nI pn) be co to_ gc le gr ac sq tg fr mi en cd, q ∈ PL) (xw : Int32) (R : Int32 → va_W → Prop) (hf : wp_X7_first ((M 0).2.2 0) ((M 0).2.2 1) (nI pe) (nI pi_) (nI pn) be to_ gc le gr ac tg fr mi en cd cl (M 0).1 xw (M 1).1 ((M 1).2.1 0) ((M 1).2.1 1) ((M 1).2.1 2) ((M 1).2.1 3) ((M 1).2.1 4) ((M 1).2.2 0) ((M 1).2.2 1) ((M 1).2.2 2) ((M 1).2.2 3) ((M 1).2.2 4) ((M 1).2.2 5) (fun (r : Int32) (y0 : Nat) (y1 : Int32) (y2 : Int32) (y3 : Int32) (y4 : Int32) (y5 : Int32) (y6 : Nat → Int32) (y7 : Nat → Int32) (y8 : Nat → Int32) (y9 : Nat → Int32) (y10 : Nat → Int32) (y11 : Nat → Int32) => R r (XL ak ad h7 xa ta ra ma wa ga sa la gq mk ka n (upM M 1 (y0, mi5 y1 y2 y3 y4 y5, ma6 y6 y7 y8 y9 y10 y11)) (tr) (bm) (sf) (sn) (so) (lp) (lu) (lt) (lk) (lr) ++ PL))) : Met l yX7_first wsX7_first ({ frames := 7, cells := 0, slots := 0, locals := 162 }) (cPre D ak ad [.ref h7, .int (xw)] (XL ak ad h7 xa ta ra ma wa ga sa la gq mk ka n M tr bm sf sn so lp lu lt lk lr ++ PL) sz) (cI D (S := va_W) R (fun L1 => L1) (XL ak ad h7 xa ta ra ma wa ga sa la gq mk ka n M tr bm sf sn so lp lu lt lk lr ++ PL) sz) 0 0 (va_A (XL ak ad h7 xa ta ra ma wa ga sa la gq mk ka n M tr bm sf sn so lp lu lt lk lr ++ PL) sz) := by
  exact fr_i (c_X7_first l D ak ad sz h7 xa ma wa (M 0).1 pa cl ((M 0).2.1 0) ((M 0).2.1 1) ((M 0).2.1 2) ((M 0).2.1 3) ((M 0).2.1 4) ((M 0).2.2 0) ((M 0).2.2 1) (M 1).1 ((M 1).2.1 0) ((M 1).2.1 1) ((M 1).2.1 2) ((M 1).2.1 3) ((M 1).2.1 4) ((M 1).2.2 0) ((M 1).2.2 1) ((M 1).2.2 2) ((M 1).2.2 3) ((M 1).2.2 4) ((M 1).2.2 5) (nI ps) (nI pe) (nI pi_) (nI pn) be to_ gc le gr ac tg fr mi en cd xw _ hf) [0, 10, 11, 12, 17, 18, 19, 20, 21, 22, 23] (by decide) (by rw [XL_len]; decide) rfl (fun q hq => hPL q (mem_of_map (Pw := PWl ak (M 0).1 pa cl (nI ps) (nI pe) (nI pi_) (nI pn) be co to_ gc le gr ac sq tg fr mi en cd) [0, 1, 3, 4, 5, 6, 7, 9, 10, 11, 12, 13] rfl q hq)) (fun u => rfl) (fun r u h => Eq.subst (motive := fun Z => R r (Z ++ PL)) (Eq.symm (a := setAll (XL ak ad h7 xa ta ra ma wa ga sa la gq mk ka n M tr bm sf sn so lp lu lt lk lr) [0, 10, 11, 12, 17, 18, 19, 20, 21, 22, 23] (wW_X7_first ak ad h7 xa ma wa (M 0).1 ((M 0).2.1 0) ((M 0).2.1 1) ((M 0).2.1 2) ((M 0).2.1 3) ((M 0).2.1 4) ((M 0).2.2 0) ((M 0).2.2 1) u.1 u.2.1 u.2.2.1 u.2.2.2.1 u.2.2.2.2.1 u.2.2.2.2.2.1 u.2.2.2.2.2.2.1 u.2.2.2.2.2.2.2.1 u.2.2.2.2.2.2.2.2.1 u.2.2.2.2.2.2.2.2.2.1 u.2.2.2.2.2.2.2.2.2.2.1 u.2.2.2.2.2.2.2.2.2.2.2)) (b := XL ak ad h7 xa ta ra ma wa ga sa la gq mk ka n (upM M 1 (u.1, mi5 u.2.1 u.2.2.1 u.2.2.2.1 u.2.2.2.2.1 u.2.2.2.2.2.1, ma6 u.2.2.2.2.2.2.1 u.2.2.2.2.2.2.2.1 u.2.2.2.2.2.2.2.2.1 u.2.2.2.2.2.2.2.2.2.1 u.2.2.2.2.2.2.2.2.2.2.1 u.2.2.2.2.2.2.2.2.2.2.2)) (tr) (bm) (sf) (sn) (so) (lp) (lu) (lt) (lk) (lr)) ((st2 (X1 := XL ak ad h7 xa ta ra ma wa ga sa la gq mk ka n (M) (tr) (bm) (sf) (sn) (so) (lp) (lu) (lt) (lk) (lr)) [0, 10, 11, 12] [17, 18, 19, 20, 21, 22, 23] (Nat.le_of_ble_eq_true rfl) rfl rfl))) h)

set_option maxHeartbeats 4000000 in
set_option maxRecDepth 100000 in
theorem gx_rounds (l : Launch) (D : va_G) (ak : Nat → ClassId) (ad : Nat → Nat) (sz h7 : Nat) (xa ta ra ma wa ga sa la gq mk : Nat → Nat) (ka : Nat → Nat → Nat) (n : Nat) (M : Nat → Nat × (Nat → Int32) × (Nat → Nat → Int32)) (tr : ((Int32) × (Nat → Int32) × (Nat → Nat) × (Nat → Int32) × (Nat → Int64) × (Int32) × (Nat) × (Int32) × (Nat) × (Int32) × (Int64) × (Int32) × (Nat → Int64) × (Nat → Int64) × (Nat → Int32))) (bm : Nat → Int32) (sf : Option Nat) (sn : Int32) (so : Nat → Nat → Int32) (lp : Nat) (lu : Int32) (lt : Int32) (lk : Nat → Int32) (lr : Nat → Nat → Int32) (PL : va_W) (pa : Nat → Nat) (cl ps pe pi_ pn : Nat) (be co to_ gc le gr ac sq tg fr mi en cd : Nat → Int32) (hPL : ∀ q ∈ PWl ak (M 0).1 pa cl (nI ps) (nI pe) (nI pi_) (nI pn) be co to_ gc le gr ac sq tg fr mi en cd, q ∈ PL) (xi : Int32) (R : Int32 → va_W → Prop) (hf : wp_X7_rounds ((M 0).2.2 0) ((M 0).2.2 1) (nI pe) (nI pi_) (nI pn) be to_ gc le gr ac tg fr mi en cd cl (M 0).1 xi (M 1).1 ((M 1).2.1 0) ((M 1).2.1 1) ((M 1).2.1 2) ((M 1).2.1 3) ((M 1).2.1 4) ((M 1).2.2 0) ((M 1).2.2 1) ((M 1).2.2 2) ((M 1).2.2 3) ((M 1).2.2 4) ((M 1).2.2 5) (fun (r : Int32) (y0 : Nat) (y1 : Int32) (y2 : Int32) (y3 : Int32) (y4 : Int32) (y5 : Int32) (y6 : Nat → Int32) (y7 : Nat → Int32) (y8 : Nat → Int32) (y9 : Nat → Int32) (y10 : Nat → Int32) (y11 : Nat → Int32) => R r (XL ak ad h7 xa ta ra ma wa ga sa la gq mk ka n (upM M 1 (y0, mi5 y1 y2 y3 y4 y5, ma6 y6 y7 y8 y9 y10 y11)) (tr) (bm) (sf) (sn) (so) (lp) (lu) (lt) (lk) (lr) ++ PL))) : Met l yX7_rounds wsX7_rounds ({ frames := 5, cells := 0, slots := 0, locals := 115 }) (cPre D ak ad [.ref h7, .int (xi)] (XL ak ad h7 xa ta ra ma wa ga sa la gq mk ka n M tr bm sf sn so lp lu lt lk lr ++ PL) sz) (cI D (S := va_W) R (fun L1 => L1) (XL ak ad h7 xa ta ra ma wa ga sa la gq mk ka n M tr bm sf sn so lp lu lt lk lr ++ PL) sz) 0 0 (va_A (XL ak ad h7 xa ta ra ma wa ga sa la gq mk ka n M tr bm sf sn so lp lu lt lk lr ++ PL) sz) := by
  exact fr_i (c_X7_rounds l D ak ad sz h7 xa ma wa (M 0).1 pa cl ((M 0).2.1 0) ((M 0).2.1 1) ((M 0).2.1 2) ((M 0).2.1 3) ((M 0).2.1 4) ((M 0).2.2 0) ((M 0).2.2 1) (M 1).1 ((M 1).2.1 0) ((M 1).2.1 1) ((M 1).2.1 2) ((M 1).2.1 3) ((M 1).2.1 4) ((M 1).2.2 0) ((M 1).2.2 1) ((M 1).2.2 2) ((M 1).2.2 3) ((M 1).2.2 4) ((M 1).2.2 5) (nI ps) (nI pe) (nI pi_) (nI pn) be to_ gc le gr ac tg fr mi en cd xi _ hf) [0, 10, 11, 12, 17, 18, 19, 20, 21, 22, 23] (by decide) (by rw [XL_len]; decide) rfl (fun q hq => hPL q (mem_of_map (Pw := PWl ak (M 0).1 pa cl (nI ps) (nI pe) (nI pi_) (nI pn) be co to_ gc le gr ac sq tg fr mi en cd) [0, 1, 3, 4, 5, 6, 7, 9, 10, 11, 12, 13] rfl q hq)) (fun u => rfl) (fun r u h => Eq.subst (motive := fun Z => R r (Z ++ PL)) (Eq.symm (a := setAll (XL ak ad h7 xa ta ra ma wa ga sa la gq mk ka n M tr bm sf sn so lp lu lt lk lr) [0, 10, 11, 12, 17, 18, 19, 20, 21, 22, 23] (wW_X7_rounds ak ad h7 xa ma wa (M 0).1 ((M 0).2.1 0) ((M 0).2.1 1) ((M 0).2.1 2) ((M 0).2.1 3) ((M 0).2.1 4) ((M 0).2.2 0) ((M 0).2.2 1) u.1 u.2.1 u.2.2.1 u.2.2.2.1 u.2.2.2.2.1 u.2.2.2.2.2.1 u.2.2.2.2.2.2.1 u.2.2.2.2.2.2.2.1 u.2.2.2.2.2.2.2.2.1 u.2.2.2.2.2.2.2.2.2.1 u.2.2.2.2.2.2.2.2.2.2.1 u.2.2.2.2.2.2.2.2.2.2.2)) (b := XL ak ad h7 xa ta ra ma wa ga sa la gq mk ka n (upM M 1 (u.1, mi5 u.2.1 u.2.2.1 u.2.2.2.1 u.2.2.2.2.1 u.2.2.2.2.2.1, ma6 u.2.2.2.2.2.2.1 u.2.2.2.2.2.2.2.1 u.2.2.2.2.2.2.2.2.1 u.2.2.2.2.2.2.2.2.2.1 u.2.2.2.2.2.2.2.2.2.2.1 u.2.2.2.2.2.2.2.2.2.2.2)) (tr) (bm) (sf) (sn) (so) (lp) (lu) (lt) (lk) (lr)) ((st2 (X1 := XL ak ad h7 xa ta ra ma wa ga sa la gq mk ka n (M) (tr) (bm) (sf) (sn) (so) (lp) (lu) (lt) (lk) (lr)) [0, 10, 11, 12] [17, 18, 19, 20, 21, 22, 23] (Nat.le_of_ble_eq_true rfl) rfl rfl))) h)
end
section
set_option maxHeartbeats 4000000 in
set_option maxRecDepth 100000 in
theorem gx_better (l : Launch) (D : va_G) (ak : Nat → ClassId) (ad : Nat → Nat) (sz h7 : Nat) (xa ta ra ma wa ga sa la gq mk : Nat → Nat) (ka : Nat → Nat → Nat) (n : Nat) (M : Nat → Nat × (Nat → Int32) × (Nat → Nat → Int32)) (tr : ((Int32) × (Nat → Int32) × (Nat → Nat) × (Nat → Int32) × (Nat → Int64) × (Int32) × (Nat) × (Int32) × (Nat) × (Int32) × (Int64) × (Int32) × (Nat → Int64) × (Nat → Int64) × (Nat → Int32))) (bm : Nat → Int32) (sf : Option Nat) (sn : Int32) (so : Nat → Nat → Int32) (lp : Nat) (lu : Int32) (lt : Int32) (lk : Nat → Int32) (lr : Nat → Nat → Int32) (PL : va_W) (pa : Nat → Nat) (cl ps pe pi_ pn : Nat) (be co to_ gc le gr ac sq tg fr mi en cd : Nat → Int32) (hPL : ∀ q ∈ PWl ak (M 0).1 pa cl (nI ps) (nI pe) (nI pi_) (nI pn) be co to_ gc le gr ac sq tg fr mi en cd, q ∈ PL) (xw : Int32) (R : Int32 → va_W → Prop) (hf : wp_X7_better ((M 0).2.1 0) ((M 0).2.1 1) ((M 0).2.1 2) ((M 0).2.1 3) ((M 0).2.1 4) ((M 0).2.2 0) ((M 0).2.2 1) ((M 0).2.2 2) ((M 0).2.2 3) ((M 0).2.2 4) (nI pn) be ac tg fr mi en cd cl (M 0).1 xw (M 1).1 ((M 1).2.1 0) ((M 1).2.1 1) ((M 1).2.1 2) ((M 1).2.1 3) ((M 1).2.1 4) ((M 1).2.2 0) ((M 1).2.2 1) ((M 1).2.2 2) ((M 1).2.2 3) ((M 1).2.2 4) ((M 1).2.2 5) (fun (r : Int32) (y0 : Nat) (y1 : Int32) (y2 : Int32) (y3 : Int32) (y4 : Int32) (y5 : Int32) (y6 : Nat → Int32) (y7 : Nat → Int32) (y8 : Nat → Int32) (y9 : Nat → Int32) (y10 : Nat → Int32) (y11 : Nat → Int32) => R r (XL ak ad h7 xa ta ra ma wa ga sa la gq mk ka n (upM M 1 (y0, mi5 y1 y2 y3 y4 y5, ma6 y6 y7 y8 y9 y10 y11)) (tr) (bm) (sf) (sn) (so) (lp) (lu) (lt) (lk) (lr) ++ PL))) : Met l yX7_better wsX7_better ({ frames := 6, cells := 0, slots := 0, locals := 136 }) (cPre D ak ad [.ref h7, .int (xw)] (XL ak ad h7 xa ta ra ma wa ga sa la gq mk ka n M tr bm sf sn so lp lu lt lk lr ++ PL) sz) (cI D (S := va_W) R (fun L1 => L1) (XL ak ad h7 xa ta ra ma wa ga sa la gq mk ka n M tr bm sf sn so lp lu lt lk lr ++ PL) sz) 0 0 (va_A (XL ak ad h7 xa ta ra ma wa ga sa la gq mk ka n M tr bm sf sn so lp lu lt lk lr ++ PL) sz) := by
  exact fr_i (c_X7_better l D ak ad sz h7 xa ma wa (M 0).1 pa cl ((M 0).2.1 0) ((M 0).2.1 1) ((M 0).2.1 2) ((M 0).2.1 3) ((M 0).2.1 4) ((M 0).2.2 0) ((M 0).2.2 1) ((M 0).2.2 2) ((M 0).2.2 3) ((M 0).2.2 4) (M 1).1 ((M 1).2.1 0) ((M 1).2.1 1) ((M 1).2.1 2) ((M 1).2.1 3) ((M 1).2.1 4) ((M 1).2.2 0) ((M 1).2.2 1) ((M 1).2.2 2) ((M 1).2.2 3) ((M 1).2.2 4) ((M 1).2.2 5) (nI ps) (nI pe) (nI pi_) (nI pn) be ac tg fr mi en cd xw _ hf) [0, 10, 11, 12, 13, 14, 15, 17, 18, 19, 20, 21, 22, 23] (by decide) (by rw [XL_len]; decide) rfl (fun q hq => hPL q (mem_of_map (Pw := PWl ak (M 0).1 pa cl (nI ps) (nI pe) (nI pi_) (nI pn) be co to_ gc le gr ac sq tg fr mi en cd) [0, 1, 7, 9, 10, 11, 12, 13] rfl q hq)) (fun u => rfl) (fun r u h => Eq.subst (motive := fun Z => R r (Z ++ PL)) (Eq.symm (a := setAll (XL ak ad h7 xa ta ra ma wa ga sa la gq mk ka n M tr bm sf sn so lp lu lt lk lr) [0, 10, 11, 12, 13, 14, 15, 17, 18, 19, 20, 21, 22, 23] (wW_X7_better ak ad h7 xa ma wa (M 0).1 ((M 0).2.1 0) ((M 0).2.1 1) ((M 0).2.1 2) ((M 0).2.1 3) ((M 0).2.1 4) ((M 0).2.2 0) ((M 0).2.2 1) ((M 0).2.2 2) ((M 0).2.2 3) ((M 0).2.2 4) u.1 u.2.1 u.2.2.1 u.2.2.2.1 u.2.2.2.2.1 u.2.2.2.2.2.1 u.2.2.2.2.2.2.1 u.2.2.2.2.2.2.2.1 u.2.2.2.2.2.2.2.2.1 u.2.2.2.2.2.2.2.2.2.1 u.2.2.2.2.2.2.2.2.2.2.1 u.2.2.2.2.2.2.2.2.2.2.2)) (b := XL ak ad h7 xa ta ra ma wa ga sa la gq mk ka n (upM M 1 (u.1, mi5 u.2.1 u.2.2.1 u.2.2.2.1 u.2.2.2.2.1 u.2.2.2.2.2.1, ma6 u.2.2.2.2.2.2.1 u.2.2.2.2.2.2.2.1 u.2.2.2.2.2.2.2.2.1 u.2.2.2.2.2.2.2.2.2.1 u.2.2.2.2.2.2.2.2.2.2.1 u.2.2.2.2.2.2.2.2.2.2.2)) (tr) (bm) (sf) (sn) (so) (lp) (lu) (lt) (lk) (lr)) ((st2 (X1 := XL ak ad h7 xa ta ra ma wa ga sa la gq mk ka n (M) (tr) (bm) (sf) (sn) (so) (lp) (lu) (lt) (lk) (lr)) [0, 10, 11, 12, 13, 14, 15] [17, 18, 19, 20, 21, 22, 23] (Nat.le_of_ble_eq_true rfl) rfl rfl))) h)

set_option maxHeartbeats 4000000 in
set_option maxRecDepth 100000 in
theorem gx_apart (l : Launch) (D : va_G) (ak : Nat → ClassId) (ad : Nat → Nat) (sz h7 : Nat) (xa ta ra ma wa ga sa la gq mk : Nat → Nat) (ka : Nat → Nat → Nat) (n : Nat) (M : Nat → Nat × (Nat → Int32) × (Nat → Nat → Int32)) (tr : ((Int32) × (Nat → Int32) × (Nat → Nat) × (Nat → Int32) × (Nat → Int64) × (Int32) × (Nat) × (Int32) × (Nat) × (Int32) × (Int64) × (Int32) × (Nat → Int64) × (Nat → Int64) × (Nat → Int32))) (bm : Nat → Int32) (sf : Option Nat) (sn : Int32) (so : Nat → Nat → Int32) (lp : Nat) (lu : Int32) (lt : Int32) (lk : Nat → Int32) (lr : Nat → Nat → Int32) (PL : va_W) (pa : Nat → Nat) (cl ps pe pi_ pn : Nat) (be co to_ gc le gr ac sq tg fr mi en cd : Nat → Int32) (hPL : ∀ q ∈ PWl ak (M 0).1 pa cl (nI ps) (nI pe) (nI pi_) (nI pn) be co to_ gc le gr ac sq tg fr mi en cd, q ∈ PL)  (R : Int32 → va_W → Prop) (hf : wp_X7_apart ((M 0).2.2 0) ((M 0).2.2 1) (nI pe) (nI pi_) (nI pn) be to_ gc le gr ac tg fr mi en cd cl (M 0).1 (M 1).1 ((M 1).2.1 0) ((M 1).2.1 1) ((M 1).2.1 2) ((M 1).2.1 3) ((M 1).2.1 4) ((M 1).2.2 0) ((M 1).2.2 1) ((M 1).2.2 2) ((M 1).2.2 3) ((M 1).2.2 4) ((M 1).2.2 5) (M 2).1 ((M 2).2.1 0) ((M 2).2.1 1) ((M 2).2.1 2) ((M 2).2.1 3) ((M 2).2.1 4) ((M 2).2.2 0) ((M 2).2.2 1) ((M 2).2.2 2) ((M 2).2.2 3) ((M 2).2.2 4) ((M 2).2.2 5) (fun (r : Int32) (y0 : Nat) (y1 : Int32) (y2 : Int32) (y3 : Int32) (y4 : Int32) (y5 : Int32) (y6 : Nat → Int32) (y7 : Nat → Int32) (y8 : Nat → Int32) (y9 : Nat → Int32) (y10 : Nat → Int32) (y11 : Nat → Int32) (y12 : Nat) (y13 : Int32) (y14 : Int32) (y15 : Int32) (y16 : Int32) (y17 : Int32) (y18 : Nat → Int32) (y19 : Nat → Int32) (y20 : Nat → Int32) (y21 : Nat → Int32) (y22 : Nat → Int32) (y23 : Nat → Int32) => R r (XL ak ad h7 xa ta ra ma wa ga sa la gq mk ka n (upM (upM M 1 (y0, mi5 y1 y2 y3 y4 y5, ma6 y6 y7 y8 y9 y10 y11)) 2 (y12, mi5 y13 y14 y15 y16 y17, ma6 y18 y19 y20 y21 y22 y23)) (tr) (bm) (sf) (sn) (so) (lp) (lu) (lt) (lk) (lr) ++ PL))) : Met l yX7_apart wsX7_apart ({ frames := 6, cells := 0, slots := 0, locals := 138 }) (cPre D ak ad [.ref h7] (XL ak ad h7 xa ta ra ma wa ga sa la gq mk ka n M tr bm sf sn so lp lu lt lk lr ++ PL) sz) (cI D (S := va_W) R (fun L1 => L1) (XL ak ad h7 xa ta ra ma wa ga sa la gq mk ka n M tr bm sf sn so lp lu lt lk lr ++ PL) sz) 0 0 (va_A (XL ak ad h7 xa ta ra ma wa ga sa la gq mk ka n M tr bm sf sn so lp lu lt lk lr ++ PL) sz) := by
  exact fr_i (c_X7_apart l D ak ad sz h7 xa ma wa ga (M 0).1 pa cl ((M 0).2.1 0) ((M 0).2.1 1) ((M 0).2.1 2) ((M 0).2.1 3) ((M 0).2.1 4) ((M 0).2.2 0) ((M 0).2.2 1) (M 1).1 ((M 1).2.1 0) ((M 1).2.1 1) ((M 1).2.1 2) ((M 1).2.1 3) ((M 1).2.1 4) ((M 1).2.2 0) ((M 1).2.2 1) ((M 1).2.2 2) ((M 1).2.2 3) ((M 1).2.2 4) ((M 1).2.2 5) (M 2).1 ((M 2).2.1 0) ((M 2).2.1 1) ((M 2).2.1 2) ((M 2).2.1 3) ((M 2).2.1 4) ((M 2).2.2 0) ((M 2).2.2 1) ((M 2).2.2 2) ((M 2).2.2 3) ((M 2).2.2 4) ((M 2).2.2 5) (nI ps) (nI pe) (nI pi_) (nI pn) be to_ gc le gr ac tg fr mi en cd _ hf) [0, 10, 11, 12, 17, 18, 19, 20, 21, 22, 23, 24, 25, 26, 27, 28, 29, 30] (by decide) (by rw [XL_len]; decide) rfl (fun q hq => hPL q (mem_of_map (Pw := PWl ak (M 0).1 pa cl (nI ps) (nI pe) (nI pi_) (nI pn) be co to_ gc le gr ac sq tg fr mi en cd) [0, 1, 3, 4, 5, 6, 7, 9, 10, 11, 12, 13] rfl q hq)) (fun u => rfl) (fun r u h => Eq.subst (motive := fun Z => R r (Z ++ PL)) (Eq.symm (a := setAll (XL ak ad h7 xa ta ra ma wa ga sa la gq mk ka n M tr bm sf sn so lp lu lt lk lr) [0, 10, 11, 12, 17, 18, 19, 20, 21, 22, 23, 24, 25, 26, 27, 28, 29, 30] (wW_X7_apart ak ad h7 xa ma wa ga (M 0).1 ((M 0).2.1 0) ((M 0).2.1 1) ((M 0).2.1 2) ((M 0).2.1 3) ((M 0).2.1 4) ((M 0).2.2 0) ((M 0).2.2 1) u.1 u.2.1 u.2.2.1 u.2.2.2.1 u.2.2.2.2.1 u.2.2.2.2.2.1 u.2.2.2.2.2.2.1 u.2.2.2.2.2.2.2.1 u.2.2.2.2.2.2.2.2.1 u.2.2.2.2.2.2.2.2.2.1 u.2.2.2.2.2.2.2.2.2.2.1 u.2.2.2.2.2.2.2.2.2.2.2.1 u.2.2.2.2.2.2.2.2.2.2.2.2.1 u.2.2.2.2.2.2.2.2.2.2.2.2.2.1 u.2.2.2.2.2.2.2.2.2.2.2.2.2.2.1 u.2.2.2.2.2.2.2.2.2.2.2.2.2.2.2.1 u.2.2.2.2.2.2.2.2.2.2.2.2.2.2.2.2.1 u.2.2.2.2.2.2.2.2.2.2.2.2.2.2.2.2.2.1 u.2.2.2.2.2.2.2.2.2.2.2.2.2.2.2.2.2.2.1 u.2.2.2.2.2.2.2.2.2.2.2.2.2.2.2.2.2.2.2.1 u.2.2.2.2.2.2.2.2.2.2.2.2.2.2.2.2.2.2.2.2.1 u.2.2.2.2.2.2.2.2.2.2.2.2.2.2.2.2.2.2.2.2.2.1 u.2.2.2.2.2.2.2.2.2.2.2.2.2.2.2.2.2.2.2.2.2.2.1 u.2.2.2.2.2.2.2.2.2.2.2.2.2.2.2.2.2.2.2.2.2.2.2)) (b := XL ak ad h7 xa ta ra ma wa ga sa la gq mk ka n (upM (upM M 1 (u.1, mi5 u.2.1 u.2.2.1 u.2.2.2.1 u.2.2.2.2.1 u.2.2.2.2.2.1, ma6 u.2.2.2.2.2.2.1 u.2.2.2.2.2.2.2.1 u.2.2.2.2.2.2.2.2.1 u.2.2.2.2.2.2.2.2.2.1 u.2.2.2.2.2.2.2.2.2.2.1 u.2.2.2.2.2.2.2.2.2.2.2.1)) 2 (u.2.2.2.2.2.2.2.2.2.2.2.2.1, mi5 u.2.2.2.2.2.2.2.2.2.2.2.2.2.1 u.2.2.2.2.2.2.2.2.2.2.2.2.2.2.1 u.2.2.2.2.2.2.2.2.2.2.2.2.2.2.2.1 u.2.2.2.2.2.2.2.2.2.2.2.2.2.2.2.2.1 u.2.2.2.2.2.2.2.2.2.2.2.2.2.2.2.2.2.1, ma6 u.2.2.2.2.2.2.2.2.2.2.2.2.2.2.2.2.2.2.1 u.2.2.2.2.2.2.2.2.2.2.2.2.2.2.2.2.2.2.2.1 u.2.2.2.2.2.2.2.2.2.2.2.2.2.2.2.2.2.2.2.2.1 u.2.2.2.2.2.2.2.2.2.2.2.2.2.2.2.2.2.2.2.2.2.1 u.2.2.2.2.2.2.2.2.2.2.2.2.2.2.2.2.2.2.2.2.2.2.1 u.2.2.2.2.2.2.2.2.2.2.2.2.2.2.2.2.2.2.2.2.2.2.2)) (tr) (bm) (sf) (sn) (so) (lp) (lu) (lt) (lk) (lr)) ((st2 (X1 := XL ak ad h7 xa ta ra ma wa ga sa la gq mk ka n (M) (tr) (bm) (sf) (sn) (so) (lp) (lu) (lt) (lk) (lr)) [0, 10, 11, 12] [17, 18, 19, 20, 21, 22, 23, 24, 25, 26, 27, 28, 29, 30] (Nat.le_of_ble_eq_true rfl) rfl (st2 (X1 := XL ak ad h7 xa ta ra ma wa ga sa la gq mk ka n (upM M 1 (u.1, mi5 u.2.1 u.2.2.1 u.2.2.2.1 u.2.2.2.2.1 u.2.2.2.2.2.1, ma6 u.2.2.2.2.2.2.1 u.2.2.2.2.2.2.2.1 u.2.2.2.2.2.2.2.2.1 u.2.2.2.2.2.2.2.2.2.1 u.2.2.2.2.2.2.2.2.2.2.1 u.2.2.2.2.2.2.2.2.2.2.2.1)) (tr) (bm) (sf) (sn) (so) (lp) (lu) (lt) (lk) (lr)) [17, 18, 19, 20, 21, 22, 23] [24, 25, 26, 27, 28, 29, 30] (Nat.le_of_ble_eq_true rfl) rfl rfl)))) h)
end
