section LC
variable {D : va_G} {ak : Nat → ClassId} {ad : Nat → Nat} {s : State} {H : Heap} {A : Nat → Prop} {U C V : va_W} {locs : List Loc}
/-- a callee's row in the middle of the law's -/
theorem lc_mid (k : Nat) (q : Nat × va_E) (h : C[k]? = some q) : (U ++ (C ++ V))[U.length + k]? = some q := by
  rw [List.getElem?_append_right (by omega), Nat.add_sub_cancel_left, List.getElem?_append_left (List.getElem?_eq_some_iff.mp h).1]
  exact h
theorem lc_free (hD : va_D A (U ++ (C ++ V))) (hS : va_S A s.heap H locs) (hA : ∀ q, s.heap.size ≤ q → A q) : ∀ q, va_A C H.size q → A q := by
  intro q h
  rcases h with ⟨k, e, h⟩ | h
  · exact hD.2 _ (q, e) (lc_mid k _ h)
  · exact hA q (Nat.le_trans hS.1 h)
theorem lc_pre {As : List Value} (hE : EV D ak s) (hT : ST D ak ad A s s.heap) (hP : va_P D vwCl (U ++ (C ++ V)) H) (hD : va_D A (U ++ (C ++ V))) (hS : va_S A s.heap H locs) (hA : ∀ q, s.heap.size ≤ q → A q) : PreS s H (cPre D ak ad As C H.size) As := by
  refine ⟨cPre.blind, fun W hU hW => ⟨rfl, by rw [hU], by rw [hU]; exact fun k q hk => hP _ q (lc_mid k q hk), hE.warm hW, ⟨fun i j p q hi hj e => ?_, fun _ _ _ => trivial⟩, ?_⟩⟩
  · have := hD.1 _ _ p q (lc_mid i p hi) (lc_mid j q hj) e
    omega
  · rw [hU]
    exact ((hT.kept hS.2.1).narrow (lc_free hD hS hA)).moved hW.alike
theorem lc_join {H1 : Heap} {C1 : va_W} (hP : va_P D vwCl (U ++ (C ++ V)) H) (hD : va_D A (U ++ (C ++ V))) (hF : ∀ q, va_A C H.size q → A q) (hk : ∀ q : Nat, q < H.size → ¬ va_A C H.size q → H1[q]? = H[q]?) (hP1 : va_P D vwCl C1 H1) (hD1 : va_D (va_A C H.size) C1) : va_P D vwCl (U ++ (C1 ++ V)) H1 ∧ va_D A (U ++ (C1 ++ V)) := by
  have kind : ∀ (k : Nat) (q : Nat × va_E), (U ++ (C1 ++ V))[k]? = some q → (∃ j, C1[j]? = some q ∧ k = U.length + j) ∨ (∃ i, (U ++ (C ++ V))[i]? = some q ∧ ((k = i ∧ k < U.length) ∨ (U.length + C1.length ≤ k ∧ i = k - C1.length + C.length))) := by
    intro k q hq
    by_cases h1 : k < U.length
    · rw [List.getElem?_append_left h1] at hq
      exact Or.inr ⟨k, by rw [List.getElem?_append_left h1]; exact hq, Or.inl ⟨rfl, h1⟩⟩
    · rw [List.getElem?_append_right (by omega)] at hq
      by_cases h2 : k - U.length < C1.length
      · rw [List.getElem?_append_left h2] at hq
        exact Or.inl ⟨k - U.length, hq, by omega⟩
      · rw [List.getElem?_append_right (by omega)] at hq
        refine Or.inr ⟨k - C1.length + C.length, ?_, Or.inr ⟨by omega, rfl⟩⟩
        rw [List.getElem?_append_right (by omega), List.getElem?_append_right (by omega), show k - C1.length + C.length - U.length - C.length = k - U.length - C1.length by omega]
        exact hq
  have apart : ∀ (i : Nat) (q : Nat × va_E), (U ++ (C ++ V))[i]? = some q → (i < U.length ∨ U.length + C.length ≤ i) → ¬ va_A C H.size q.1 := by
    intro i q hq hi h
    rcases h with ⟨k2, e, h⟩ | h
    · have := hD.1 i _ q (q.1, e) hq (lc_mid k2 _ h) rfl
      have := (List.getElem?_eq_some_iff.mp h).1
      omega
    · have := (hP i q hq).lt
      omega
  refine ⟨fun k q hq => ?_, fun i j p q hi hj e => ?_, fun k q hq => ?_⟩
  · rcases kind k q hq with ⟨j, h1, _⟩ | ⟨i, h1, h2⟩
    · exact hP1 j q h1
    · exact (hP i q h1).kept (hk q.1 (hP i q h1).lt (apart i q h1 (by omega)))
  · rcases kind i p hi with ⟨x, h1, h1'⟩ | ⟨x, h1, h1'⟩ <;> rcases kind j q hj with ⟨y, h3, h3'⟩ | ⟨y, h3, h3'⟩
    · have := hD1.1 x y p q h1 h3 e
      omega
    · exact absurd (e ▸ hD1.2 x p h1) (apart y q h3 (by omega))
    · exact absurd (e.symm ▸ hD1.2 y q h3) (apart x p h1 (by omega))
    · have := hD.1 x y p q h1 h3 e
      omega
  · rcases kind k q hq with ⟨j, h1, _⟩ | ⟨i, h1, _⟩
    · exact hF _ (hD1.2 j q h1)
    · exact hD.2 i q h1
end LC
section LD
variable {p : Program} {l : Launch} {e : Env} {R : Room} {s : State} {m : MethodId} {args : Array Value} {below : List Frame} {meth : Method} {c : Code} {H : Heap} {locs : List Loc} {cells slots : Nat} {Q : State → Prop}
variable {pc : Nat} {ls : Array Slot} {rest st0 : List Value} {a : Array Value} {A : Nat → Prop} {mc ms : Nat} {D : va_G} {U C V : va_W}
/-- the law's call of a method whose contract speaks of its object's whole row -/
theorem lc_i {R1 : Int32 → va_W → Prop} (hP : va_P D vwCl (U ++ (C ++ V)) H) (hD : va_D A (U ++ (C ++ V))) (hS : va_S A s.heap H locs) (hA : ∀ q, s.heap.size ≤ q → A q)
    (hr : va_Run p l e R s m args below meth c H locs cells slots mc ms (F0 m pc ls st0) rest (cI D (S := va_W) R1 (fun L => L) C H.size a) (va_A C H.size))
    (kk : ∀ (r : Int32) (C1 : va_W) (H1 : Heap) (locs1 : List Loc), R1 r C1 → va_P D vwCl (U ++ (C1 ++ V)) H1 → va_D A (U ++ (C1 ++ V)) → va_S A s.heap H1 locs1 → W p l e R s m args below meth c H1 locs1 (cells + mc) (slots + ms) Q (F0 m (pc + 3) ls (.int r :: rest))) : W p l e R s m args below meth c H locs cells slots Q (F0 m pc ls st0) := by
  have hF := lc_free hD hS hA
  refine va_calli hr hS (fun q _ h => hF q h) hF (fun r u t H1 locs1 ht hvm hw hB hz hk hS1 => ?_)
  obtain ⟨hP1, hD1⟩ := hB
  rw [ht] at hP1
  obtain ⟨h1, h2⟩ := lc_join hP hD hF hk hP1 hD1
  exact kk r u H1 locs1 hw h1 h2 hS1
end LD
