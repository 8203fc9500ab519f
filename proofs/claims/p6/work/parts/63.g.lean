def gRows (ak : Nat → ClassId) (gq : Nat → Nat) (L : Nat → Nat → Int32) : va_W := [(gq 0, .inl (ak 0, 65, .inl (L 0))), (gq 1, .inl (ak 0, 65, .inl (L 1))), (gq 2, .inl (ak 0, 65, .inl (L 2))), (gq 3, .inl (ak 0, 65, .inl (L 3))), (gq 4, .inl (ak 0, 65, .inl (L 4))), (gq 5, .inl (ak 0, 65, .inl (L 5))), (gq 6, .inl (ak 0, 65, .inl (L 6))), (gq 7, .inl (ak 0, 65, .inl (L 7))), (gq 8, .inl (ak 0, 65, .inl (L 8))), (gq 9, .inl (ak 0, 65, .inl (L 9))), (gq 10, .inl (ak 0, 65, .inl (L 10))), (gq 11, .inl (ak 0, 65, .inl (L 11))), (gq 12, .inl (ak 0, 65, .inl (L 12))), (gq 13, .inl (ak 0, 65, .inl (L 13))), (gq 14, .inl (ak 0, 65, .inl (L 14))), (gq 15, .inl (ak 0, 65, .inl (L 15))), (gq 16, .inl (ak 0, 65, .inl (L 16)))]
def updR (L : Nat → Nat → Int32) (k : Nat) (f : Nat → Int32) : Nat → Nat → Int32 := fun j => if j = k then f else L j
def grA (gq : Nat → Nat) : Nat → Option Nat := fun i => if i < 17 then some (gq i) else none
theorem gr_at {ak : Nat → ClassId} {gq : Nat → Nat} {L : Nat → Nat → Int32} : ∀ {k : Nat}, k < 17 → (gRows ak gq L)[k]? = some (gq k, .inl (ak 0, 65, .inl (L k)))
  | 0, _ => rfl
  | 1, _ => rfl
  | 2, _ => rfl
  | 3, _ => rfl
  | 4, _ => rfl
  | 5, _ => rfl
  | 6, _ => rfl
  | 7, _ => rfl
  | 8, _ => rfl
  | 9, _ => rfl
  | 10, _ => rfl
  | 11, _ => rfl
  | 12, _ => rfl
  | 13, _ => rfl
  | 14, _ => rfl
  | 15, _ => rfl
  | 16, _ => rfl
  | k + 17, h => absurd h (by omega)
theorem gr_set {ak : Nat → ClassId} {gq : Nat → Nat} {L : Nat → Nat → Int32} {f : Nat → Int32} : ∀ {k : Nat}, k < 17 → (gRows ak gq L).set k (gq k, .inl (ak 0, 65, .inl f)) = gRows ak gq (updR L k f)
  | 0, _ => rfl
  | 1, _ => rfl
  | 2, _ => rfl
  | 3, _ => rfl
  | 4, _ => rfl
  | 5, _ => rfl
  | 6, _ => rfl
  | 7, _ => rfl
  | 8, _ => rfl
  | 9, _ => rfl
  | 10, _ => rfl
  | 11, _ => rfl
  | 12, _ => rfl
  | 13, _ => rfl
  | 14, _ => rfl
  | 15, _ => rfl
  | 16, _ => rfl
  | k + 17, h => absurd h (by omega)
theorem vp_lt {i : Int32} {n : Nat} (h : vp_in i n) : i.toNatClampNeg < n := Nat.not_le.mp fun q => h (Or.inr q)
theorem gw_at {pre : va_W} {ak : Nat → ClassId} {gq : Nat → Nat} {L : Nat → Nat → Int32} {k : Nat} (n : Nat) (hn : pre.length = n) (h : k < 17) : (pre ++ gRows ak gq L)[n + k]? = some (gq k, .inl (ak 0, 65, .inl (L k))) := by
  subst hn
  rw [List.getElem?_append_right (by omega), Nat.add_sub_cancel_left]
  exact gr_at h
theorem gw_set {pre : va_W} {ak : Nat → ClassId} {gq : Nat → Nat} {L : Nat → Nat → Int32} {k : Nat} {f : Nat → Int32} (n : Nat) (hn : pre.length = n) (h : k < 17) : (pre ++ gRows ak gq L).set (n + k) (gq k, .inl (ak 0, 65, .inl f)) = pre ++ gRows ak gq (updR L k f) := by
  subst hn
  rw [List.set_append_right _ _ (by omega), Nat.add_sub_cancel_left, gr_set h]
section GRS
variable {p : Program} {l : Launch} {e : Env} {R : Room} {s : State} {m : MethodId} {args : Array Value} {below : List Frame} {meth : Method} {c : Code} {H : Heap} {locs : List Loc} {cells slots : Nat} {Q : State → Prop}
variable {cc : ByteArray} {pc : Nat} {ls : Array Slot} {rest st0 : List Value} {D : va_G} {A : Nat → Prop} {a : Nat} {ws : va_W} {ak : Nat → ClassId} {aa : Array Value} {mc ms : Nat}
theorem kg_ald {gq : Nat → Nat} (hexec : p.tables.exec = Jvm.exec) (hb : c.code = cc) (hE : EV D ak s) (hP : va_P D vwCl ws H) (q0 : Nat) (ha : ws[q0]? = some (a, .inl (ak 6, 17, .inr (.inr (.inr (.inr (grA gq))))))) {i : Int32} (hin : vp_in i 17) (hdg : decode cc pc = .ok (.aaload, 1))
    (kk : W p l e R s m args below meth c H locs cells slots Q (F0 m (pc + 1) ls (.ref (gq i.toNatClampNeg) :: rest))) : W p l e R s m args below meth c H locs cells slots Q (F0 m pc ls (.int i :: .ref a :: rest)) := by
  have hlt : i.toNatClampNeg < 17 := vp_lt hin
  have hv : va_rf (grA gq i.toNatClampNeg) = .ref (gq i.toNatClampNeg) := by unfold grA; rw [if_pos hlt]; rfl
  refine W.aald (v := va_rf (grA gq i.toNatClampNeg)) (ty := .array .int) hexec hb (hP q0 _ ha) ((hE.1.2 6 _ rfl).1 17 (fun j => va_rf (grA gq j))) rfl (fun q => by cases q) (by show ¬ (i < 0 ∨ (arrV _ _ _).slots.size ≤ _); rw [arrV_size]; exact hin) (by show (arrV _ _ _).slots[_]? = _; rw [arrV_read _ _ hlt]) rfl rfl hdg ?_
  rw [hv]
  exact kk
theorem kc_v1 {S : Type} {post : S → Prop} {w : S → va_W} {w1 : S → va_E} {q : Nat × va_E} (hP : va_P D vwCl ws H) (hD : va_D A ws) (hS : va_S A s.heap H locs) (hA : ∀ q, s.heap.size ≤ q → A q) (i : Nat) (he : ws[i]? = some q) (hw1 : ∀ u, w u = [(q.1, w1 u)])
    (hr : va_Run p l e R s m args below meth c H locs cells slots mc ms (F0 m pc ls st0) rest (cV D post w [q] H.size aa) (va_A [q] H.size))
    (kk : ∀ (u : S) (H1 : Heap) (locs1 : List Loc), post u → va_P D vwCl (ws.set i (q.1, w1 u)) H1 → va_D A (ws.set i (q.1, w1 u)) → va_S A s.heap H1 locs1 → W p l e R s m args below meth c H1 locs1 (cells + mc) (slots + ms) Q (F0 m (pc + 3) ls rest)) : W p l e R s m args below meth c H locs cells slots Q (F0 m pc ls st0) := by
  have hF : ∀ x, va_A [q] H.size x → A x := by
    intro x hx
    rcases hx with ⟨k, e1, hk⟩ | hx
    · match k, hk with
      | 0, hk => cases hk; exact hD.2 i _ he
      | k + 1, hk => cases hk
    · exact hA x (Nat.le_trans hS.1 hx)
  refine va_callv hr hS (fun x _ h => hF x h) hF (fun u t H1 locs1 ht hvm hw hB hz hk hS1 => ?_)
  obtain ⟨hP1, hD1⟩ := hB
  rw [ht, hw1 u] at hP1
  refine kk u H1 locs1 hw ?_ (hD.set he) hS1
  intro k p hp
  by_cases hki : i = k
  · subst hki
    have hlt : i < ws.length := (List.getElem?_eq_some_iff.mp he).1
    rw [List.getElem?_set_self hlt] at hp
    cases hp
    exact hP1 0 _ rfl
  · rw [List.getElem?_set_ne hki] at hp
    have hat := hP k p hp
    refine hat.kept (hk p.1 hat.lt ?_)
    intro hx
    rcases hx with ⟨j, e1, hj⟩ | hx
    · match j, hj with
      | 0, hj =>
        have e2 : q = (p.1, e1) := Option.some.inj (hj : some q = some (p.1, e1))
        exact hki (hD.1 i k q p he hp (by rw [e2]))
      | j + 1, hj => cases hj
    · exact absurd hat.lt (Nat.not_lt.mpr hx)
theorem kc_pre1 {ad : Nat → Nat} {As : List Value} {q : Nat × va_E} (hE : EV D ak s) (hT : ST D ak ad A s s.heap) (hP : va_P D vwCl ws H) (hD : va_D A ws) (hS : va_S A s.heap H locs) (hA : ∀ q, s.heap.size ≤ q → A q) (i : Nat) (he : ws[i]? = some q) : PreS s H (cPre D ak ad As [q] H.size) As :=
  kc_pre (As := As) hE hT hP hD hS hA [i] (by simp [va_nd]) (by simp [he]) (by simp [he])
end GRS
