def f_cell (m : MS) (x : Int32) : Option Int32 := if m.2.2.2.1 = 0 then none else match ixO x (nC m.1) with
  | none => none
  | some c => some (m.2.2.2.2.2.2.2.1 c)
def f_wrote (m : MS) (x : Int32) : Option Int32 := match ixO x (min m.2.2.2.2.2.2.2.2.length 200) with
  | none => none
  | some i => m.2.2.2.2.2.2.2.2[i]?
theorem f_cell_n0 {m : MS} {x : Int32} (h : m.2.2.2.1 = 0) : f_cell m x = none := if_pos h
theorem f_cell_n1 {m : MS} {x : Int32} (h : ixO x (nC m.1) = none) : f_cell m x = none := by
  unfold f_cell
  rw [h]
  split <;> rfl
theorem f_cell_s {m : MS} {x : Int32} {j : Nat} (h0 : ¬ m.2.2.2.1 = 0) (h : ixO x (nC m.1) = some j) : f_cell m x = some (m.2.2.2.2.2.2.2.1 j) := by
  unfold f_cell
  rw [if_neg h0, h]
theorem f_wrote_n {m : MS} {x : Int32} (h : ixO x (min m.2.2.2.2.2.2.2.2.length 200) = none) : f_wrote m x = none := by
  unfold f_wrote
  rw [h]
theorem f_wrote_s {m : MS} {x : Int32} {j : Nat} {ke : Nat → Int32} (h : ixO x (min m.2.2.2.2.2.2.2.2.length 200) = some j) (hj : j < min m.2.2.2.2.2.2.2.2.length 200) (hk : KE9 200 m.2.2.2.2.2.2.2.2 ke) : f_wrote m x = some (ke j) := by
  have hl : j < m.2.2.2.2.2.2.2.2.length := by omega
  have e : m.2.2.2.2.2.2.2.2[j]? = some (m.2.2.2.2.2.2.2.2[j]) := List.getElem?_eq_getElem hl
  unfold f_wrote
  rw [h]
  show m.2.2.2.2.2.2.2.2[j]? = _
  rw [e, hk j _ e (by omega)]
section RCL
variable {m : MS} {st ce ip ln be co ca ic il im ac aC ls tw lf lt cd : Nat → Int32} {s n k u th : Int32} {hc wo hs : Nat → Int32}
theorem sq8_cell {x : Int32} {Φ : Int32 → Int32 → Prop} (hR : RPY 0 m st ce ip ln be co ca ic il im ac aC ls tw lf lt cd) (hO : MO9 m) (hM : RH9 m.1 m.2.2.2 s n k u hc wo hs) (h0 : f_cell m x = none → Φ 0 1) (h1 : ∀ r, f_cell m x = some r → Φ r 0) : wl_X8_cell s ce hc x th Φ := by
  have h6 : nC m.1 ≤ 6 := hO.1.2.2.1
  have h4 : m.2.2.2.1 ≤ 4 := hO.2.2.1
  have q : s ≤ 0 ↔ m.2.2.2.1 ≤ 0 := by rw [hM.1]; exact nI_leI (b := 0) (by omega) (by decide)
  unfold wl_X8_cell
  rw [q]
  have no : f_cell m x = none → kl_X8_cell_21 s ce hc x Φ th 1 := fun e => ⟨fun z => absurd rfl z, fun _ => h0 e⟩
  refine ⟨fun z => no (f_cell_n0 (by omega)), fun z => sq8_isCell (N := nC m.1) hR.1.2.1.1 (by omega) (fun e => ⟨fun _ => no (f_cell_n1 e), fun y => absurd rfl y⟩) (fun j hj ej e => ⟨fun y => absurd y (by decide), fun _ => ⟨fun _ _ => ?_, fun y => absurd y (by decide)⟩⟩)⟩
  rw [ej, nI_clamp (n := j) (by omega), (hM.2.2.1 (by omega)).2.2.1 j hj]
  exact h1 _ (f_cell_s (by omega) e)
theorem sq8_wrote {x : Int32} {Φ : Int32 → Int32 → Prop} (hO : MO9 m) (hM : RH9 m.1 m.2.2.2 s n k u hc wo hs) (h0 : f_wrote m x = none → Φ 0 1) (h1 : ∀ r, f_wrote m x = some r → Φ r 0) : wl_X8_wrote s u hs x th Φ := by
  have h4 : m.2.2.2.1 ≤ 4 := hO.2.2.1
  have hl : m.2.2.2.2.2.2.2.2.length ≤ m.2.2.2.2.2.1 := hO.2.2.2.2.2.1
  have hl2 : m.2.2.2.2.2.1 ≤ 1000000 := hO.2.2.2.2.2.2.1
  have q : s ≤ 0 ↔ m.2.2.2.1 ≤ 0 := by rw [hM.1]; exact nI_leI (b := 0) (by omega) (by decide)
  have no : f_wrote m x = none → kl_X8_wrote_31 s u hs x Φ th 1 := fun e => ⟨fun z => absurd rfl z, fun _ => h0 e⟩
  unfold wl_X8_wrote
  rw [q]
  refine ⟨fun z => no (f_wrote_n ?_), fun z => ?_⟩
  · have e : m.2.2.2.2.2.2.2.2 = [] := (hO.2.2.2.2.2.2.2 (by omega)).2.2
    rw [e]
    show ixO x 0 = none
    by_cases y : x < 0
    · exact ixO_lt y
    · exact ixO_ge (n := 0) (Int32.not_lt.mp y)
  · have eu : (if u < (200 : Int32) then u else (200 : Int32)) = nI (min m.2.2.2.2.2.2.2.2.length 200) := by
      rw [(hM.2.2.1 (by omega)).2.1, show (200 : Int32) = nI 200 from rfl, if_min (by omega) (by decide)]
    rw [eu]
    refine ⟨fun y => no (f_wrote_n (ixO_lt y)), fun y => ⟨fun y2 => no (f_wrote_n (ixO_ge y2)), fun y2 => ⟨fun _ _ => ?_, fun y3 => absurd y3 (by decide)⟩⟩⟩
    obtain ⟨j, hj, ej, e⟩ := ixO_in (by omega) y y2
    have ew := f_wrote_s e hj (hM.2.2.1 (by omega)).2.2.2
    rw [ej, nI_clamp (n := j) (by omega)]
    exact h1 _ ew
end RCL
