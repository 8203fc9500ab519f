/-- what joins two numbers, by the class's number -/
def jn (o : Nat) (x y : Int32) : Int32 := if o = 4 then (if ¬ x = 0 ∧ ¬ y = 0 then 1 else 0) else if o = 5 then (if ¬ x = 0 ∨ ¬ y = 0 then 1 else 0) else if o = 6 then (if x < y then 1 else 0) else if o = 7 then (if x = y then 1 else 0) else if o = 8 then x + y else if o = 9 then x - y else x * y
def nt (x : Int32) : Int32 := if x = 0 then 1 else 0
/-- one code of the class's, worked on a stack (the top is first): what the cells are, how worn the line of a number is -/
def pv1 (ce : Nat → Int32) (wv : Int32 → Int32) (st : List Int32) (c : Nat) : List Int32 :=
  if c % 16 = 0 then nI (c / 16) :: st else if c % 16 = 1 then ce (c / 16) :: st else
  match st with
  | [] => []
  | x :: r => if c % 16 = 2 then wv x :: r else if c % 16 = 3 then nt x :: r else
    match r with
    | [] => [x]
    | y :: s => jn (c % 16) y x :: s
def pvs (ce : Nat → Int32) (wv : Int32 → Int32) (p : List Nat) (st : List Int32) : List Int32 := p.foldl (pv1 ce wv) st
abbrev EF : Type := (Nat → Int32) → (Int32 → Int32) → Int32
/-- the codes p put the number F, and never more than B more lie on the stack -/
def EVp (p : List Nat) (B : Nat) (F : EF) : Prop := ∀ ce wv st, pvs ce wv p st = F ce wv :: st ∧ ∀ k, (pvs ce wv (p.take k) st).length ≤ st.length + B
section EVS
variable {p q : List Nat} {B B' : Nat} {F G : EF}
theorem pvs_app {ce : Nat → Int32} {wv : Int32 → Int32} {st : List Int32} : pvs ce wv (p ++ q) st = pvs ce wv q (pvs ce wv p st) := List.foldl_append
theorem take_or (k : Nat) : (p ++ q).take k = p.take k ∨ (p ++ q).take k = p ++ q.take (k - p.length) := by
  rw [List.take_append]
  by_cases h : k < p.length
  · left
    rw [show k - p.length = 0 by omega, List.take_zero, List.append_nil]
  · right
    rw [List.take_of_length_le (show p.length ≤ k by omega)]
theorem EVp.leaf {c : Nat} {F : EF} (h : ∀ ce wv st, pv1 ce wv st c = F ce wv :: st) : EVp [c] 1 F := by
  intro ce wv st
  refine ⟨h ce wv st, fun k => ?_⟩
  cases k with
  | zero => exact Nat.le_succ _
  | succ k =>
    have : [c].take (k + 1) = [c] := by simp
    rw [this]
    show (pv1 ce wv st c).length ≤ _
    rw [h]
    exact Nat.le_refl _
theorem EVp.mono (h : EVp p B F) (hB : B ≤ B') : EVp p B' F := fun ce wv st => ⟨(h ce wv st).1, fun k => Nat.le_trans ((h ce wv st).2 k) (by omega)⟩
theorem EVp.un {c : Nat} {G : EF} (h : EVp p B F) (hB : 1 ≤ B) (hc : ∀ ce wv x r, pv1 ce wv (x :: r) c = (if c % 16 = 2 then wv x else nt x) :: r) (hG : ∀ ce wv, G ce wv = if c % 16 = 2 then wv (F ce wv) else nt (F ce wv)) : EVp (p ++ [c]) B G := by
  intro ce wv st
  obtain ⟨h1, h2⟩ := h ce wv st
  have e1 : pvs ce wv (p ++ [c]) st = G ce wv :: st := by
    rw [pvs_app, h1]
    show pv1 ce wv _ c = _
    rw [hc, hG]
  refine ⟨e1, fun k => ?_⟩
  rcases take_or (p := p) (q := [c]) k with e | e
  · rw [e]; exact h2 k
  · rw [e]
    cases hk : k - p.length with
    | zero =>
      rw [List.take_zero, List.append_nil, h1, List.length_cons]
      omega
    | succ m =>
      have : [c].take (m + 1) = [c] := by simp
      rw [this, e1, List.length_cons]
      omega
theorem EVp.bin {o : Nat} (h : EVp p B F) (h' : EVp q B' G) (ho : 4 ≤ o) (ho2 : o < 16) : EVp (p ++ q ++ [o]) (max B (B' + 1)) (fun ce wv => jn o (F ce wv) (G ce wv)) := by
  intro ce wv st
  obtain ⟨h1, h2⟩ := h ce wv st
  obtain ⟨g1, g2⟩ := h' ce wv (F ce wv :: st)
  have e0 : pvs ce wv (p ++ q) st = G ce wv :: F ce wv :: st := by rw [pvs_app, h1, g1]
  have e1 : pvs ce wv (p ++ q ++ [o]) st = jn o (F ce wv) (G ce wv) :: st := by
    rw [pvs_app, e0]
    show pv1 ce wv (G ce wv :: F ce wv :: st) o = _
    unfold pv1
    rw [show o % 16 = o from Nat.mod_eq_of_lt ho2, if_neg (by omega), if_neg (by omega)]
    show (if o = 2 then _ else if o = 3 then _ else _) = _
    rw [if_neg (by omega), if_neg (by omega)]
  refine ⟨e1, fun k => ?_⟩
  have hG1 : (G ce wv :: F ce wv :: st).length ≤ st.length + max B (B' + 1) := by
    have := g2 q.length
    rw [List.take_length, g1] at this
    have e : (F ce wv :: st).length = st.length + 1 := rfl
    rw [e] at this
    omega
  rcases take_or (p := p ++ q) (q := [o]) k with e | e
  · rw [e]
    rcases take_or (p := p) (q := q) k with e2 | e2
    · rw [e2]
      have := h2 k
      omega
    · rw [e2, pvs_app, h1]
      have := g2 (k - p.length)
      have e : (F ce wv :: st).length = st.length + 1 := rfl
      rw [e] at this
      omega
  · rw [e]
    cases hk : k - (p ++ q).length with
    | zero => rw [List.take_zero, List.append_nil, e0]; exact hG1
    | succ m =>
      have : [o].take (m + 1) = [o] := by simp
      rw [this, e1]
      have e9 : (G ce wv :: F ce wv :: st).length = st.length + 2 := rfl
      rw [e9] at hG1
      show st.length + 1 ≤ _
      omega
end EVS
