/-- a token: its kind (0 the end, 1 a word, 2 a number, 3 a sign, 4 none), its place, its signs -/
abbrev Tok : Type := Nat × Nat × List Nat
def cB (c : Nat) : Bool := c == 10 || c == 32
def isLt (c : Nat) : Bool := decide (97 ≤ c) && decide (c ≤ 122)
def isDg (c : Nat) : Bool := decide (48 ≤ c) && decide (c ≤ 57)
def cS (c : Nat) : Bool := (decide (40 ≤ c) && decide (c ≤ 43)) || c == 45 || (decide (59 ≤ c) && decide (c ≤ 61))
def sgn (ts : List Nat) (p : Nat) : Nat := ts.getD p 0
def wl (f : Nat → Bool) (ts : List Nat) : Nat → Nat → Nat
  | 0, p => p
  | m + 1, p => if f (sgn ts p) then wl f ts m (p + 1) else p
/-- where the signs that are f end, from p on -/
def wE (f : Nat → Bool) (ts : List Nat) (p : Nat) : Nat := wl f ts (ts.length - p) p
theorem wE_yes {f : Nat → Bool} {ts : List Nat} {p : Nat} (hp : p < ts.length) (h : f (sgn ts p) = true) : wE f ts p = wE f ts (p + 1) := by
  unfold wE
  rw [show ts.length - p = (ts.length - (p + 1)) + 1 by omega]
  show (if f (sgn ts p) then _ else _) = _
  rw [if_pos h]
theorem wE_no {f : Nat → Bool} {ts : List Nat} {p : Nat} (h : ¬ f (sgn ts p) = true) : wE f ts p = p := by
  unfold wE
  cases ts.length - p with
  | zero => rfl
  | succ m =>
    show (if f (sgn ts p) then _ else _) = _
    rw [if_neg h]
theorem wE_end {f : Nat → Bool} {ts : List Nat} {p : Nat} (hp : ts.length ≤ p) : wE f ts p = p := by
  unfold wE
  rw [Nat.sub_eq_zero_of_le hp]
  rfl
theorem wl_ge (f : Nat → Bool) (ts : List Nat) : ∀ m p, p ≤ wl f ts m p ∧ wl f ts m p ≤ p + m := by
  intro m
  induction m with
  | zero => intro p; exact ⟨Nat.le_refl _, Nat.le_refl _⟩
  | succ m ih =>
    intro p
    show p ≤ (if f (sgn ts p) then _ else _) ∧ (if f (sgn ts p) then _ else _) ≤ _
    by_cases h : f (sgn ts p) = true
    · rw [if_pos h]
      have := ih (p + 1)
      omega
    · rw [if_neg h]
      omega
theorem wE_ge {f : Nat → Bool} {ts : List Nat} {p : Nat} : p ≤ wE f ts p := (wl_ge f ts _ p).1
theorem wE_le {f : Nat → Bool} {ts : List Nat} {p : Nat} (hp : p ≤ ts.length) : wE f ts p ≤ ts.length := by
  have := (wl_ge f ts (ts.length - p) p).2
  unfold wE
  omega
/-- the signs from p to q -/
def cut (ts : List Nat) (p q : Nat) : List Nat := (ts.drop p).take (q - p)
theorem cut_len {ts : List Nat} {p q : Nat} (hq : q ≤ ts.length) : (cut ts p q).length = q - p := by
  unfold cut
  rw [List.length_take, List.length_drop]
  omega
theorem cut_nil {ts : List Nat} {p : Nat} : cut ts p p = [] := by
  unfold cut
  rw [Nat.sub_self]
  rfl
theorem sgn_get {ts : List Nat} {p : Nat} (hp : p < ts.length) : ts[p]? = some (sgn ts p) := by
  unfold sgn
  rw [List.getD_eq_getElem?_getD, List.getElem?_eq_getElem hp]
  rfl
theorem cut_sn {ts : List Nat} {p q : Nat} (hp : p ≤ q) (hq : q < ts.length) : cut ts p (q + 1) = cut ts p q ++ [sgn ts q] := by
  unfold cut
  rw [show q + 1 - p = (q - p) + 1 by omega, List.take_add_one, List.getElem?_drop, show p + (q - p) = q by omega, sgn_get hq]
  rfl
def tkAt (ts : List Nat) (p : Nat) : Tok :=
  if isLt (sgn ts p) then (if wE isLt ts p - p ≤ 8 then (1, p, cut ts p (wE isLt ts p)) else (4, p, []))
  else if isDg (sgn ts p) then (if wE isDg ts p - p ≤ 4 then (2, p, cut ts p (wE isDg ts p)) else (4, p, []))
  else if cS (sgn ts p) then (3, p, [sgn ts p]) else (4, p, [])
def tkEnd (ts : List Nat) (p : Nat) : Nat := if isLt (sgn ts p) then wE isLt ts p else if isDg (sgn ts p) then wE isDg ts p else p + 1
theorem tkEnd_gt {ts : List Nat} {p : Nat} (hp : p < ts.length) : p < tkEnd ts p ∧ tkEnd ts p ≤ ts.length := by
  unfold tkEnd
  by_cases h : isLt (sgn ts p) = true
  · rw [if_pos h, wE_yes hp h]
    exact ⟨wE_ge, wE_le hp⟩
  · rw [if_neg h]
    by_cases h : isDg (sgn ts p) = true
    · rw [if_pos h, wE_yes hp h]
      exact ⟨wE_ge, wE_le hp⟩
    · rw [if_neg h]
      omega
def tkf (ts : List Nat) : Nat → Nat → List Tok
  | 0, p => [(0, p, [])]
  | f + 1, p => if p < ts.length then (if cB (sgn ts p) then tkf ts f (p + 1) else tkAt ts p :: tkf ts f (tkEnd ts p)) else [(0, p, [])]
theorem tkf_fuel (ts : List Nat) : ∀ f g p, ts.length - p ≤ f → ts.length - p ≤ g → tkf ts f p = tkf ts g p := by
  intro f
  induction f with
  | zero =>
    intro g p h1 h2
    cases g with
    | zero => rfl
    | succ g =>
      show _ = (if p < ts.length then _ else _)
      rw [if_neg (by omega)]
      rfl
  | succ f ih =>
    intro g p h1 h2
    cases g with
    | zero =>
      show (if p < ts.length then _ else _) = _
      rw [if_neg (by omega)]
      rfl
    | succ g =>
      show (if p < ts.length then _ else _) = (if p < ts.length then _ else _)
      by_cases hp : p < ts.length
      · rw [if_pos hp, if_pos hp]
        have := tkEnd_gt hp
        rw [ih g (p + 1) (by omega) (by omega), ih g (tkEnd ts p) (by omega) (by omega)]
      · rw [if_neg hp, if_neg hp]
/-- the tokens from p on; the last is the end -/
def tokL (ts : List Nat) (p : Nat) : List Tok := tkf ts (ts.length - p) p
theorem tokL_end {ts : List Nat} {p : Nat} (h : ts.length ≤ p) : tokL ts p = [(0, p, [])] := by
  unfold tokL
  rw [Nat.sub_eq_zero_of_le h]
  rfl
theorem tokL_blank {ts : List Nat} {p : Nat} (hp : p < ts.length) (h : cB (sgn ts p) = true) : tokL ts p = tokL ts (p + 1) := by
  unfold tokL
  rw [show ts.length - p = (ts.length - (p + 1)) + 1 by omega]
  show (if p < ts.length then _ else _) = _
  rw [if_pos hp, if_pos h]
theorem tokL_tok {ts : List Nat} {p : Nat} (hp : p < ts.length) (h : ¬ cB (sgn ts p) = true) : tokL ts p = tkAt ts p :: tokL ts (tkEnd ts p) := by
  unfold tokL
  rw [show ts.length - p = (ts.length - (p + 1)) + 1 by omega]
  show (if p < ts.length then _ else _) = _
  have := tkEnd_gt hp
  rw [if_pos hp, if_neg h, tkf_fuel ts _ (ts.length - tkEnd ts p) (tkEnd ts p) (by omega) (Nat.le_refl _)]
theorem tokL_ne {ts : List Nat} : ∀ (k p : Nat), ts.length - p ≤ k → tokL ts p ≠ [] := by
  intro k
  induction k with
  | zero =>
    intro p h
    rw [tokL_end (by omega)]
    exact List.cons_ne_nil _ _
  | succ k ih =>
    intro p h
    by_cases hp : p < ts.length
    · by_cases hb : cB (sgn ts p) = true
      · rw [tokL_blank hp hb]
        exact ih (p + 1) (by omega)
      · rw [tokL_tok hp hb]
        exact List.cons_ne_nil _ _
    · rw [tokL_end (by omega)]
      exact List.cons_ne_nil _ _
/-- to the next token; the end stays -/
def adv : List Tok → List Tok
  | [] => []
  | [k] => [k]
  | _ :: k :: r => k :: r
def eW (l : List Nat) : Int64 := l.foldl (fun w c => ((w * 27) + (nI c).toInt64) - 96) 0
def eB (l : List Nat) : Int64 := l.foldl (fun w c => ((w <<< ((8 : Int32).toInt64 &&& 63)) ||| (nI c).toInt64)) 0
def eN (l : List Nat) : Int32 := l.foldl (fun w c => ((w * 10) + nI c) - 48) 0
def eM (l : List Nat) : Int64 := l.foldl (fun w c => (w * 10) + ((nI c - 48).toInt64)) 0
