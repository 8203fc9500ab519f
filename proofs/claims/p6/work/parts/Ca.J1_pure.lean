def hdt (L : List Tok) : Tok := L.headD (0, 0, [])
/-- the fault of a kind at the token that is next -/
def flt (k : Nat) (L : List Tok) : Nat := k + 16 * (hdt L).2.1
def num (k : Tok) : Nat := min 9999 (k.2.2.foldl (fun a c => a * 10 + (c - 48)) 0)
def fndF : List (List Nat) → List Nat → Nat → Option Nat
  | [], _, _ => none
  | n :: ns, w, i => if n = w then some i else fndF ns w (i + 1)
/-- the place of a name among names -/
def fnd (ns : List (List Nat)) (w : List Nat) : Option Nat := fndF ns w 0
def lvT : List Nat := [4, 4, 4, 4, 4, 4, 4, 1, 1, 2, 2, 3, 4, 4, 4, 4, 4, 4, 4, 4, 4, 4, 4, 4, 4, 4, 4, 4, 4, 0, 0]
def inT : List Nat := [0, 0, 0, 0, 0, 0, 0, 24, 25, 20, 21, 22, 0, 0, 0, 0, 0, 0, 0, 0, 0, 0, 0, 0, 0, 0, 0, 0, 0, 26, 27]
def poT : List Nat := [0, 0, 0, 0, 0, 0, 0, 6, 7, 8, 9, 10, 0, 0, 0, 0, 0, 0, 0, 0, 0, 0, 0, 0, 0, 0, 0, 0, 0, 4, 5]
/-- at which level a token joins (4: not at all); the reference's number of it, the class's -/
def lvl (k : Tok) : Nat := lvT.getD (ix k) 4
def inf (k : Tok) : Nat := inT.getD (ix k) 0
def pof (k : Tok) : Nat := poT.getD (ix k) 0
def bnd {α β : Type} (x : Nat ⊕ α) (f : α → Nat ⊕ β) : Nat ⊕ β := match x with
  | .inl e => .inl e
  | .inr a => f a
/-- what is read: a fault, or a value and the tokens that are left -/
abbrev PRs (α : Type) : Type := Nat ⊕ (α × List Tok)
def sq0 {α : Type} (x : PRs α) (g : α → List Tok → Nat ⊕ List Tok) : PRs α := bnd x fun y => bnd (g y.1 y.2) fun L => .inr (y.1, L)
def sq1 {α β : Type} (x : PRs α) (g : α → List Tok → PRs β) : PRs (α × β) := bnd x fun y => bnd (g y.1 y.2) fun z => .inr ((y.1, z.1), z.2)
def pAdv (L : List Tok) : Nat ⊕ List Tok := .inr (adv L)
def pSay (w : Nat) (L : List Tok) : Nat ⊕ List Tok := if ix (hdt L) = w then .inr L else .inl (flt 1 L)
def pIf (c : Bool) (k : Nat) (L : List Tok) : Nat ⊕ List Tok := if c then .inl (flt k L) else .inr L
def pNum (lo hi : Nat) (L : List Tok) : PRs Nat := if ix (hdt L) = 2 then (if lo ≤ num (hdt L) ∧ num (hdt L) ≤ hi then .inr (num (hdt L), L) else .inl (flt 4 L)) else .inl (flt 1 L)
def pNew (sn cn : List (List Nat)) (L : List Tok) : PRs (List Nat) := if ix (hdt L) = 3 then (if (hdt L).2.2 ∈ sn ∨ (hdt L).2.2 ∈ cn then .inl (flt 3 L) else .inr ((hdt L).2.2, L)) else .inl (flt 1 L)
def pTold (ns : List (List Nat)) (L : List Tok) : PRs Nat := if ix (hdt L) = 3 then (match fnd ns (hdt L).2.2 with | none => .inl (flt 2 L) | some c => .inr (c, L)) else .inl (flt 1 L)
/-- a number, a name, a sign or word, each taken -/
def tN {α : Type} (x : PRs α) (lo hi : α → Nat) : PRs (α × Nat) := sq0 (sq1 x fun a => pNum (lo a) (hi a)) fun _ => pAdv
def tW {α : Type} (x : PRs α) (sn cn : List (List Nat)) : PRs (α × List Nat) := sq0 (sq1 x fun _ => pNew sn cn) fun _ => pAdv
def tO {α : Type} (x : PRs α) (ns : List (List Nat)) : PRs (α × Nat) := sq0 (sq1 x fun _ => pTold ns) fun _ => pAdv
def tX {α : Type} (x : PRs α) (w : Nat) : PRs α := sq0 (sq0 x fun _ => pSay w) fun _ => pAdv
/-- infix and postfix of an expression -/
abbrev EC : Type := List Nat × List Nat
def pLp (g : List Tok → PRs EC) (lv : Nat) : Nat → EC × List Tok → PRs EC
  | 0, r => .inr r
  | m + 1, r => if lvl (hdt r.2) = lv then bnd (g (adv r.2)) fun s => pLp g lv m ((r.1.1 ++ inf (hdt r.2) :: s.1.1, r.1.2 ++ s.1.2 ++ [pof (hdt r.2)]), s.2) else .inr r
def pPa (cn : List (List Nat)) (gE gP : List Tok → PRs EC) (ne : Nat) (L : List Tok) : PRs EC :=
  if ix (hdt L) = 3 then bnd (pTold cn L) fun y => if 5 ≤ ne then .inl (flt 5 L) else .inr (([1 + y.1], [1 + 16 * y.1]), adv L)
  else if ix (hdt L) = 2 ∨ ix (hdt L) = 4 ∨ ix (hdt L) = 27 ∨ ix (hdt L) = 28 then (if 5 ≤ ne then .inl (flt 5 L)
    else if ix (hdt L) = 2 then .inr (([100 + num (hdt L)], [16 * num (hdt L)]), adv L)
    else if ix (hdt L) = 4 then bnd (gE (adv L)) fun s => (if ix (hdt s.2) = 5 then .inr ((28 :: (s.1.1 ++ [29]), s.1.2), adv s.2) else .inl (flt 1 s.2))
    else bnd (gP (adv L)) fun s => .inr (((if ix (hdt L) = 27 then 31 else 30) :: s.1.1, s.1.2 ++ [if ix (hdt L) = 27 then 2 else 3]), s.2))
  else .inl (flt 1 L)
def pEP (cn : List (List Nat)) : Nat → (Nat → Nat → List Tok → PRs EC) × (Nat → List Tok → PRs EC)
  | 0 => (fun _ _ _ => .inl 0, fun _ _ => .inl 0)
  | n + 1 => (fun lv ne L => if lv < 4 then bnd ((pEP cn n).1 (lv + 1) ne L) (pLp ((pEP cn n).1 (lv + 1) ne) lv (if lv = 1 then 1 else 1000)) else (pEP cn n).2 ne L, fun ne L => pPa cn ((pEP cn n).1 0 (ne + 1)) ((pEP cn n).2 (ne + 1)) ne L)
def tE {α : Type} (x : PRs α) (cn : List (List Nat)) : PRs (α × EC) := sq1 x fun _ => (pEP cn 40).1 0 0
/-- a line: act, stuff, cell, two expressions -/
abbrev LN9 : Type := Nat × Nat × Nat × EC × EC
/-- what is told: stuffs (name, bears, costs), cells (name, at first), inputs (cell, least, most), lines -/
abbrev PGr : Type := List (List Nat × Nat × Nat) × List (List Nat × Nat) × List (Nat × Nat × Nat) × List LN9
def snm (g : PGr) : List (List Nat) := g.1.map (fun x => x.1)
def cnm (g : PGr) : List (List Nat) := g.2.1.map (fun x => x.1)
def many (l : List (Nat × Nat × Nat)) : Nat := l.foldl (fun a x => a * (x.2.2 - x.2.1 + 1)) 1
def pStuff (g : PGr) (L : List Tok) : PRs PGr := if 4 ≤ g.1.length then .inl (flt 5 L) else
  bnd (tN (tX (tN (tX (tW (.inr ((), adv L)) (snm g) (cnm g)) 13) (fun _ => 1) (fun _ => 9999)) 14) (fun _ => 0) (fun _ => 999)) fun y => .inr ((g.1 ++ [(y.1.1.1.2, y.1.1.2, y.1.2)], g.2), y.2)
def pCell (g : PGr) (L : List Tok) : PRs PGr := if 6 ≤ g.2.1.length then .inl (flt 5 L) else
  bnd (tN (tW (.inr ((), adv L)) (snm g) (cnm g)) (fun _ => 0) (fun _ => 9999)) fun y => .inr ((g.1, g.2.1 ++ [(y.1.1.2, y.1.2)], g.2.2), y.2)
def pInput (g : PGr) (L : List Tok) : PRs PGr := if 2 ≤ g.2.2.1.length then .inl (flt 5 L) else
  bnd (sq0 (sq0 (sq1 (tN (sq0 (sq0 (sq1 (.inr ((), adv L)) fun _ => pTold (cnm g)) fun a => pIf (decide (a.2 ∈ g.2.2.1.map (fun y => y.1))) 3) fun _ => pAdv) (fun _ => 0) (fun _ => 9999)) fun a => pNum a.2 9999) fun a => pIf (decide (64 < (a.2 - a.1.2 + 1) * many g.2.2.1)) 5) fun _ => pAdv) fun y => .inr ((g.1, g.2.1, g.2.2.1 ++ [(y.1.1.1.2, y.1.1.2, y.1.2)], g.2.2.2), y.2)
/-- behind the word of the act a: 0 set, 1 write, 2 go, 3 if, 4 call, 5 mend, 6 halt -/
def pAct {α : Type} (cn : List (List Nat)) (a : Nat) (x : PRs α) : PRs (α × Nat × EC × EC) :=
  if a = 0 then bnd (tE (tO x cn) cn) fun y => .inr ((y.1.1.1, y.1.1.2, y.1.2, ([], [])), y.2)
  else if a = 3 ∨ a = 5 then bnd (tE (tX (tE x cn) (if a = 3 then 22 else 19)) cn) fun y => .inr ((y.1.1.1, 0, y.1.1.2, y.1.2), y.2)
  else if a = 4 then bnd (tO (tX (tE x cn) 18) cn) fun y => .inr ((y.1.1.1, y.1.2, y.1.1.2, ([], [])), y.2)
  else if a = 6 then bnd x fun y => .inr ((y.1, 0, ([], []), ([], [])), y.2)
  else bnd (tE x cn) fun y => .inr ((y.1.1, 0, y.1.2, ([], [])), y.2)
/-- a line's act, cell, expressions -/
def tA {α : Type} (x : PRs α) (cn : List (List Nat)) : PRs (α × Nat × Nat × EC × EC) := bnd x fun w => if 20 ≤ ix (hdt w.2) ∧ ix (hdt w.2) ≤ 26 then
    bnd (pAct cn (ix (hdt w.2) - 20) (.inr ((), adv w.2))) fun y => .inr ((w.1, ix (hdt w.2) - 20, y.1.2), y.2) else .inl (flt 1 w.2)
def pLine (g : PGr) (L : List Tok) : PRs PGr := if 16 ≤ g.2.2.2.length then .inl (flt 5 L) else
  bnd (tA (tO (.inr ((), adv L)) (snm g)) (cnm g)) fun y => .inr ((g.1, g.2.1, g.2.2.1, g.2.2.2 ++ [(y.1.2.1, y.1.1.2, y.1.2.2)]), y.2)
def pTell (g : PGr) (L : List Tok) : PRs PGr := if ix (hdt L) = 12 then pStuff g L else if ix (hdt L) = 15 then pCell g L else if ix (hdt L) = 16 then pInput g L else if ix (hdt L) = 17 then pLine g L else .inl (flt 1 L)
def pAll : Nat → PGr → List Tok → Nat ⊕ PGr
  | 0, g, _ => .inr g
  | n + 1, g, L => if ix (hdt L) = 0 then .inr g else bnd (tX (pTell g L) 6) fun x => pAll n x.1 x.2
/-- what programme reads: a fault, or all that is told -/
def parse (ts : List Nat) : Nat ⊕ PGr := pAll 1000 ([], [], [], []) (tokL ts 0)
/-- a token that a tape can have -/
def VT (k : Tok) : Prop := k.1 ≤ 4 ∧ k.2.1 ≤ 1000 ∧ (k.1 = 1 → WD k.2.2 ∧ k.2.2 ≠ []) ∧ (k.1 = 2 → k.2.2.length ≤ 4 ∧ ∀ c ∈ k.2.2, 48 ≤ c ∧ c ≤ 57) ∧ (k.1 = 3 → ∃ c, k.2.2 = [c] ∧ cS c = true)
section VTS
variable {ts : List Nat}
theorem tkAt_VT {p : Nat} (hn : ts.length ≤ 1000) (hp : p < ts.length) : VT (tkAt ts p) ∧ (tkAt ts p).2.1 = p := by
  unfold tkAt
  by_cases hL : isLt (sgn ts p) = true
  · rw [if_pos hL]
    have hE : p < wE isLt ts p ∧ wE isLt ts p ≤ ts.length := by
      rw [wE_yes hp hL]
      exact ⟨wE_ge, wE_le hp⟩
    by_cases h8 : wE isLt ts p - p ≤ 8
    · rw [if_pos h8]
      refine ⟨⟨by (try dsimp only); decide, by show p ≤ 1000; omega, fun _ => ⟨⟨by show (cut ts p _).length ≤ 8; rw [cut_len hE.2]; exact h8, fun c hc => ?_⟩, fun e => ?_⟩, fun z => absurd z (by (try dsimp only); decide), fun z => absurd z (by (try dsimp only); decide)⟩, rfl⟩
      · obtain ⟨j, h1, h2, h3⟩ := cut_mem hE.2 hc
        rw [h3]
        exact cL_iff.mp (wE_all h1 h2)
      · have e : cut ts p (wE isLt ts p) = [] := e
        have := cut_len (p := p) hE.2
        rw [e] at this
        have : 0 = wE isLt ts p - p := this
        omega
    · rw [if_neg h8]
      exact ⟨⟨by (try dsimp only); decide, by show p ≤ 1000; omega, fun z => absurd z (by (try dsimp only); decide), fun z => absurd z (by (try dsimp only); decide), fun z => absurd z (by (try dsimp only); decide)⟩, rfl⟩
  · rw [if_neg hL]
    by_cases hD : isDg (sgn ts p) = true
    · rw [if_pos hD]
      have hE : p < wE isDg ts p ∧ wE isDg ts p ≤ ts.length := by
        rw [wE_yes hp hD]
        exact ⟨wE_ge, wE_le hp⟩
      by_cases h4 : wE isDg ts p - p ≤ 4
      · rw [if_pos h4]
        refine ⟨⟨by (try dsimp only); decide, by show p ≤ 1000; omega, fun z => absurd z (by (try dsimp only); decide), fun _ => ⟨by show (cut ts p _).length ≤ 4; rw [cut_len hE.2]; exact h4, fun c hc => ?_⟩, fun z => absurd z (by (try dsimp only); decide)⟩, rfl⟩
        obtain ⟨j, h1, h2, h3⟩ := cut_mem hE.2 hc
        rw [h3]
        exact cD_iff.mp (wE_all h1 h2)
      · rw [if_neg h4]
        exact ⟨⟨by (try dsimp only); decide, by show p ≤ 1000; omega, fun z => absurd z (by (try dsimp only); decide), fun z => absurd z (by (try dsimp only); decide), fun z => absurd z (by (try dsimp only); decide)⟩, rfl⟩
    · rw [if_neg hD]
      by_cases hS : cS (sgn ts p) = true
      · rw [if_pos hS]
        exact ⟨⟨by (try dsimp only); decide, by show p ≤ 1000; omega, fun z => absurd z (by (try dsimp only); decide), fun z => absurd z (by (try dsimp only); decide), fun _ => ⟨_, rfl, hS⟩⟩, rfl⟩
      · rw [if_neg hS]
        exact ⟨⟨by (try dsimp only); decide, by show p ≤ 1000; omega, fun z => absurd z (by (try dsimp only); decide), fun z => absurd z (by (try dsimp only); decide), fun z => absurd z (by (try dsimp only); decide)⟩, rfl⟩
theorem tokL_VT (hn : ts.length ≤ 1000) : ∀ (m p : Nat), ts.length - p ≤ m → p ≤ ts.length → ∀ k ∈ tokL ts p, VT k := by
  intro m
  induction m with
  | zero =>
    intro p h hp k hk
    rw [tokL_end (by omega)] at hk
    rw [List.mem_singleton.mp hk]
    exact ⟨by (try dsimp only); decide, by show p ≤ 1000; omega, fun z => absurd z (by (try dsimp only); decide), fun z => absurd z (by (try dsimp only); decide), fun z => absurd z (by (try dsimp only); decide)⟩
  | succ m ih =>
    intro p h hp k hk
    by_cases hlt : p < ts.length
    · by_cases hb : cB (sgn ts p) = true
      · rw [tokL_blank hlt hb] at hk
        exact ih (p + 1) (by omega) hlt k hk
      · rw [tokL_tok hlt hb] at hk
        have := tkEnd_gt hlt
        rcases List.mem_cons.mp hk with e | hk
        · rw [e]; exact (tkAt_VT hn hlt).1
        · exact ih (tkEnd ts p) (by omega) this.2 k hk
    · rw [tokL_end (by omega)] at hk
      rw [List.mem_singleton.mp hk]
      exact ⟨by (try dsimp only); decide, by show p ≤ 1000; omega, fun z => absurd z (by (try dsimp only); decide), fun z => absurd z (by (try dsimp only); decide), fun z => absurd z (by (try dsimp only); decide)⟩
end VTS
section PU
variable {α β : Type}
theorem sq0_l {e : Nat} {g : α → List Tok → Nat ⊕ List Tok} : sq0 (.inl e) g = .inl e := rfl
theorem sq1_l {e : Nat} {g : α → List Tok → PRs β} : sq1 (.inl e) g = .inl e := rfl
theorem bnd_l {e : Nat} {g : α → Nat ⊕ β} : bnd (.inl e) g = .inl e := rfl
theorem bnd_r {a : α} {g : α → Nat ⊕ β} : bnd (.inr a) g = g a := rfl
theorem sq0_r {a : α} {L : List Tok} {g : α → List Tok → Nat ⊕ List Tok} : sq0 (.inr (a, L)) g = bnd (g a L) fun L => .inr (a, L) := rfl
theorem sq1_r {a : α} {L : List Tok} {g : α → List Tok → PRs β} : sq1 (.inr (a, L)) g = bnd (g a L) fun z => .inr ((a, z.1), z.2) := rfl
end PU
theorem num_push (l : List Nat) (c : Nat) : (l ++ [c]).foldl (fun a c => a * 10 + (c - 48)) 0 = l.foldl (fun a c => a * 10 + (c - 48)) 0 * 10 + (c - 48) := by rw [List.foldl_append]; rfl
theorem num_lt : ∀ m : List Nat, (∀ c ∈ m, 48 ≤ c ∧ c ≤ 57) → m.reverse.foldl (fun a c => a * 10 + (c - 48)) 0 < 10 ^ m.length := by
  intro m
  induction m with
  | nil => intro _; decide
  | cons c m ih =>
    intro hc
    have h1 := ih (fun x hx => hc x (List.mem_cons_of_mem _ hx))
    have h2 := hc c List.mem_cons_self
    rw [List.reverse_cons, num_push, List.length_cons, Nat.pow_succ]
    omega
theorem eN_rev : ∀ m : List Nat, (∀ c ∈ m, 48 ≤ c ∧ c ≤ 57) → eN m.reverse = nI (m.reverse.foldl (fun a c => a * 10 + (c - 48)) 0) := by
  intro m
  induction m with
  | nil => intro _; rfl
  | cons c m ih =>
    intro hc
    have h1 := ih (fun x hx => hc x (List.mem_cons_of_mem _ hx))
    have h2 := hc c List.mem_cons_self
    rw [List.reverse_cons, eN_push, num_push, h1, show (10 : Int32) = nI 10 from rfl, show (48 : Int32) = nI 48 from rfl, pk_mul, nI_add, pk_sub (by omega)]
    exact congrArg nI (by omega)
theorem eM_rev : ∀ m : List Nat, (∀ c ∈ m, 48 ≤ c ∧ c ≤ 57) → eM m.reverse = lN (m.reverse.foldl (fun a c => a * 10 + (c - 48)) 0) := by
  intro m
  induction m with
  | nil => intro _; rfl
  | cons c m ih =>
    intro hc
    have h1 := ih (fun x hx => hc x (List.mem_cons_of_mem _ hx))
    have h2 := hc c List.mem_cons_self
    rw [List.reverse_cons, eM_push, num_push, h1, show (48 : Int32) = nI 48 from rfl, pk_sub (by omega), nI_l (by omega), show (10 : Int64) = lN 10 from rfl, lN_mul, lN_add]
theorem VT.numZ {k : Tok} (h : VT k) (h2 : k.1 = 2) : eN k.2.2 = nI (num k) ∧ eM k.2.2 = lN (num k) ∧ num k ≤ 9999 := by
  obtain ⟨h4, hd⟩ := h.2.2.2.1 h2
  have hr : ∀ c ∈ k.2.2.reverse, 48 ≤ c ∧ c ≤ 57 := fun c hc => hd c (List.mem_reverse.mp hc)
  have a1 := eN_rev _ hr
  have a2 := eM_rev _ hr
  have a3 := num_lt _ hr
  rw [List.reverse_reverse] at a1 a2 a3
  rw [List.length_reverse] at a3
  have : 10 ^ k.2.2.length ≤ 10 ^ 4 := Nat.pow_le_pow_right (by decide) h4
  have e : num k = k.2.2.foldl (fun a c => a * 10 + (c - 48)) 0 := Nat.min_eq_right (by omega)
  rw [e]
  exact ⟨a1, a2, by omega⟩
theorem ix_0 {k : Tok} : ix k = 0 ↔ k.1 = 0 := by
  unfold ix
  refine ⟨fun h => ?_, fun h => if_pos h⟩
  by_cases e : k.1 = 0
  · exact e
  · rw [if_neg e] at h
    exfalso
    revert h
    repeat' split
    · unfold kwI; split <;> omega
    · omega
    · unfold sgI; repeat' split
      all_goals omega
    · omega
theorem ix_3 {k : Tok} (h : ix k = 3) : k.1 = 1 ∧ ¬ k.2.2 ∈ KW := by
  unfold ix at h
  by_cases e : k.1 = 0
  · rw [if_pos e] at h; omega
  rw [if_neg e] at h
  by_cases e1 : k.1 = 1
  · rw [if_pos e1] at h
    refine ⟨e1, fun hm => ?_⟩
    unfold kwI at h
    rw [if_pos hm] at h
    omega
  rw [if_neg e1] at h
  by_cases e2 : k.1 = 2
  · rw [if_pos e2] at h; omega
  rw [if_neg e2] at h
  by_cases e3 : k.1 = 3
  · rw [if_pos e3] at h
    exfalso
    revert h
    unfold sgI
    repeat' split
    all_goals omega
  rw [if_neg e3] at h
  omega
theorem ix_2 {k : Tok} (h : ix k = 2) : k.1 = 2 := by
  unfold ix at h
  by_cases e : k.1 = 0
  · rw [if_pos e] at h; omega
  rw [if_neg e] at h
  by_cases e1 : k.1 = 1
  · rw [if_pos e1] at h
    exfalso
    unfold kwI at h
    split at h <;> omega
  rw [if_neg e1] at h
  by_cases e2 : k.1 = 2
  · exact e2
  rw [if_neg e2] at h
  by_cases e3 : k.1 = 3
  · rw [if_pos e3] at h
    exfalso
    revert h
    unfold sgI
    repeat' split
    all_goals omega
  rw [if_neg e3] at h
  omega
theorem adv_two {a b : Tok} {r : List Tok} : adv (a :: b :: r) = b :: r := rfl
theorem WT.ne {L : List Tok} (h : WT L) : L ≠ [] := by
  obtain ⟨M, p, e, _⟩ := h
  rw [e]
  intro z
  exact absurd (List.append_eq_nil_iff.mp z).2 (List.cons_ne_nil _ _)
/-- the end stays; else the next token is there -/
theorem WT.advZ {L : List Tok} (h : WT L) : WT (adv L) ∧ ((hdt L).1 = 0 → adv L = L) ∧ (¬ (hdt L).1 = 0 → (adv L).length + 1 = L.length) := by
  obtain ⟨M, p, e, hM⟩ := h
  cases M with
  | nil =>
    rw [e]
    exact ⟨⟨[], p, rfl, fun k hk => by cases hk⟩, fun _ => rfl, fun z => absurd rfl z⟩
  | cons a M =>
    have e2 : L = a :: (M ++ [(0, p, [])]) := e
    have ea : adv L = M ++ [(0, p, [])] := by
      rw [e2]
      cases M with
      | nil => rfl
      | cons b M => rfl
    refine ⟨ea ▸ ⟨M, p, rfl, fun k hk => hM k (List.mem_cons_of_mem _ hk)⟩, fun z => ?_, fun _ => by rw [ea, e2]; rfl⟩
    rw [e2] at z
    exact absurd z (hM a List.mem_cons_self)
theorem tokL_len {ts : List Nat} : ∀ (k p : Nat), ts.length - p ≤ k → p ≤ ts.length → (tokL ts p).length ≤ ts.length - p + 1 := by
  intro k
  induction k with
  | zero =>
    intro p h hp
    rw [tokL_end (by omega)]
    exact Nat.le_add_left _ _
  | succ k ih =>
    intro p h hp
    by_cases hlt : p < ts.length
    · by_cases hb : cB (sgn ts p) = true
      · rw [tokL_blank hlt hb]
        have := ih (p + 1) (by omega) hlt
        omega
      · rw [tokL_tok hlt hb, List.length_cons]
        have h2 := tkEnd_gt hlt
        have := ih (tkEnd ts p) (by omega) h2.2
        omega
    · rw [tokL_end (by omega)]
      exact Nat.le_add_left _ _
theorem fndF_none {w : List Nat} : ∀ (ns : List (List Nat)) (i : Nat), fndF ns w i = none ↔ ¬ w ∈ ns := by
  intro ns
  induction ns with
  | nil => intro i; exact ⟨fun _ h => (List.not_mem_nil h).elim, fun _ => rfl⟩
  | cons n ns ih =>
    intro i
    show (if n = w then some i else fndF ns w (i + 1)) = none ↔ _
    by_cases e : n = w
    · rw [if_pos e]
      exact ⟨fun h => (nomatch h), fun h => absurd (show w ∈ n :: ns by rw [e]; exact List.mem_cons_self) h⟩
    · rw [if_neg e, ih]
      exact ⟨fun h hm => (List.mem_cons.mp hm).elim (fun z => e z.symm) h, fun h hm => h (List.mem_cons_of_mem _ hm)⟩
theorem fndF_lt {w : List Nat} : ∀ (ns : List (List Nat)) (i j : Nat), fndF ns w i = some j → i ≤ j ∧ j < i + ns.length := by
  intro ns
  induction ns with
  | nil => intro i j h; exact nomatch (show (none : Option Nat) = some j from h)
  | cons n ns ih =>
    intro i j h
    have h : (if n = w then some i else fndF ns w (i + 1)) = some j := h
    rw [List.length_cons]
    by_cases e : n = w
    · rw [if_pos e] at h
      have := Option.some.inj h
      omega
    · rw [if_neg e] at h
      have := ih (i + 1) j h
      omega
theorem fnd_none {ns : List (List Nat)} {w : List Nat} : fnd ns w = none ↔ ¬ w ∈ ns := fndF_none ns 0
theorem fnd_lt {ns : List (List Nat)} {w : List Nat} {j : Nat} (h : fnd ns w = some j) : j < ns.length := by have := fndF_lt ns 0 j h; omega
