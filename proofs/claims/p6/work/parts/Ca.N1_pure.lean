/-- the number that an expression's codes put (0: none) -/
def FE (e : EC) : EF := fun ce wv => ((pvs ce wv e.2 []).reverse[0]?).getD 0
theorem FE_of {e : EC} {B : Nat} {F : EF} (h : EVp e.2 B F) : FE e = F := by
  funext ce wv
  unfold FE
  rw [(h ce wv []).1]
  rfl
theorem FE_nil {ce : Nat → Int32} {wv : Int32 → Int32} : FE ([], []) ce wv = 0 := rfl
/-- codes that read a cell read one of the first nc -/
def CRq (nc : Nat) (p : List Nat) : Prop := ∀ c ∈ p, (c % 16 = 1 → c / 16 < nc) ∧ c < 200000 + 16 * nc
theorem pvs_cong {nc : Nat} {ce ce' : Nat → Int32} {wv : Int32 → Int32} (hc : ∀ i, i < nc → ce i = ce' i) : ∀ (p : List Nat) (st : List Int32), CRq nc p → pvs ce wv p st = pvs ce' wv p st := by
  intro p
  induction p with
  | nil => intros; rfl
  | cons c p ih =>
    intro st h
    show pvs ce wv p (pv1 ce wv st c) = pvs ce' wv p (pv1 ce' wv st c)
    have e : pv1 ce wv st c = pv1 ce' wv st c := by
      unfold pv1
      by_cases h0 : c % 16 = 0
      · rw [if_pos h0, if_pos h0]
      · rw [if_neg h0, if_neg h0]
        by_cases h1 : c % 16 = 1
        · rw [if_pos h1, if_pos h1, hc _ ((h c List.mem_cons_self).1 h1)]
        · rw [if_neg h1, if_neg h1]
    rw [e]
    exact ih _ (fun x hx => h x (List.mem_cons_of_mem _ hx))
theorem CRq.app {nc : Nat} {p q : List Nat} (h : CRq nc p) (h2 : CRq nc q) : CRq nc (p ++ q) := fun c hc => (List.mem_append.mp hc).elim (h c) (h2 c)
theorem CRq.one {nc c : Nat} (h : c % 16 ≠ 1) (h2 : c < 200000) : CRq nc [c] := fun x hx => by
  rw [List.mem_singleton.mp hx]
  exact ⟨fun e => absurd e h, by omega⟩
theorem pof_16 (k : Tok) : pof k % 16 ≠ 1 ∧ pof k < 200000 := by
  have h := ix_lt k
  unfold pof
  have : ∀ i : Fin 31, poT.getD i.val 0 % 16 ≠ 1 ∧ poT.getD i.val 0 < 200000 := by decide
  exact this ⟨ix k, h⟩
theorem pLp_cr {g1 : List Tok → PRs EC} {lv nc : Nat} (hg : ∀ L e L', g1 L = .inr (e, L') → CRq nc e.2) : ∀ (m : Nat) (r : EC × List Tok) (e : EC) (L' : List Tok), CRq nc r.1.2 → pLp g1 lv m r = .inr (e, L') → CRq nc e.2 := by
  intro m
  induction m with
  | zero =>
    intro r e L' h hp
    rw [← (Prod.mk.inj (Sum.inr.inj hp)).1]
    exact h
  | succ m ih =>
    intro r e L' h hp
    by_cases hl : lvl (hdt r.2) = lv
    · have hpl : pLp g1 lv (m + 1) r = bnd (g1 (adv r.2)) fun s => pLp g1 lv m ((r.1.1 ++ inf (hdt r.2) :: s.1.1, r.1.2 ++ s.1.2 ++ [pof (hdt r.2)]), s.2) := if_pos hl
      rw [hpl] at hp
      obtain ⟨s, hs, hp⟩ := bnd_inv hp
      exact ih _ e L' ((h.app (hg _ s.1 s.2 hs)).app (CRq.one (pof_16 _).1 (pof_16 _).2)) hp
    · have hpl : pLp g1 lv (m + 1) r = .inr r := if_neg hl
      rw [hpl] at hp
      rw [← (Prod.mk.inj (Sum.inr.inj hp)).1]
      exact h
theorem pPa_cr {cn : List (List Nat)} {gE gP : List Tok → PRs EC} {ne : Nat} (hE : ∀ L e L', gE L = .inr (e, L') → CRq cn.length e.2) (hP : ∀ L e L', gP L = .inr (e, L') → CRq cn.length e.2) {L : List Tok} {e : EC} {L' : List Tok} (h : pPa cn gE gP ne L = .inr (e, L')) : CRq cn.length e.2 := by
  unfold pPa at h
  by_cases e3 : ix (hdt L) = 3
  · rw [if_pos e3] at h
    obtain ⟨y, hy, h⟩ := bnd_inv h
    by_cases h5 : 5 ≤ ne
    · rw [if_pos h5] at h; cases h
    rw [if_neg h5] at h
    have hc := pTold_inv (c := y.1) (L' := y.2) hy
    rw [← (Prod.mk.inj (Sum.inr.inj h)).1]
    intro c hc2
    rw [List.mem_singleton.mp hc2]
    exact ⟨fun _ => by omega, by omega⟩
  rw [if_neg e3] at h
  by_cases e4 : ix (hdt L) = 2 ∨ ix (hdt L) = 4 ∨ ix (hdt L) = 27 ∨ ix (hdt L) = 28
  · rw [if_pos e4] at h
    by_cases h5 : 5 ≤ ne
    · rw [if_pos h5] at h; cases h
    rw [if_neg h5] at h
    by_cases i2 : ix (hdt L) = 2
    · rw [if_pos i2] at h
      rw [← (Prod.mk.inj (Sum.inr.inj h)).1]
      exact CRq.one (by omega) (by have := num_le (hdt L); omega)
    rw [if_neg i2] at h
    by_cases i4 : ix (hdt L) = 4
    · rw [if_pos i4] at h
      obtain ⟨s, hs, h⟩ := bnd_inv h
      by_cases i5 : ix (hdt s.2) = 5
      · rw [if_pos i5] at h
        have h1 := hE _ s.1 s.2 hs
        rw [← (Prod.mk.inj (Sum.inr.inj h)).1]
        exact h1
      · rw [if_neg i5] at h; cases h
    rw [if_neg i4] at h
    obtain ⟨s, hs, h⟩ := bnd_inv h
    have h1 := hP _ s.1 s.2 hs
    by_cases i27 : ix (hdt L) = 27
    · rw [if_pos i27, if_pos i27] at h
      rw [← (Prod.mk.inj (Sum.inr.inj h)).1]
      exact h1.app (CRq.one (by decide) (by decide))
    · rw [if_neg i27, if_neg i27] at h
      rw [← (Prod.mk.inj (Sum.inr.inj h)).1]
      exact h1.app (CRq.one (by decide) (by decide))
  · rw [if_neg e4] at h; cases h
theorem pEP_cr {cn : List (List Nat)} : ∀ n : Nat, (∀ lv ne L e L', (pEP cn n).1 lv ne L = .inr (e, L') → CRq cn.length e.2) ∧ (∀ ne L e L', (pEP cn n).2 ne L = .inr (e, L') → CRq cn.length e.2) := by
  intro n
  induction n with
  | zero => exact ⟨fun _ _ _ _ _ h => (by cases h), fun _ _ _ _ h => by cases h⟩
  | succ n ih =>
    refine ⟨fun lv ne L e L' h => ?_, fun ne L e L' h => ?_⟩
    · by_cases h4 : lv < 4
      · have hg : (pEP cn (n + 1)).1 lv ne L = bnd ((pEP cn n).1 (lv + 1) ne L) (pLp ((pEP cn n).1 (lv + 1) ne) lv (if lv = 1 then 1 else 1000)) := if_pos h4
        rw [hg] at h
        obtain ⟨y, hy, h⟩ := bnd_inv h
        exact pLp_cr (fun L e L' hh => ih.1 (lv + 1) ne L e L' hh) _ y e L' (ih.1 (lv + 1) ne _ y.1 y.2 hy) h
      · have hg : (pEP cn (n + 1)).1 lv ne L = (pEP cn n).2 ne L := if_neg h4
        rw [hg] at h
        exact ih.2 ne L e L' h
    · exact pPa_cr (fun L e L' hh => ih.1 0 (ne + 1) L e L' hh) (fun L e L' hh => ih.2 (ne + 1) L e L' hh) h
/-- an expression that was read, or none -/
def OE9 (nc : Nat) (e : EC) : Prop := OKE nc e ∨ e = ([], [])
theorem OKE.cr {nc : Nat} {e : EC} (h : OKE nc e) : CRq nc e.2 := by
  obtain ⟨cn, L, L', h1, h2⟩ := h
  intro c hc
  have := (pEP_cr 40).1 0 0 L e L' h2 c hc
  exact ⟨fun h3 => by have := this.1 h3; omega, by omega⟩
theorem OE9.cr {nc : Nat} {e : EC} (h : OE9 nc e) : CRq nc e.2 := by
  rcases h with h | h
  · exact h.cr
  · rw [h]; exact fun c hc => absurd hc List.not_mem_nil
theorem OE9.cong {nc : Nat} {e : EC} {ce ce' : Nat → Int32} {wv : Int32 → Int32} (h : OE9 nc e) (hc : ∀ i, i < nc → ce i = ce' i) : FE e ce wv = FE e ce' wv := by
  unfold FE
  rw [pvs_cong hc e.2 [] h.cr]
theorem OE9.bd {nc : Nat} {e : EC} (h : OE9 nc e) (hn : nc ≤ 6) (ce : Nat → Int32) (wv : Int32 → Int32) (k : Nat) : (pvs ce wv (e.2.take k) []).length ≤ 24 := by
  rcases h with h | h
  · obtain ⟨F, h1, _⟩ := h.me hn
    have := (h1 ce wv []).2 k
    have e0 : ([] : List Int32).length = 0 := rfl
    rw [e0] at this
    omega
  · rw [h]
    have : ((([], []) : EC).2.take k) = [] := List.take_nil
    rw [this]
    exact Nat.zero_le _
/-- the machine: state, next line, steps, how worn the lines are, cells, what was written -/
abbrev PM : Type := Nat × Nat × Nat × (Nat → Int32) × (Nat → Int32) × List Int32
def nL (g : PGr) : Nat := g.2.2.2.length
def nC (g : PGr) : Nat := g.2.1.length
def nS (g : PGr) : Nat := g.1.length
def lnG (g : PGr) (l : Nat) : LN9 := g.2.2.2.getD l (6, 0, 0, ([], []), ([], []))
def wvG (n wy : Nat) (wo : Nat → Int32) (v : Int32) : Int32 := if wy = 2 then 0 else wo (lnOf v n)
def mx0 (v : Int32) : Int32 := if (0 : Int32) < v then v else (0 : Int32)
/-- how worn the lines are when the line that is next is worked -/
def w1 (wy : Nat) (x : PM) : Nat → Int32 := if wy = 2 then x.2.2.2.1 else upd x.2.2.2.1 x.2.1 (x.2.2.2.1 x.2.1 + 1)
def oneG (g : PGr) (wy : Nat) (x : PM) : Int32 := FE (lnG g x.2.1).2.2.2.1 x.2.2.2.2.1 (wvG (nL g) wy (w1 wy x))
def twoG (g : PGr) (wy : Nat) (x : PM) : Int32 := FE (lnG g x.2.1).2.2.2.2 x.2.2.2.2.1 (wvG (nL g) wy (w1 wy x))
/-- what a line does: the next line, cells, worn lines, what was written -/
def nxG (g : PGr) (wy : Nat) (x : PM) : Nat := if (lnG g x.2.1).1 = 2 ∨ (lnG g x.2.1).1 = 4 then lnOf (oneG g wy x) (nL g) else if (lnG g x.2.1).1 = 3 ∧ ¬ oneG g wy x = 0 then lnOf (twoG g wy x) (nL g) else if (lnG g x.2.1).1 = 6 then nL g else x.2.1 + 1
def ceG (g : PGr) (wy : Nat) (x : PM) : Nat → Int32 := if (lnG g x.2.1).1 = 0 then upd x.2.2.2.2.1 (lnG g x.2.1).2.2.1 (oneG g wy x) else if (lnG g x.2.1).1 = 4 then upd x.2.2.2.2.1 (lnG g x.2.1).2.2.1 (nI (x.2.1 + 1)) else x.2.2.2.2.1
def woG (g : PGr) (wy : Nat) (x : PM) : Nat → Int32 := if (lnG g x.2.1).1 = 5 ∧ ¬ twoG g wy x ≤ 0 ∧ ¬ wy = 2 then upd (w1 wy x) (lnOf (oneG g wy x) (nL g)) (mx0 (w1 wy x (lnOf (oneG g wy x) (nL g)) - twoG g wy x)) else w1 wy x
def wrG (g : PGr) (wy : Nat) (x : PM) : List Int32 := if (lnG g x.2.1).1 = 1 then x.2.2.2.2.2 ++ [oneG g wy x] else x.2.2.2.2.2
def wrk (g : PGr) (wy : Nat) (x : PM) : PM := (if nL g ≤ nxG g wy x then 2 else 1, nxG g wy x, x.2.2.1 + 1, woG g wy x, ceG g wy x, wrG g wy x)
/-- a hole is next -/
abbrev hol (be : Nat → Int32) (wy : Nat) (x : PM) : Prop := wy = 0 ∧ ¬ x.2.2.2.1 x.2.1 < be x.2.1
def stp (g : PGr) (be : Nat → Int32) (wy : Nat) (x : PM) : PM := if x.1 = 1 then (if hol be wy x then (3, x.2) else wrk g wy x) else x
def itG (g : PGr) (be : Nat → Int32) (wy : Nat) : Nat → PM → PM
  | 0, x => x
  | n + 1, x => itG g be wy n (stp g be wy x)
def pfl (be : Nat → Int32) (wy : Nat) (x : PM) : PM := if x.1 = 1 ∧ hol be wy x then (3, x.2) else x
/-- what may be trusted of it -/
def PMo (g : PGr) (wy : Nat) (x : PM) : Prop := x.1 ≤ 4 ∧ x.2.1 ≤ nL g ∧ (x.1 = 1 ∨ x.1 = 3 → x.2.1 < nL g) ∧ x.2.2.2.2.2.length ≤ x.2.2.1 ∧ (wy = 2 → ∀ i, i < 16 → x.2.2.2.1 i = 0)
section IT
variable {g : PGr} {be : Nat → Int32} {wy : Nat} {x : PM}
theorem stp_off (h : ¬ x.1 = 1) : stp g be wy x = x := if_neg h
theorem stp_hol (h : x.1 = 1) (h2 : hol be wy x) : stp g be wy x = (3, x.2) := by unfold stp; rw [if_pos h, if_pos h2]
theorem stp_wrk (h : x.1 = 1) (h2 : ¬ hol be wy x) : stp g be wy x = wrk g wy x := by unfold stp; rw [if_pos h, if_neg h2]
theorem it_off (n : Nat) (h : ¬ x.1 = 1) : itG g be wy n x = x := by
  induction n with
  | zero => rfl
  | succ n ih =>
    show itG g be wy n (stp g be wy x) = x
    rw [stp_off h, ih]
theorem it_add : ∀ (a b : Nat) (x : PM), itG g be wy (a + b) x = itG g be wy b (itG g be wy a x) := by
  intro a
  induction a with
  | zero => intro b x; rw [Nat.zero_add]; rfl
  | succ a ih =>
    intro b x
    rw [show a + 1 + b = a + b + 1 by omega]
    exact ih b (stp g be wy x)
theorem it_one (n : Nat) : itG g be wy (n + 1) x = stp g be wy (itG g be wy n x) := it_add n 1 x
theorem w1_plain (h : wy = 2) : w1 wy x = x.2.2.2.1 := if_pos h
theorem w1_else (h : ¬ wy = 2) : w1 wy x = upd x.2.2.2.1 x.2.1 (x.2.2.2.1 x.2.1 + 1) := if_neg h
theorem nxG_le (h : x.2.1 < nL g) : nxG g wy x ≤ nL g := by
  unfold nxG
  have hp : 0 < nL g := by omega
  have h1 := lnOf_lt (oneG g wy x) hp
  have h2 := lnOf_lt (twoG g wy x) hp
  repeat' split
  all_goals omega
theorem wrG_len : (wrG g wy x).length ≤ x.2.2.2.2.2.length + 1 := by
  unfold wrG
  split
  · rw [List.length_append]; exact Nat.le_refl _
  · exact Nat.le_succ _
theorem PMo.stpZ (h : PMo g wy x) : PMo g wy (stp g be wy x) := by
  by_cases h1 : x.1 = 1
  · by_cases h2 : hol be wy x
    · rw [stp_hol h1 h2]
      exact ⟨(by decide : 3 ≤ 4), h.2.1, fun _ => h.2.2.1 (Or.inl h1), h.2.2.2.1, h.2.2.2.2⟩
    · rw [stp_wrk h1 h2]
      have hN := h.2.2.1 (Or.inl h1)
      refine ⟨?_, nxG_le hN, fun hh => ?_, ?_, fun hw i hi => ?_⟩
      · show (if nL g ≤ nxG g wy x then 2 else 1) ≤ 4
        split <;> omega
      · have hh : (if nL g ≤ nxG g wy x then 2 else 1) = 1 ∨ (if nL g ≤ nxG g wy x then 2 else 1) = 3 := hh
        by_cases hn : nL g ≤ nxG g wy x
        · rw [if_pos hn] at hh; omega
        · exact Nat.lt_of_not_le hn
      · have := h.2.2.2.1
        have := wrG_len (g := g) (wy := wy) (x := x)
        show (wrG g wy x).length ≤ x.2.2.1 + 1
        omega
      · show woG g wy x i = 0
        unfold woG
        rw [if_neg (fun q => q.2.2 hw), w1_plain hw]
        exact h.2.2.2.2 hw i hi
  · rw [stp_off h1]; exact h
theorem PMo.itZ : ∀ (n : Nat) (x : PM), PMo g wy x → PMo g wy (itG g be wy n x) := by
  intro n
  induction n with
  | zero => intro x h; exact h
  | succ n ih => intro x h; exact ih _ h.stpZ
theorem PMo.pflZ (h : PMo g wy x) : PMo g wy (pfl be wy x) := by
  unfold pfl
  split
  · rename_i h1
    exact ⟨(by decide : 3 ≤ 4), h.2.1, fun _ => h.2.2.1 (Or.inl h1.1), h.2.2.2.1, h.2.2.2.2⟩
  · exact h
theorem stp_k : (stp g be wy x).2.2.1 ≤ x.2.2.1 + 1 ∧ x.2.2.1 ≤ (stp g be wy x).2.2.1 := by
  unfold stp
  split
  · split
    · exact ⟨Nat.le_succ _, Nat.le_refl _⟩
    · exact ⟨Nat.le_refl _, Nat.le_succ _⟩
  · exact ⟨Nat.le_succ _, Nat.le_refl _⟩
theorem it_k : ∀ (n : Nat) (x : PM), (itG g be wy n x).2.2.1 ≤ x.2.2.1 + n := by
  intro n
  induction n with
  | zero => intro x; exact Nat.le_refl _
  | succ n ih =>
    intro x
    have := ih (stp g be wy x)
    have := (stp_k (g := g) (be := be) (wy := wy) (x := x)).1
    show (itG g be wy n (stp g be wy x)).2.2.1 ≤ _
    omega
end IT
section LG
variable {g : PGr} {l : Nat}
theorem lnG_get (h : l < nL g) : g.2.2.2[l]? = some (lnG g l) := by
  have h : l < g.2.2.2.length := h
  unfold lnG
  rw [List.getD_eq_getElem?_getD, List.getElem?_eq_getElem h]
  rfl
theorem lnG_ok (hG : GK9 g) (h : l < nL g) : OKL (nS g) (nC g) (lnG g l) := hG.2.2.2.2.2.2.2.2.2 _ (List.mem_of_getElem? (lnG_get h))
theorem lnG_e1 (hG : GK9 g) (h : l < nL g) : OE9 (nC g) (lnG g l).2.2.2.1 := by
  obtain ⟨h1, h2, h3, h4, h5, h6, h7⟩ := lnG_ok hG h
  by_cases e : (lnG g l).1 = 6
  · exact Or.inr (h6 e)
  · exact Or.inl (h4 e)
theorem lnG_e2 (hG : GK9 g) (h : l < nL g) : OE9 (nC g) (lnG g l).2.2.2.2 := by
  obtain ⟨h1, h2, h3, h4, h5, h6, h7⟩ := lnG_ok hG h
  by_cases e : (lnG g l).1 = 3 ∨ (lnG g l).1 = 5
  · exact Or.inl (h5 e)
  · exact Or.inr (h7 e)
end LG
