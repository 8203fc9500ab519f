/-- a programme, how it is laid (stuffs, twins), the machine -/
abbrev MS : Type := PGr × (Nat → Nat) × (Nat → Nat) × PM
/-- a number that must be below n -/
def ixO (x : Int32) (n : Nat) : Option Nat := if ¬ x < 0 ∧ ¬ nI n ≤ x then some x.toNatClampNeg else none
theorem ixO_some {x : Int32} {n j : Nat} (hn : n < 2 ^ 31) (h : ixO x n = some j) : j < n ∧ x = nI j := by
  unfold ixO at h
  split at h
  · rename_i z
    obtain ⟨i, h1, h2, _, h4, _⟩ := pk_mu z.1 z.2 hn
    have : j = i := by rw [← Option.some.inj h, h4]
    subst this
    exact ⟨h1, h2⟩
  · cases h
theorem ixO_nI {n j : Nat} (hn : n < 2 ^ 31) (h : j < n) : ixO (nI j) n = some j := by
  unfold ixO
  rw [if_pos ⟨nI_pos (by omega), fun z => by have := (nI_leI (by omega) (by omega)).mp z; omega⟩, nI_clamp (by omega)]
theorem ixO_lt {x : Int32} {n : Nat} (h : x < 0) : ixO x n = none := if_neg (fun q => q.1 h)
theorem ixO_ge {x : Int32} {n : Nat} (h : nI n ≤ x) : ixO x n = none := if_neg (fun q => q.2 h)
theorem ixO_in {x : Int32} {n : Nat} (hn : n < 2 ^ 31) (h0 : ¬ x < 0) (h1 : ¬ nI n ≤ x) : ∃ j, j < n ∧ x = nI j ∧ ixO x n = some j := by
  obtain ⟨j, a, b, _, d, _⟩ := pk_mu h0 h1 hn
  exact ⟨j, a, b, by rw [b]; exact ixO_nI hn a⟩
theorem ixO_no {x : Int32} {n : Nat} (hn : n < 2 ^ 31) (h : ixO x n = none) : ¬ ∃ i, i < n ∧ x = nI i := fun ⟨i, hi, e⟩ => by
  rw [e, ixO_nI hn hi] at h
  cases h
theorem sq7_wi {x : Int32} {n : Nat} {Φ : Int32 → Prop} (hn : n < 2 ^ 31) (h0 : ixO x n = none → Φ 0) (h1 : ∀ j, j < n → x = nI j → ixO x n = some j → Φ 1) : wl_X7_within x (nI n) Φ := ⟨fun z => h0 (ixO_lt z), fun z => ⟨fun y => h0 (ixO_ge y), fun y => by
  obtain ⟨j, a, b, c⟩ := ixO_in hn z y
  exact h1 j a b c⟩⟩
theorem sq8_wi {x : Int32} {m : Nat} {Φ : Int32 → Prop} (hm : m + 1 < 2 ^ 31) (h0 : ixO x (m + 1) = none → Φ 0) (h1 : ∀ j, j < m + 1 → x = nI j → ixO x (m + 1) = some j → Φ 1) : wl_X8_within x 0 (nI m) Φ := ⟨fun z => h0 (ixO_lt z), fun z => ⟨fun y => h0 (by
  by_cases q : nI (m + 1) ≤ x
  · exact ixO_ge q
  · obtain ⟨j, a, b, c⟩ := ixO_in hm z q
    rw [b] at y
    have := (nI_ltI (by omega) (by omega)).mp y
    omega), fun y => by
  by_cases q : nI (m + 1) ≤ x
  · exfalso
    obtain ⟨j, a, b⟩ := nI_of2 (M := nI m) (n := m) (nI_toInt (by omega)) z (Int32.not_lt.mp y)
    rw [b] at q
    have := (nI_leI (by omega) (by omega)).mp q
    omega
  · obtain ⟨j, a, b, c⟩ := ixO_in hm z q
    exact h1 j a b c⟩⟩
theorem wh_ne {y : Int32} {n : Nat} (h : y.toInt < 0 ∨ (n : Int) < y.toInt) {j : Nat} (hj : j ≤ n) (hn : n < 1000) : ¬ y = nI j := fun e => by
  rw [e, nI_toInt (by omega)] at h
  omega
def f_stuff (m : MS) (x y : Int32) : Int32 := match ixO x (nS m.1) with
  | none => -1
  | some s => if y = 0 then nI (beS m.1 s) else if y = 1 then nI (coS m.1 s) else -1
def f_line (m : MS) (x y : Int32) : Int32 := match ixO x (nL m.1) with
  | none => -1
  | some l => if y = 0 then nI (lnG m.1 l).1 else if y = 1 then nI (m.2.1 l) else if y = 2 then nI (m.2.2.1 l) else if y = 3 then brG m.1 m.2.1 m.2.2.1 l else if y = 4 then m.2.2.2.2.2.2.1 l else -1
def layO (m : MS) (x y z : Int32) : Option (Nat × Nat × Nat) := match ixO x (nL m.1), ixO y (nS m.1), ixO z 5 with
  | some l, some s, some t => if t = 0 then none else some (l, s, t)
  | _, _, _ => none
def f_lay (m : MS) (x y z : Int32) : Int32 := match layO m x y z with
  | some _ => 1
  | none => 0
def s_lay (m : MS) (x y z : Int32) : MS := match layO m x y z with
  | some q => (m.1, updN m.2.1 q.1 q.2.1, updN m.2.2.1 q.1 q.2.2, m.2.2.2.1, m.2.2.2.2.1, m.2.2.2.2.2.1, upd m.2.2.2.2.2.2.1 q.1 0, m.2.2.2.2.2.2.2)
  | none => m
def csG (g : PGr) (sf tf : Nat → Nat) : Nat → Int32
  | 0 => 0
  | n + 1 => csG g sf tf n + nI (coS g (sf n)) * nI (tf n)
def f_cost (m : MS) : Int32 := csG m.1 m.2.1 m.2.2.1 (nL m.1)
def f_inputs (m : MS) : Int32 := nI (inN m.1)
def f_input (m : MS) (x y : Int32) : Int32 := match ixO x (inN m.1), ixO y (nC m.1) with
  | some i, some c => nI (inpG m.1 i c)
  | _, _ => -1
/-- an input that can be walked -/
def inQ (g : PGr) (x : Int32) : Option Nat := if 0 < nL g then ixO x (inN g) else none
def f_begin (m : MS) (x : Int32) : Int32 := match inQ m.1 x with
  | some _ => 1
  | none => 0
def s_begin (m : MS) (x : Int32) : MS := match inQ m.1 x with
  | some i => (m.1, m.2.1, m.2.2.1, bgG m.1 i m.2.2.2.2.2.2.1)
  | none => m
def f_run (m : MS) (x : Int32) : Int32 := match ixO x 1000001 with
  | some j => nI ((runH m.1 (brG m.1 m.2.1 m.2.2.1) j m.2.2.2).2.2.1 - m.2.2.2.2.2.1)
  | none => -1
def s_run (m : MS) (x : Int32) : MS := match ixO x 1000001 with
  | some j => (m.1, m.2.1, m.2.2.1, runH m.1 (brG m.1 m.2.1 m.2.2.1) j m.2.2.2)
  | none => m
def f_state (m : MS) (y : Int32) : Int32 := if y = 0 then nI m.2.2.2.1 else if y = 1 then (if m.2.2.2.1 = 0 ∨ m.2.2.2.1 = 2 then -1 else nI m.2.2.2.2.1) else if y = 2 then nI m.2.2.2.2.2.1 else if y = 3 then nI m.2.2.2.2.2.2.2.2.length else -1
def s_fresh (m : MS) : MS := (m.1, m.2.1, m.2.2.1, m.2.2.2.1, m.2.2.2.2.1, m.2.2.2.2.2.1, fun _ => 0, m.2.2.2.2.2.2.2)
def rn0 (m : MS) (i : Nat) : PM := rnG m.1 (brG m.1 m.2.1 m.2.2.1) 0 (bgG m.1 i (fun _ => 0))
def f_steps (m : MS) (x : Int32) : Int32 := match inQ m.1 x with
  | some i => if (rn0 m i).1 = 1 then -1 else nI (rn0 m i).2.2.1
  | none => -1
def f_falls (m : MS) (x : Int32) : Int32 := match inQ m.1 x with
  | some i => if (rn0 m i).1 = 3 then nI (rn0 m i).2.1 else -1
  | none => -1
def f_count (n : Nat) (m : MS) (y : Int32) : Int32 := if y = 0 then nI (nS m.1) else if y = 1 then nI (nC m.1) else if y = 2 then nI m.1.2.2.1.length else if y = 3 then nI (nL m.1) else if y = 4 then nI n else -1
/-- what may be trusted of a programme, its laying, its machine -/
def MO9 (m : MS) : Prop := GK9 m.1 ∧ LYo m.1 m.2.1 m.2.2.1 ∧ HMo m.1 m.2.2.2
section FC
variable {m : MS} {cl : Nat} {pst pce pgi pln : Int32} {be co to gc le gr ac sq tg fr mi en cd : Nat → Int32} {st tw : Nat → Int32} {s n k u : Int32} {wo ce ke : Nat → Int32}
theorem sq7_stuff {x y : Int32} {Φ : Int32 → Prop} (hQ : PQ9 m.1 pst pce pgi pln be co to gc le gr ac sq tg fr mi en cl cd) (h : Φ (f_stuff m x y)) : wl_X7_stuff pst be co x y Φ := by
  have h4 : nS m.1 ≤ 4 := hQ.1
  have est : pst = nI (nS m.1) := hQ.2.2.2.1
  have hS : SA9 m.1.1 be co := hQ.2.2.2.2.2.2.2.1
  unfold wl_X7_stuff
  rw [est]
  unfold f_stuff at h
  refine sq7_wi (by omega) (fun e => ⟨fun z => absurd rfl z, fun _ => by rw [e] at h; exact h⟩) (fun j hj ex e => ⟨fun _ => ?_, fun z => absurd z (by decide)⟩)
  rw [e] at h
  have h : Φ (if y = 0 then nI (beS m.1 j) else if y = 1 then nI (coS m.1 j) else -1) := h
  rw [ex, nI_clamp (n := j) (by omega), (hS.beZ hj).1, (hS.beZ hj).2]
  refine ⟨fun z _ => ?_, fun z _ => ?_, fun z z2 => ?_⟩
  · rw [if_pos z] at h; exact h
  · rw [z, if_neg (by decide), if_pos rfl] at h; exact h
  · rw [if_neg z, if_neg z2] at h; exact h
theorem sq7_line {x y : Int32} {Φ : Int32 → Prop} (hQ : PQ9 m.1 pst pce pgi pln be co to gc le gr ac sq tg fr mi en cl cd) (hO : MO9 m) (hc : CLs m.1 m.2.1 m.2.2.1 st tw) (hw : AGn 16 m.2.2.2.2.2.2.1 wo) (h : Φ (f_line m x y)) : wl_X7_line st tw wo pln be ac x y Φ := by
  have h16 : nL m.1 ≤ 16 := hQ.2.2.1
  have eln : pln = nI (nL m.1) := hQ.2.2.2.2.2.2.1
  have hS : SA9 m.1.1 be co := hQ.2.2.2.2.2.2.2.1
  have hA : LA9 m.1.2.2.2 ac sq tg fr mi en := hQ.2.2.2.2.2.2.2.2.2.2.1
  unfold wl_X7_line
  rw [eln]
  unfold f_line at h
  refine sq7_wi (by omega) (fun e => ⟨fun z => absurd rfl z, fun _ => by rw [e] at h; exact h⟩) (fun j hj ex e => ⟨fun _ => ?_, fun z => absurd z (by decide)⟩)
  rw [e] at h
  have h : Φ (if y = 0 then nI (lnG m.1 j).1 else if y = 1 then nI (m.2.1 j) else if y = 2 then nI (m.2.2.1 j) else if y = 3 then brG m.1 m.2.1 m.2.2.1 j else if y = 4 then m.2.2.2.2.2.2.1 j else -1) := h
  rw [ex, nI_clamp (n := j) (by omega), (hA.atZ hj).1, (hc j hj).1, (hc j hj).2, hw j (by omega)]
  refine ⟨fun z _ => ?_, fun z _ => ?_, fun z _ => ?_, fun z => ?_, fun z _ => ?_, fun z => ?_⟩
  · rw [if_pos z] at h; exact h
  · rw [z, if_neg (by decide), if_pos rfl] at h; exact h
  · rw [z, if_neg (by decide), if_neg (by decide), if_pos rfl] at h; exact h
  · rw [z, if_neg (by decide), if_neg (by decide), if_neg (by decide), if_pos rfl] at h
    exact sq1_bearing hS hO.1 hO.2.1 hc hj h
  · rw [z, if_neg (by decide), if_neg (by decide), if_neg (by decide), if_neg (by decide), if_pos rfl] at h; exact h
  · have q := fun i hi => wh_ne (n := 4) z (j := i) hi (by decide)
    rw [if_neg (show ¬ y = 0 from q 0 (by decide)), if_neg (show ¬ y = 1 from q 1 (by decide)), if_neg (show ¬ y = 2 from q 2 (by decide)), if_neg (show ¬ y = 3 from q 3 (by decide)), if_neg (show ¬ y = 4 from q 4 (by decide))] at h
    exact h
theorem CLs.layZ {g : PGr} {sf tf : Nat → Nat} {l s t : Nat} (h : CLs g sf tf st tw) : CLs g (updN sf l s) (updN tf l t) (upd st l (nI s)) (upd tw l (nI t)) := by
  intro i hi
  unfold updN
  by_cases e : i = l
  · rw [e, pk_us, pk_us, if_pos rfl, if_pos rfl]; exact ⟨rfl, rfl⟩
  · rw [pk_un e, pk_un e, if_neg e, if_neg e]; exact h i hi
theorem LYo.layZ {g : PGr} {sf tf : Nat → Nat} {l s t : Nat} (h : LYo g sf tf) (hs : s < nS g) (h1 : 1 ≤ t) (h4 : t ≤ 4) : LYo g (updN sf l s) (updN tf l t) := by
  intro i hi
  unfold updN
  by_cases e : i = l
  · rw [if_pos e, if_pos e]; exact ⟨hs, h1, h4⟩
  · rw [if_neg e, if_neg e]; exact h i hi
theorem layO_some {x y z : Int32} {q : Nat × Nat × Nat} (h : layO m x y z = some q) : ixO x (nL m.1) = some q.1 ∧ ixO y (nS m.1) = some q.2.1 ∧ ixO z 5 = some q.2.2 ∧ ¬ q.2.2 = 0 := by
  unfold layO at h
  split at h
  · rename_i l s t e1 e2 e3
    split at h
    · cases h
    · rename_i h0
      rw [← Option.some.inj h]
      exact ⟨e1, e2, e3, h0⟩
  · cases h
theorem MO9.layZ {x y z : Int32} (h : MO9 m) : MO9 (s_lay m x y z) := by
  unfold s_lay
  cases hq : layO m x y z with
  | none => exact h
  | some q =>
    obtain ⟨a, b, c, d⟩ := layO_some hq
    have h4 : nS m.1 ≤ 4 := h.1.1
    have hs := (ixO_some (by omega) b).1
    have ht := (ixO_some (by decide) c).1
    exact ⟨h.1, h.2.1.layZ hs (by omega) (by omega), h.2.2⟩
theorem CH9.woZ {wo2 : Nat → Int32} {g : PGr} {x : PM} {O2 : Nat → Int32} (h : CH9 g x s n k u wo ce ke) (h2 : AGn 16 O2 wo2) : CH9 g (x.1, x.2.1, x.2.2.1, O2, x.2.2.2.2) s n k u wo2 ce ke := ⟨h.1, h.2.1, h.2.2.1, h.2.2.2.1, h2, h.2.2.2.2.2.1, h.2.2.2.2.2.2⟩
theorem sq7_lay {x y z : Int32} {Φ : Int32 → (Nat → Int32) → (Nat → Int32) → (Nat → Int32) → Prop} (hQ : PQ9 m.1 pst pce pgi pln be co to gc le gr ac sq tg fr mi en cl cd) (hc : CLs m.1 m.2.1 m.2.2.1 st tw) (hM : CH9 m.1 m.2.2.2 s n k u wo ce ke) (h : ∀ st' tw' wo', CLs m.1 (s_lay m x y z).2.1 (s_lay m x y z).2.2.1 st' tw' → CH9 m.1 (s_lay m x y z).2.2.2 s n k u wo' ce ke → Φ (f_lay m x y z) st' tw' wo') : wl_X7_lay pst pln x y z st tw wo Φ := by
  have h16 : nL m.1 ≤ 16 := hQ.2.2.1
  have h4 : nS m.1 ≤ 4 := hQ.1
  have eln : pln = nI (nL m.1) := hQ.2.2.2.2.2.2.1
  have est : pst = nI (nS m.1) := hQ.2.2.2.1
  have no : layO m x y z = none → Φ 0 st tw wo := fun e => by
    unfold s_lay f_lay at h
    rw [e] at h
    exact h st tw wo hc hM
  unfold wl_X7_lay
  rw [eln, est]
  refine sq7_wi (by omega) (fun e => ⟨fun _ => no ?_, fun q => absurd rfl q⟩) (fun l hl el e1 => ⟨fun q => absurd q (by decide), fun _ => sq7_wi (by omega) (fun e => ⟨fun _ => no ?_, fun q => absurd rfl q⟩) (fun s hs es e2 => ⟨fun q => absurd q (by decide), fun _ => ⟨fun q => no ?_, fun q => ⟨fun q2 => ?_, fun q2 => no ?_⟩⟩⟩)⟩)
  · unfold layO; rw [e]
  · unfold layO; rw [e1, e]
  · unfold layO
    rw [e1, e2]
    cases e3 : ixO z 5 with
    | none => rfl
    | some t =>
      obtain ⟨h5, et⟩ := ixO_some (by decide) e3
      rw [et] at q
      have : t < 1 := (nI_ltI (b := 1) (by omega) (by decide)).mp q
      show (if t = 0 then none else some (l, s, t)) = none
      rw [if_pos (by omega)]
  · obtain ⟨t, ht, et⟩ := nI_of2 (M := 4) (n := 4) (by decide) (fun q3 => q (Int32.lt_of_lt_of_le q3 (by decide))) q2
    have e3 : ixO z 5 = some t := by rw [et]; exact ixO_nI (by decide) (by omega)
    have t0 : ¬ t = 0 := fun e => by rw [et, e] at q; exact q (by decide)
    have el2 : layO m x y z = some (l, s, t) := by unfold layO; rw [e1, e2, e3]; exact if_neg t0
    unfold s_lay f_lay at h
    rw [el2] at h
    rw [el, es, et, nI_clamp (n := l) (by omega)]
    exact fun _ _ _ => h _ _ _ hc.layZ (hM.woZ hM.2.2.2.2.1.updZ)
  · unfold layO
    rw [e1, e2]
    cases e3 : ixO z 5 with
    | none => rfl
    | some t =>
      obtain ⟨h5, et⟩ := ixO_some (by decide) e3
      rw [et] at q2
      exact absurd ((nI_leI (b := 4) (by omega) (by decide)).mpr (by omega)) q2
theorem sq7_cost {Φ : Int32 → Prop} (hQ : PQ9 m.1 pst pce pgi pln be co to gc le gr ac sq tg fr mi en cl cd) (hO : MO9 m) (hc : CLs m.1 m.2.1 m.2.2.1 st tw) (h : Φ (f_cost m)) : wl_X7_cost st tw pln co Φ := by
  have h16 : nL m.1 ≤ 16 := hQ.2.2.1
  have h4 : nS m.1 ≤ 4 := hQ.1
  have eln : pln = nI (nL m.1) := hQ.2.2.2.2.2.2.1
  have hS : SA9 m.1.1 be co := hQ.2.2.2.2.2.2.2.1
  have key : ∀ (f l : Nat), l ≤ nL m.1 → ll_X7_cost_4 st tw pln co Φ f (csG m.1 m.2.1 m.2.2.1 l) (nI l) := by
    intro f
    induction f with
    | zero => intros; trivial
    | succ f ih =>
      intro l hl
      show bl_X7_cost_4 _ _ _ _ _ _ _ _
      unfold bl_X7_cost_4
      rw [eln, nI_leI (by omega) (by omega), ← eln, nI_clamp (n := l) (by omega), nI_1]
      refine ⟨fun z => ?_, fun z _ _ _ => ?_⟩
      · have : l = nL m.1 := by omega
        subst this
        exact h
      · have hlt : l < nL m.1 := by omega
        obtain ⟨hs, _, _⟩ := hO.2.1 l hlt
        rw [(hc l hlt).1, (hc l hlt).2, nI_clamp (n := m.2.1 l) (by omega), (hS.beZ hs).2]
        exact ih (l + 1) (by omega)
  exact fun f => key f 0 (Nat.zero_le _)
theorem sq7_inputs {Φ : Int32 → Prop} (hQ : PQ9 m.1 pst pce pgi pln be co to gc le gr ac sq tg fr mi en cl cd) (h : Φ (f_inputs m)) : wl_X7_inputs pgi le gr Φ := by
  obtain ⟨q1, q2, q3, q4, q5, q6, q7, q8, q9, ⟨i1, i2, i3, i4⟩, q11, q12, q13, q14⟩ := hQ
  unfold wl_X7_inputs
  rw [q6]
  exact sq2_icount i1 h
theorem inN_64 {g : PGr} (hG : GK9 g) : inN g ≤ 64 := hG.2.2.2.2.2.2.1
theorem sq7_input {x y : Int32} {Φ : Int32 → Prop} (hQ : PQ9 m.1 pst pce pgi pln be co to gc le gr ac sq tg fr mi en cl cd) (hO : MO9 m) (h : Φ (f_input m x y)) : wl_X7_input pce pgi to gc le gr x y Φ := by
  have hQ' := hQ
  obtain ⟨q1, q2, q3, q4, q5, q6, q7, q8, q9, ⟨i1, i2, i3, i4⟩, q11, q12, q13, q14⟩ := hQ
  have h64 := inN_64 hO.1
  have h6 : nC m.1 ≤ 6 := q2
  have ece : pce = nI (nC m.1) := q5
  unfold f_input at h
  unfold wl_X7_input
  rw [q6]
  refine sq2_icount i1 (sq7_wi (n := inN m.1) (by omega) (fun e => ⟨fun _ => by rw [e] at h; exact h, fun z => absurd rfl z⟩) (fun i hi ei e1 => ⟨fun z => absurd z (by decide), fun _ => ?_⟩))
  rw [ece]
  refine sq7_wi (by omega) (fun e => ⟨fun z => absurd rfl z, fun _ => by rw [e1, e] at h; exact h⟩) (fun c hc ec e2 => ⟨fun _ => ?_, fun z => absurd z (by decide)⟩)
  rw [e1, e2] at h
  rw [ei, ec, ← q6]
  exact sq2_atFirst hQ' hO.1 hi hc h
theorem inQ_some {g : PGr} {x : Int32} {i : Nat} (hG : GK9 g) (h : inQ g x = some i) : 0 < nL g ∧ i < inN g ∧ x = nI i := by
  unfold inQ at h
  split at h
  · rename_i z
    obtain ⟨a, b⟩ := ixO_some (by have := inN_64 hG; omega) h
    exact ⟨z, a, b⟩
  · cases h
theorem inQ_no {g : PGr} {x : Int32} (hG : GK9 g) (h : ¬ (0 < nL g ∧ ∃ i, i < inN g ∧ x = nI i)) : inQ g x = none := by
  cases e : inQ g x with
  | none => rfl
  | some i =>
    obtain ⟨a, b, c⟩ := inQ_some hG e
    exact absurd ⟨a, i, b, c⟩ h
theorem inQ_yes {g : PGr} {x : Int32} {i : Nat} (hG : GK9 g) (h0 : 0 < nL g) (hi : i < inN g) (e : x = nI i) : inQ g x = some i := by
  unfold inQ
  rw [if_pos h0, e]
  exact ixO_nI (by have := inN_64 hG; omega) hi
theorem sq7_cw {x : Int32} {Φ : Int32 → Prop} (hQ : PQ9 m.1 pst pce pgi pln be co to gc le gr ac sq tg fr mi en cl cd) (hO : MO9 m) (h0 : inQ m.1 x = none → Φ 0) (h1 : ∀ i, 0 < nL m.1 → i < inN m.1 → x = nI i → inQ m.1 x = some i → Φ 1) : wl_X7_canWalk pgi pln le gr x Φ := sq7_canWalk hQ (fun z => h0 (inQ_no hO.1 z)) (fun i a b c => h1 i a b c (inQ_yes hO.1 a b c))
theorem sq7_begin {x : Int32} {Φ : Int32 → Int32 → Int32 → Int32 → Int32 → (Nat → Int32) → Prop} (hQ : PQ9 m.1 pst pce pgi pln be co to gc le gr ac sq tg fr mi en cl cd) (hO : MO9 m) (hM : CH9 m.1 m.2.2.2 s n k u wo ce ke) (h : ∀ s' n' k' u' ce', CH9 m.1 (s_begin m x).2.2.2 s' n' k' u' wo ce' ke → Φ (f_begin m x) s' n' k' u' ce') : wl_X7_begin pce pgi pln to gc le gr x s n k u ce Φ := by
  unfold wl_X7_begin
  unfold s_begin f_begin at h
  refine sq7_cw hQ hO (fun e => ⟨fun z => absurd rfl z, fun _ => ?_⟩) (fun i h0 hi ex e => ⟨fun _ => ?_, fun z => absurd z (by decide)⟩)
  · rw [e] at h
    exact h _ _ _ _ _ hM
  · rw [e] at h
    rw [ex]
    exact sq1_start hQ hO.1 hi (fun ce' hce => h _ _ _ _ _ ⟨rfl, rfl, rfl, rfl, hM.2.2.2.2.1, fun _ => hce, KE9.nil⟩)
theorem MO9.beginZ {x : Int32} (h : MO9 m) : MO9 (s_begin m x) := by
  unfold s_begin
  cases e : inQ m.1 x with
  | none => exact h
  | some i =>
    obtain ⟨a, b, c⟩ := inQ_some h.1 e
    exact ⟨h.1, h.2.1, (by decide : 1 ≤ 4), Nat.zero_le _, fun _ => a, Nat.zero_le _, (by decide : 0 ≤ 1000000), fun z => absurd (show (1 : Nat) = 0 from z) (by decide)⟩
theorem MO9.runZ {x : Int32} (h : MO9 m) : MO9 (s_run m x) := by
  unfold s_run
  cases e : ixO x 1000001 with
  | none => exact h
  | some i => exact ⟨h.1, h.2.1, h.2.2.runZ⟩
theorem sq7_runM {x : Int32} {sk : Nat → Int32} {Φ : PSq} (hQ : PQ9 m.1 pst pce pgi pln be co to gc le gr ac sq tg fr mi en cl cd) (hO : MO9 m) (hc : CLs m.1 m.2.1 m.2.2.1 st tw) (hM : CH9 m.1 m.2.2.2 s n k u wo ce ke) (h : ∀ s' n' k' u' wo' ce' ke' sk', CH9 m.1 (s_run m x).2.2.2 s' n' k' u' wo' ce' ke' → Φ (f_run m x) s' n' k' u' wo' ce' ke' sk') : wl_X7_run 0 st tw pln be ac tg fr mi en cd cl x s n k u wo ce ke sk Φ := by
  unfold s_run f_run at h
  refine sq7_run hQ hO.1 hO.2.1 hc hO.2.2 hM (fun z => ?_) (fun j hj ex s' n' k' u' wo' ce' ke' sk' hM' => ?_)
  · have e : ixO x 1000001 = none := by
      cases e : ixO x 1000001 with
      | none => rfl
      | some j =>
        obtain ⟨a, b⟩ := ixO_some (by decide) e
        exact absurd ⟨j, by omega, b⟩ z
    rw [e] at h
    exact h _ _ _ _ _ _ _ _ hM
  · have e : ixO x 1000001 = some j := by rw [ex]; exact ixO_nI (by decide) (by omega)
    rw [e] at h
    exact h _ _ _ _ _ _ _ _ hM'
theorem sq7_state {y : Int32} {Φ : Int32 → Prop} (hO : MO9 m) (hM : CH9 m.1 m.2.2.2 s n k u wo ce ke) (h : Φ (f_state m y)) : wl_X7_state s n k u y Φ := by
  have h4 := hO.2.2.1
  obtain ⟨m1, m2, m3, m4, _⟩ := hM
  unfold f_state at h
  unfold wl_X7_state
  have q0 : s = 0 ↔ m.2.2.2.1 = 0 := by rw [m1]; exact nI_eq (b := 0) (by omega) (by decide)
  have q2 : s = 2 ↔ m.2.2.2.1 = 2 := by rw [m1]; exact nI_eq (b := 2) (by omega) (by decide)
  rw [q0, q2]
  refine ⟨fun z => ?_, fun z => ⟨fun y0 => ?_, fun y0 => ⟨fun y2 => ?_, fun y2 => ?_⟩⟩, fun z => ?_, fun z => ?_, fun z => ?_⟩
  · rw [if_pos z] at h; rw [m1]; exact h
  · rw [z, if_neg (by decide), if_pos rfl, if_pos (Or.inl y0)] at h; exact h
  · rw [z, if_neg (by decide), if_pos rfl, if_neg (fun q => q.elim y0 y2)] at h; rw [m2]; exact h
  · rw [z, if_neg (by decide), if_pos rfl, if_pos (Or.inr y2)] at h; exact h
  · rw [z, if_neg (by decide), if_neg (by decide), if_pos rfl] at h; rw [m3]; exact h
  · rw [z, if_neg (by decide), if_neg (by decide), if_neg (by decide), if_pos rfl] at h; rw [m4]; exact h
  · have q := fun i hi => wh_ne (n := 3) z (j := i) hi (by decide)
    rw [if_neg (show ¬ y = 0 from q 0 (by decide)), if_neg (show ¬ y = 1 from q 1 (by decide)), if_neg (show ¬ y = 2 from q 2 (by decide)), if_neg (show ¬ y = 3 from q 3 (by decide))] at h
    exact h
theorem sq7_fresh {Φ : Int32 → (Nat → Int32) → Prop} (hM : CH9 m.1 m.2.2.2 s n k u wo ce ke) (h : ∀ wo', CH9 m.1 (s_fresh m).2.2.2 s n k u wo' ce ke → Φ 1 wo') : wl_X7_fresh wo Φ := by
  unfold wl_X7_fresh
  exact sq_fill (rl := 16) (by decide) (fun wo' h0 _ => h wo' (hM.woZ (fun j hj => h0 j hj)))
theorem MO9.freshZ (h : MO9 m) : MO9 (s_fresh m) := h
theorem sq7_count {l : Nat} {y : Int32} {Φ : Int32 → Prop} (hQ : PQ9 m.1 pst pce pgi pln be co to gc le gr ac sq tg fr mi en cl cd) (h : Φ (f_count l m y)) : wl_X7_count (nI l) pst pce pgi pln y Φ := by
  obtain ⟨q1, q2, q3, q4, q5, q6, q7, _⟩ := hQ
  unfold f_count at h
  unfold wl_X7_count
  rw [q4, q5, q6, q7]
  refine ⟨fun z => ?_, fun z => ?_, fun z => ?_, fun z => ?_, fun z => ?_, fun z => ?_⟩
  · rw [if_pos z] at h; exact h
  · rw [z, if_neg (by decide), if_pos rfl] at h; exact h
  · rw [z, if_neg (by decide), if_neg (by decide), if_pos rfl] at h; exact h
  · rw [z, if_neg (by decide), if_neg (by decide), if_neg (by decide), if_pos rfl] at h; exact h
  · rw [z, if_neg (by decide), if_neg (by decide), if_neg (by decide), if_neg (by decide), if_pos rfl] at h; exact h
  · have q := fun i hi => wh_ne (n := 4) z (j := i) hi (by decide)
    rw [if_neg (show ¬ y = 0 from q 0 (by decide)), if_neg (show ¬ y = 1 from q 1 (by decide)), if_neg (show ¬ y = 2 from q 2 (by decide)), if_neg (show ¬ y = 3 from q 3 (by decide)), if_neg (show ¬ y = 4 from q 4 (by decide))] at h
    exact h
end FC
