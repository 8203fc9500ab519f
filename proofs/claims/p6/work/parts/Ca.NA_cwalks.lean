def rn2 (m : MS) (i : Nat) : PM := rnG m.1 (brG m.1 m.2.1 m.2.2.1) 2 (bgG m.1 i (fun _ => 0))
/-- of the inputs that fall the one with the fewest steps, then the first -/
def fsG (rn : Nat → PM) : Nat → Option Nat
  | 0 => none
  | k + 1 => match fsG rn k with
    | none => if (rn k).1 = 3 then some k else none
    | some b => if (rn k).1 = 3 ∧ (rn k).2.2.1 < (rn b).2.2.1 then some k else some b
def f_first (m : MS) (y : Int32) : Int32 := if 0 < nL m.1 then (match fsG (rn0 m) (inN m.1) with
  | none => -1
  | some b => if y = 0 then nI b else if y = 1 then nI (rn0 m b).2.2.1 else if y = 2 then nI (rn0 m b).2.1 else -1) else -1
/-- the first from i on, of f -/
def fdG (P : Nat → Bool) : Nat → Nat → Option Nat
  | 0, _ => none
  | f + 1, i => if P i = true then some i else fdG P f (i + 1)
def f_apart (m : MS) : Int32 := if 0 < nL m.1 then (match fdG (fun i => decide (¬ (rn0 m i).2.2.2.2.2 = (rn2 m i).2.2.2.2.2)) (inN m.1) 0 with
  | none => -1
  | some i => nI i) else -1
/-- how many rounds more: at most f -/
def rdG (g : PGr) (be : Nat → Int32) (i : Nat) : Nat → Nat → (Nat → Int32) → Nat
  | 0, n, _ => n
  | f + 1, n, wo => if (itG g be 0 1000 (bgG g i wo)).1 = 2 then rdG g be i f (n + 1) (itG g be 0 1000 (bgG g i wo)).2.2.2.1 else n
def f_rounds (m : MS) (x : Int32) : Int32 := match inQ m.1 x with
  | some i => nI (rdG m.1 (brG m.1 m.2.1 m.2.2.1) i 100 0 (fun _ => 0))
  | none => -1
theorem rn_pmo {g : PGr} {be : Nat → Int32} {wy i : Nat} (hn : 0 < nL g) : PMo g wy (rnG g be wy (bgG g i (fun _ => 0))) := PMo.pflZ (PMo.itZ 1000 _ (PMo.bg hn (fun _ _ _ => rfl)))
theorem rn_k {g : PGr} {be : Nat → Int32} {wy i : Nat} {wo : Nat → Int32} : (rnG g be wy (bgG g i wo)).2.2.1 ≤ 1000 := by
  have h := it_k (g := g) (be := be) (wy := wy) 1000 (bgG g i wo)
  have e : (rnG g be wy (bgG g i wo)).2.2.1 = (itG g be wy 1000 (bgG g i wo)).2.2.1 := by rw [rnG_2]
  have e0 : (bgG g i wo).2.2.1 = 0 := rfl
  omega
theorem rn0_k (m : MS) (i : Nat) : (rn0 m i).2.2.1 ≤ 1000 := by
  unfold rn0
  exact rn_k
theorem rn2_k (m : MS) (i : Nat) : (rn2 m i).2.2.1 ≤ 1000 := by
  unfold rn2
  exact rn_k
theorem fsG_lt {rn : Nat → PM} : ∀ {k b : Nat}, fsG rn k = some b → b < k := by
  intro k
  induction k with
  | zero => intro b h; cases h
  | succ k ih =>
    intro b h
    have h : (match fsG rn k with
      | none => if (rn k).1 = 3 then some k else none
      | some b => if (rn k).1 = 3 ∧ (rn k).2.2.1 < (rn b).2.2.1 then some k else some b) = some b := h
    cases e : fsG rn k with
    | none =>
      rw [e] at h
      have h : (if (rn k).1 = 3 then some k else none) = some b := h
      split at h
      · have := Option.some.inj h; omega
      · cases h
    | some c =>
      rw [e] at h
      have h : (if (rn k).1 = 3 ∧ (rn k).2.2.1 < (rn c).2.2.1 then some k else some c) = some b := h
      have := ih e
      split at h
      · have := Option.some.inj h; omega
      · have := Option.some.inj h; omega
def AWq (r : Int32) (Φ : PW1) : Prop := ∀ (wp : Nat) (ww ws wn wa wb : Int32) (wst wtw wwo wce wke wsk : Nat → Int32), Φ r wp ww ws wn wa wb wst wtw wwo wce wke wsk
def AWq2 (r : Int32) (Φ : PW2) : Prop := ∀ (wp : Nat) (ww ws wn wa wb : Int32) (wst wtw wwo wce wke wsk : Nat → Int32) (gp : Nat) (gw gs gn ga gb : Int32) (gst gtw gwo gce gke gsk : Nat → Int32), Φ r wp ww ws wn wa wb wst wtw wwo wce wke wsk gp gw gs gn ga gb gst gtw gwo gce gke gsk
section WC
variable {m : MS} {cl pg wp : Nat} {pst pce pgi pln : Int32} {be co to gc le gr ac sq tg fr mi en cd : Nat → Int32} {st tw : Nat → Int32} {ww ws wn wa wb : Int32} {wst wtw wwo wce wke wsk : Nat → Int32}
theorem sq7_steps {x : Int32} {Φ : PW1} (hQ : PQ9 m.1 pst pce pgi pln be co to gc le gr ac sq tg fr mi en cl cd) (hO : MO9 m) (hc : CLs m.1 m.2.1 m.2.2.1 st tw) (h : AWq (f_steps m x) Φ) : wl_X7_steps st tw pce pgi pln be to gc le gr ac tg fr mi en cd cl pg x wp ww ws wn wa wb wst wtw wwo wce wke wsk Φ := by
  unfold wl_X7_steps
  unfold f_steps at h
  refine sq7_cw hQ hO (fun e => ⟨fun z => absurd rfl z, fun _ => by rw [e] at h; exact h _ _ _ _ _ _ _ _ _ _ _ _⟩) (fun i h0 hi ex e => ⟨fun _ => ?_, fun z => absurd z (by decide)⟩)
  rw [e] at h
  have h : AWq (if (rn0 m i).1 = 1 then -1 else nI (rn0 m i).2.2.1) Φ := h
  rw [ex]
  have hp : PMo m.1 0 (rn0 m i) := rn_pmo h0
  refine sq7_walk (wy := 0) (kn := 1000) hQ hO.1 hO.2.1 hc (by decide) h0 hi (by decide) (fun s' n' k' u' st' tw' wo' ce' ke' sk' hM => ?_)
  have hM : CM9 m.1 1000 (rn0 m i) s' n' k' u' wo' ce' ke' := hM
  have q1 : s' = 1 ↔ (rn0 m i).1 = 1 := by rw [hM.1]; exact nI_eq (b := 1) (by have := hp.1; omega) (by decide)
  unfold wl_X1_isEndless
  rw [q1]
  refine ⟨fun z => ⟨fun _ => ?_, fun y => absurd rfl y⟩, fun z => ⟨fun y => absurd y (by decide), fun _ => ?_⟩⟩
  · rw [if_neg z] at h
    rw [hM.2.2.1]
    exact h _ _ _ _ _ _ _ _ _ _ _ _
  · rw [if_pos z] at h
    exact h _ _ _ _ _ _ _ _ _ _ _ _
theorem sq7_falls {x : Int32} {Φ : PW1} (hQ : PQ9 m.1 pst pce pgi pln be co to gc le gr ac sq tg fr mi en cl cd) (hO : MO9 m) (hc : CLs m.1 m.2.1 m.2.2.1 st tw) (h : AWq (f_falls m x) Φ) : wl_X7_falls st tw pce pgi pln be to gc le gr ac tg fr mi en cd cl pg x wp ww ws wn wa wb wst wtw wwo wce wke wsk Φ := by
  unfold wl_X7_falls
  unfold f_falls at h
  refine sq7_cw hQ hO (fun e => ⟨fun z => absurd rfl z, fun _ => by rw [e] at h; exact h _ _ _ _ _ _ _ _ _ _ _ _⟩) (fun i h0 hi ex e => ⟨fun _ => ?_, fun z => absurd z (by decide)⟩)
  rw [e] at h
  have h : AWq (if (rn0 m i).1 = 3 then nI (rn0 m i).2.1 else -1) Φ := h
  rw [ex]
  have hp : PMo m.1 0 (rn0 m i) := rn_pmo h0
  refine sq7_walk (wy := 0) (kn := 1000) hQ hO.1 hO.2.1 hc (by decide) h0 hi (by decide) (fun s' n' k' u' st' tw' wo' ce' ke' sk' hM => ?_)
  have hM : CM9 m.1 1000 (rn0 m i) s' n' k' u' wo' ce' ke' := hM
  have q3 : s' = 3 ↔ (rn0 m i).1 = 3 := by rw [hM.1]; exact nI_eq (b := 3) (by have := hp.1; omega) (by decide)
  rw [q3]
  refine ⟨fun z => ?_, fun z => ?_⟩
  · rw [if_neg z] at h
    exact h _ _ _ _ _ _ _ _ _ _ _ _
  · rw [if_pos z] at h
    rw [hM.2.1]
    exact h _ _ _ _ _ _ _ _ _ _ _ _
/-- the numbers of the best so far -/
def fbI (rn : Nat → PM) : Option Nat → Int32 × Int32
  | none => (-1, 0)
  | some b => (nI b, nI (rn b).2.2.1)
theorem sq7_ftf {Φ : PW1} (hQ : PQ9 m.1 pst pce pgi pln be co to gc le gr ac sq tg fr mi en cl cd) (hO : MO9 m) (hc : CLs m.1 m.2.1 m.2.2.1 st tw) (h : AWq (if 0 < nL m.1 then (fbI (rn0 m) (fsG (rn0 m) (inN m.1))).1 else -1) Φ) : wl_X7_firstToFall st tw pce pgi pln be to gc le gr ac tg fr mi en cd cl pg wp ww ws wn wa wb wst wtw wwo wce wke wsk Φ := by
  have hQ' := hQ
  obtain ⟨q1, q2, q3, q4, q5, q6, q7, q8, q9, ⟨i1, i2, i3, i4⟩, q11, q12, q13, q14⟩ := hQ
  have h16 : nL m.1 ≤ 16 := q3
  have eln : pln = nI (nL m.1) := q7
  have h64 := inN_64 hO.1
  unfold wl_X7_firstToFall
  have q0 : pln = 0 ↔ nL m.1 = 0 := by rw [eln]; exact nI_eq (b := 0) (by omega) (by decide)
  rw [q0]
  refine ⟨fun z => ?_, fun z => ?_⟩
  rotate_left
  · rw [if_neg (by omega)] at h
    exact h _ _ _ _ _ _ _ _ _ _ _ _
  have h0 : 0 < nL m.1 := by omega
  rw [if_pos h0] at h
  have key : ∀ (f i : Nat) (wp : Nat) (ww ws wn wa wb : Int32) (wst wtw wwo wce wke wsk : Nat → Int32), i ≤ inN m.1 → ll_X7_firstToFall_33 st tw pce pgi pln be to gc le gr ac tg fr mi en cd cl pg Φ f wp ww ws wn wa wb wst wtw wwo wce wke wsk (fbI (rn0 m) (fsG (rn0 m) i)).1 (fbI (rn0 m) (fsG (rn0 m) i)).2 (nI (inN m.1)) (nI i) := by
    intro f
    induction f with
    | zero => intros; trivial
    | succ f ih =>
      intro i wp ww ws wn wa wb wst wtw wwo wce wke wsk hi
      show bl_X7_firstToFall_33 _ _ _ _ _ _ _ _ _ _ _ _ _ _ _ _ _ _ _ _ _ _ _ _ _ _ _ _ _ _ _ _ _ _ _ _
      unfold bl_X7_firstToFall_33
      rw [nI_leI (by omega) (by omega), nI_1]
      refine ⟨fun y => ?_, fun y => ?_⟩
      · have : i = inN m.1 := by omega
        subst this
        exact h _ _ _ _ _ _ _ _ _ _ _ _
      · have hp : PMo m.1 0 (rn0 m i) := rn_pmo h0
        have hk : (rn0 m i).2.2.1 ≤ 1000 := rn0_k m i
        refine sq7_walk (wy := 0) (kn := 1000) hQ' hO.1 hO.2.1 hc (by decide) h0 (by omega) (by decide) (fun s' n' k' u' st' tw' wo' ce' ke' sk' hM => ?_)
        have hM : CM9 m.1 1000 (rn0 m i) s' n' k' u' wo' ce' ke' := hM
        have q3 : s' = 3 ↔ (rn0 m i).1 = 3 := by rw [hM.1]; exact nI_eq (b := 3) (by have := hp.1; omega) (by decide)
        have nx := fun wp ww ws wn wa wb wst wtw wwo wce wke wsk => ih (i + 1) wp ww ws wn wa wb wst wtw wwo wce wke wsk (by omega)
        have ef : fsG (rn0 m) (i + 1) = (match fsG (rn0 m) i with
          | none => if (rn0 m i).1 = 3 then some i else none
          | some b => if (rn0 m i).1 = 3 ∧ (rn0 m i).2.2.1 < (rn0 m b).2.2.1 then some i else some b) := rfl
        rw [q3, hM.2.2.1]
        cases e : fsG (rn0 m) i with
        | none =>
          rw [e] at ef
          have ef : fsG (rn0 m) (i + 1) = if (rn0 m i).1 = 3 then some i else none := ef
          refine ⟨fun w => ?_, fun w => ⟨fun _ => ?_, fun v => absurd rfl v⟩⟩
          · rw [if_neg w] at ef
            rw [ef] at nx
            exact nx _ _ _ _ _ _ _ _ _ _ _ _
          · rw [if_pos w] at ef
            rw [ef] at nx
            exact nx _ _ _ _ _ _ _ _ _ _ _ _
        | some b =>
          have hb := fsG_lt e
          have hkb : (rn0 m b).2.2.1 ≤ 1000 := rn0_k m b
          rw [e] at ef
          have ef : fsG (rn0 m) (i + 1) = if (rn0 m i).1 = 3 ∧ (rn0 m i).2.2.1 < (rn0 m b).2.2.1 then some i else some b := ef
          have nb : ¬ nI b = -1 := fun z => by
            have h1 : (nI b).toInt = (b : Int) := nI_toInt (by omega)
            rw [z] at h1
            have : ((-1 : Int32)).toInt = -1 := rfl
            omega
          refine ⟨fun w => ?_, fun w => ⟨fun v => absurd v nb, fun _ => ?_⟩⟩
          · rw [if_neg (fun q => w q.1)] at ef
            rw [ef] at nx
            exact nx _ _ _ _ _ _ _ _ _ _ _ _
          · show (nI (rn0 m b).2.2.1 ≤ nI (rn0 m i).2.2.1 → _) ∧ (¬ nI (rn0 m b).2.2.1 ≤ nI (rn0 m i).2.2.1 → _)
            rw [nI_leI (by omega) (by omega)]
            refine ⟨fun v => ?_, fun v => ?_⟩
            · rw [if_neg (fun q => by omega)] at ef
              rw [ef] at nx
              exact nx _ _ _ _ _ _ _ _ _ _ _ _
            · rw [if_pos ⟨w, by omega⟩] at ef
              rw [ef] at nx
              exact nx _ _ _ _ _ _ _ _ _ _ _ _
  rw [q6]
  refine sq2_icount i1 ?_
  rw [← q6]
  exact fun f => key f 0 _ _ _ _ _ _ _ _ _ _ _ _ (Nat.zero_le _)
theorem sq7_first {x : Int32} {Φ : PW1} (hQ : PQ9 m.1 pst pce pgi pln be co to gc le gr ac sq tg fr mi en cl cd) (hO : MO9 m) (hc : CLs m.1 m.2.1 m.2.2.1 st tw) (h : AWq (f_first m x) Φ) : wl_X7_first st tw pce pgi pln be to gc le gr ac tg fr mi en cd cl pg x wp ww ws wn wa wb wst wtw wwo wce wke wsk Φ := by
  have h64 := inN_64 hO.1
  unfold wl_X7_first
  unfold f_first at h
  refine sq7_ftf hQ hO hc (fun wp ww ws wn wa wb wst wtw wwo wce wke wsk => ?_)
  by_cases h0 : 0 < nL m.1
  · rw [if_pos h0] at h ⊢
    cases e : fsG (rn0 m) (inN m.1) with
    | none =>
      rw [e] at h
      exact ⟨fun z => absurd rfl z, fun _ => h _ _ _ _ _ _ _ _ _ _ _ _⟩
    | some b =>
      rw [e] at h
      have h : AWq (if x = 0 then nI b else if x = 1 then nI (rn0 m b).2.2.1 else if x = 2 then nI (rn0 m b).2.1 else -1) Φ := h
      have hb := fsG_lt e
      have nb : ¬ nI b = -1 := fun z => by
        have h1 : (nI b).toInt = (b : Int) := nI_toInt (by omega)
        rw [z] at h1
        have : ((-1 : Int32)).toInt = -1 := rfl
        omega
      refine ⟨fun _ => ?_, fun z => absurd z nb⟩
      refine sq7_walk (wy := 0) (kn := 1000) hQ hO.1 hO.2.1 hc (by decide) h0 hb (by decide) (fun s' n' k' u' st' tw' wo' ce' ke' sk' hM => ?_)
      have hM : CM9 m.1 1000 (rn0 m b) s' n' k' u' wo' ce' ke' := hM
      refine ⟨fun z => ?_, fun z => ?_, fun z => ?_, fun z => ?_⟩
      · rw [if_pos z] at h; exact h _ _ _ _ _ _ _ _ _ _ _ _
      · rw [z, if_neg (by decide), if_pos rfl] at h; rw [hM.2.2.1]; exact h _ _ _ _ _ _ _ _ _ _ _ _
      · rw [z, if_neg (by decide), if_neg (by decide), if_pos rfl] at h; rw [hM.2.1]; exact h _ _ _ _ _ _ _ _ _ _ _ _
      · have q := fun i hi => wh_ne (n := 2) z (j := i) hi (by decide)
        rw [if_neg (show ¬ x = 0 from q 0 (by decide)), if_neg (show ¬ x = 1 from q 1 (by decide)), if_neg (show ¬ x = 2 from q 2 (by decide))] at h
        exact h _ _ _ _ _ _ _ _ _ _ _ _
  · rw [if_neg h0] at h ⊢
    exact ⟨fun z => absurd rfl z, fun _ => h _ _ _ _ _ _ _ _ _ _ _ _⟩
theorem ke_full {kn : Nat} {w w' : List Int32} {ke ke' : Nat → Int32} (h : KE9 kn w ke) (h' : KE9 kn w' ke') (hl : w.length = w'.length) (hk : w.length ≤ kn) (ha : ∀ i, i < w.length → ke i = ke' i) : w = w' := by
  apply List.ext_getElem hl
  intro i h1 h2
  have a := h i _ (List.getElem?_eq_getElem h1) (by omega)
  have b := h' i _ (List.getElem?_eq_getElem h2) (by omega)
  rw [← a, ← b]
  exact ha i h1
theorem sq1_wroteLike {w w' : List Int32} {ke ke' : Nat → Int32} {Φ : Int32 → Prop} (hk : KE9 1000 w ke) (hk' : KE9 1000 w' ke') (hl : w.length ≤ 1000) (hl' : w'.length ≤ 1000) (h1 : w = w' → Φ 1) (h0 : ¬ w = w' → Φ 0) : wl_X1_wroteLike (nI w.length) ke (nI w'.length) ke' 1000 1000 Φ := by
  unfold wl_X1_wroteLike
  rw [nI_eq (by omega) (by omega)]
  refine ⟨fun z => ?_, fun z => h0 (fun e => z (by rw [e]))⟩
  have key : ∀ (f i : Nat), i ≤ w.length → (∀ j, j < i → ke j = ke' j) → ll_X1_wroteLike_15 (nI w.length) ke (nI w'.length) ke' 1000 1000 Φ f (nI i) := by
    intro f
    induction f with
    | zero => intros; trivial
    | succ f ih =>
      intro i hi ha
      show bl_X1_wroteLike_15 _ _ _ _ _ _ _ _ _
      unfold bl_X1_wroteLike_15
      rw [nI_leI (by omega) (by omega), nI_leI (by omega) (by omega), nI_clamp (n := i) (by omega), nI_1]
      have full : w.length ≤ i → Φ 1 := fun q => h1 (ke_full hk hk' z hl (fun j hj => ha j (by omega)))
      refine ⟨full, fun q => ⟨fun q2 => full (by omega), fun _ => ⟨fun q2 => full (by omega), fun _ _ _ => ⟨fun e => ih (i + 1) (by omega) (fun j hj => ?_), fun e => h0 (fun ew => ?_)⟩⟩⟩⟩
      · by_cases ej : j = i
        · rw [ej]; exact e
        · exact ha j (by omega)
      · subst ew
        have hlt : i < w.length := by omega
        exact e ((hk i _ (List.getElem?_eq_getElem hlt) (by omega)).trans (hk' i _ (List.getElem?_eq_getElem hlt) (by omega)).symm)
  exact fun f => key f 0 (Nat.zero_le _) (fun j hj => absurd hj (Nat.not_lt_zero _))
theorem fdG_at {P : Nat → Bool} {f i : Nat} (h : P i = true) : fdG P (f + 1) i = some i := if_pos h
theorem fdG_no {P : Nat → Bool} {f i : Nat} (h : ¬ P i = true) : fdG P (f + 1) i = fdG P f (i + 1) := if_neg h
theorem sq7_apart {gp : Nat} {gw gs gn ga gb : Int32} {gst gtw gwo gce gke gsk : Nat → Int32} {Φ : PW2} (hQ : PQ9 m.1 pst pce pgi pln be co to gc le gr ac sq tg fr mi en cl cd) (hO : MO9 m) (hc : CLs m.1 m.2.1 m.2.2.1 st tw) (h : AWq2 (f_apart m) Φ) : wl_X7_apart st tw pce pgi pln be to gc le gr ac tg fr mi en cd cl pg wp ww ws wn wa wb wst wtw wwo wce wke wsk gp gw gs gn ga gb gst gtw gwo gce gke gsk Φ := by
  have hQ' := hQ
  obtain ⟨q1, q2, q3, q4, q5, q6, q7, q8, q9, ⟨i1, i2, i3, i4⟩, q11, q12, q13, q14⟩ := hQ
  have h16 : nL m.1 ≤ 16 := q3
  have eln : pln = nI (nL m.1) := q7
  have h64 := inN_64 hO.1
  unfold wl_X7_apart
  unfold f_apart at h
  have q0 : pln = 0 ↔ nL m.1 = 0 := by rw [eln]; exact nI_eq (b := 0) (by omega) (by decide)
  rw [q0]
  refine ⟨fun z => ?_, fun z => ?_⟩
  rotate_left
  · rw [if_neg (by omega)] at h
    exact h _ _ _ _ _ _ _ _ _ _ _ _ _ _ _ _ _ _ _ _ _ _ _ _
  have h0 : 0 < nL m.1 := by omega
  rw [if_pos h0] at h
  have key : ∀ (f i : Nat) (wp : Nat) (ww ws wn wa wb : Int32) (wst wtw wwo wce wke wsk : Nat → Int32) (gp : Nat) (gw gs gn ga gb : Int32) (gst gtw gwo gce gke gsk : Nat → Int32), i ≤ inN m.1 → fdG (fun i => decide (¬ (rn0 m i).2.2.2.2.2 = (rn2 m i).2.2.2.2.2)) (inN m.1) 0 = fdG (fun i => decide (¬ (rn0 m i).2.2.2.2.2 = (rn2 m i).2.2.2.2.2)) (inN m.1 - i) i → ll_X7_apart_28 st tw pce pgi pln be to gc le gr ac tg fr mi en cd cl pg Φ f wp ww ws wn wa wb wst wtw wwo wce wke wsk gp gw gs gn ga gb gst gtw gwo gce gke gsk (nI (inN m.1)) (nI i) := by
    intro f
    induction f with
    | zero => intros; trivial
    | succ f ih =>
      intro i wp ww ws wn wa wb wst wtw wwo wce wke wsk gp gw gs gn ga gb gst gtw gwo gce gke gsk hi ef
      show bl_X7_apart_28 _ _ _ _ _ _ _ _ _ _ _ _ _ _ _ _ _ _ _ _ _ _ _ _ _ _ _ _ _ _ _ _ _ _ _ _ _ _ _ _ _ _ _ _ _ _
      unfold bl_X7_apart_28
      rw [nI_leI (by omega) (by omega), nI_1]
      refine ⟨fun y => ?_, fun y => ?_⟩
      · have e0 : inN m.1 - i = 0 := by omega
        rw [ef, e0] at h
        exact h _ _ _ _ _ _ _ _ _ _ _ _ _ _ _ _ _ _ _ _ _ _ _ _
      · have hp : PMo m.1 0 (rn0 m i) := rn_pmo h0
        have hk : (rn0 m i).2.2.1 ≤ 1000 := rn0_k m i
        have hp2 : PMo m.1 2 (rn2 m i) := rn_pmo h0
        have hk2 : (rn2 m i).2.2.1 ≤ 1000 := rn2_k m i
        refine sq7_walk (wy := 0) (kn := 1000) hQ' hO.1 hO.2.1 hc (by decide) h0 (by omega) (by decide) (fun s' n' k' u' st' tw' wo' ce' ke' sk' hM => ?_)
        refine sq7_walk (wy := 2) (kn := 1000) hQ' hO.1 hO.2.1 hc (by decide) h0 (by omega) (by decide) (fun s2 n2 k2 u2 st2 tw2 wo2 ce2 ke2 sk2 hM2 => ?_)
        have hM : CM9 m.1 1000 (rn0 m i) s' n' k' u' wo' ce' ke' := hM
        have hM2 : CM9 m.1 1000 (rn2 m i) s2 n2 k2 u2 wo2 ce2 ke2 := hM2
        have es : inN m.1 - i = inN m.1 - (i + 1) + 1 := by omega
        rw [es] at ef
        rw [hM.2.2.2.1, hM2.2.2.2.1]
        refine sq1_wroteLike hM.2.2.2.2.2.2 hM2.2.2.2.2.2.2 (by have := hp.2.2.2.1; omega) (by have := hp2.2.2.2.1; omega) (fun e => ⟨fun _ => ?_, fun w => absurd w (by decide)⟩) (fun e => ⟨fun w => absurd rfl w, fun _ => ?_⟩)
        · rw [fdG_no (by rw [decide_eq_true_eq]; exact fun q => q e)] at ef
          exact ih (i + 1) _ _ _ _ _ _ _ _ _ _ _ _ _ _ _ _ _ _ _ _ _ _ _ _ (by omega) ef
        · rw [fdG_at (by rw [decide_eq_true_eq]; exact e)] at ef
          rw [ef] at h
          exact h _ _ _ _ _ _ _ _ _ _ _ _ _ _ _ _ _ _ _ _ _ _ _ _
  rw [q6]
  refine sq2_icount i1 ?_
  rw [← q6]
  exact fun f => key f 0 _ _ _ _ _ _ _ _ _ _ _ _ _ _ _ _ _ _ _ _ _ _ _ _ (Nat.zero_le _) rfl
theorem sq7_rounds {x : Int32} {Φ : PW1} (hQ : PQ9 m.1 pst pce pgi pln be co to gc le gr ac sq tg fr mi en cl cd) (hO : MO9 m) (hc : CLs m.1 m.2.1 m.2.2.1 st tw) (h : AWq (f_rounds m x) Φ) : wl_X7_rounds st tw pce pgi pln be to gc le gr ac tg fr mi en cd cl pg x wp ww ws wn wa wb wst wtw wwo wce wke wsk Φ := by
  have h16 : nL m.1 ≤ 16 := hQ.2.2.1
  unfold wl_X7_rounds
  unfold f_rounds at h
  refine sq7_cw hQ hO (fun e => ⟨fun z => absurd rfl z, fun _ => by rw [e] at h; exact h _ _ _ _ _ _ _ _ _ _ _ _⟩) (fun i h0 hi ex e => ⟨fun _ => ?_, fun z => absurd z (by decide)⟩)
  rw [e] at h
  have h : AWq (nI (rdG m.1 (brG m.1 m.2.1 m.2.2.1) i 100 0 (fun _ => 0))) Φ := h
  have key : ∀ (f n : Nat) (ww ws wn wa wb : Int32) (wst wtw wwo wce wke wsk O : Nat → Int32), n ≤ 100 → CLs m.1 m.2.1 m.2.2.1 wst wtw → AGn 16 O wwo → rdG m.1 (brG m.1 m.2.1 m.2.2.1) i 100 0 (fun _ => 0) = rdG m.1 (brG m.1 m.2.1 m.2.2.1) i (100 - n) n O → ll_X7_rounds_31 st tw pce pgi pln be to gc le gr ac tg fr mi en cd cl pg x Φ f pg 0 ws wn wa wb wst wtw wwo wce wke wsk (nI n) := by
    intro f
    induction f with
    | zero => intros; trivial
    | succ f ih =>
      intro n ww ws wn wa wb wst wtw wwo wce wke wsk O hn hcl hO2 er
      show bl_X7_rounds_31 _ _ _ _ _ _ _ _ _ _ _ _ _ _ _ _ _ _ _ _ _ _ _ _ _ _ _ _ _ _ _ _ _ _
      unfold bl_X7_rounds_31
      have q100 : (100 : Int32) ≤ nI n ↔ 100 ≤ n := nI_leI (a := 100) (by decide) (by omega)
      rw [q100, nI_1, ex]
      refine ⟨fun y => ?_, fun y _ => sq1_start hQ hO.1 hi (fun ce' hce => ?_)⟩
      · have e0 : 100 - n = 0 := by omega
        have en : n = 100 := by omega
        rw [er, e0, en] at h
        exact h _ _ _ _ _ _ _ _ _ _ _ _
      · have hP : PMo m.1 0 (bgG m.1 i O) := PMo.bg h0 (fun q => absurd q (by decide))
        have hP' := PMo.itZ (be := brG m.1 m.2.1 m.2.2.1) 1000 _ hP
        have es : 100 - n = 100 - (n + 1) + 1 := by omega
        rw [es] at er
        have ed : rdG m.1 (brG m.1 m.2.1 m.2.2.1) i (100 - (n + 1) + 1) n O = if (itG m.1 (brG m.1 m.2.1 m.2.2.1) 0 1000 (bgG m.1 i O)).1 = 2 then rdG m.1 (brG m.1 m.2.1 m.2.2.1) i (100 - (n + 1)) (n + 1) (itG m.1 (brG m.1 m.2.1 m.2.2.1) 0 1000 (bgG m.1 i O)).2.2.2.1 else n := rfl
        rw [ed] at er
        refine sq1_go (M := 1000) (wy := 0) (kn := 1000) (x := bgG m.1 i O) hQ hO.1 hO.2.1 hcl hP (by decide) ⟨rfl, rfl, rfl, rfl, hO2, hce, KE9.nil⟩ (show 0 + 1000 < 2 ^ 30 by decide) (by decide) (fun s' n' k' u' wo2 ce2 ke2 sk2 hM => ?_)
        have q2 : s' = 2 ↔ (itG m.1 (brG m.1 m.2.1 m.2.2.1) 0 1000 (bgG m.1 i O)).1 = 2 := by rw [hM.1]; exact nI_eq (b := 2) (by have := hP'.1; omega) (by decide)
        rw [q2]
        refine ⟨fun z => ?_, fun z => ?_⟩
        · rw [if_pos z] at er
          rw [← ex]
          exact ih (n + 1) 0 _ _ _ _ _ _ _ _ _ _ _ (by omega) hcl hM.2.2.2.2.1 er
        · rw [if_neg z] at er
          rw [er] at h
          exact h _ _ _ _ _ _ _ _ _ _ _ _
  unfold wl_X1_layLike
  exact sq_fill (rl := 16) (by decide) (fun wo' hz _ f => key f 0 0 _ _ _ _ _ _ _ _ _ _ (fun _ => 0) (Nat.zero_le _) (hc.cpy h16) (fun j hj => hz j hj) rfl)
end WC
