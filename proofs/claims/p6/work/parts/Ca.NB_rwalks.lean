/-- the first input of which two do not write the same, or one ends and the other does not -/
def sameM (m m' : MS) : Int32 := if 0 < nL m.1 ∧ 0 < nL m'.1 ∧ inN m.1 = inN m'.1 then (match fdG (fun i => decide (¬ ((rn2 m i).2.2.2.2.2 = (rn2 m' i).2.2.2.2.2 ∧ (rn2 m i).1 = (rn2 m' i).1))) (inN m.1) 0 with
  | none => -1
  | some i => nI i) else -2
theorem rnG_e2 {g : PGr} {be : Nat → Int32} {wy : Nat} {x : PM} : (rnG g be wy x).1 = 2 ↔ (itG g be wy 1000 x).1 = 2 := by
  unfold rnG
  generalize itG g be wy 1000 x = y
  unfold pfl
  split
  · rename_i z
    exact ⟨fun q => absurd q (by show ¬ (3 : Nat) = 2; decide), fun q => absurd (z.1.symm.trans q) (by decide)⟩
  · exact Iff.rfl
theorem it_12 {g : PGr} {be : Nat → Int32} {wy : Nat} (hw : ¬ wy = 0) : ∀ (n : Nat) (y : PM), y.1 = 1 ∨ y.1 = 2 → (itG g be wy n y).1 = 1 ∨ (itG g be wy n y).1 = 2 := by
  intro n
  induction n with
  | zero => intro y hy; exact hy
  | succ n ih =>
    intro y hy
    refine ih _ ?_
    by_cases z : y.1 = 1
    · rw [stp_wrk z (fun q => hw q.1)]
      show (if _ then 2 else 1) = 1 ∨ (if _ then 2 else 1) = 2
      split
      · exact Or.inr rfl
      · exact Or.inl rfl
    · rw [stp_off z]; exact hy
theorem rn_12 {g : PGr} {be : Nat → Int32} {wy i : Nat} {wo : Nat → Int32} (hw : ¬ wy = 0) : (rnG g be wy (bgG g i wo)).1 = 1 ∨ (rnG g be wy (bgG g i wo)).1 = 2 := by
  have h := it_12 (g := g) (be := be) hw 1000 (bgG g i wo) (Or.inl rfl)
  unfold rnG
  generalize itG g be wy 1000 (bgG g i wo) = y at h
  unfold pfl
  rw [if_neg (fun q => hw q.2.1)]
  exact h
theorem it_123 {g : PGr} {be : Nat → Int32} {wy : Nat} : ∀ (n : Nat) (y : PM), y.1 = 1 ∨ y.1 = 2 ∨ y.1 = 3 → (itG g be wy n y).1 = 1 ∨ (itG g be wy n y).1 = 2 ∨ (itG g be wy n y).1 = 3 := by
  intro n
  induction n with
  | zero => intro y hy; exact hy
  | succ n ih =>
    intro y hy
    refine ih _ ?_
    by_cases z : y.1 = 1
    · by_cases w : hol be wy y
      · rw [stp_hol z w]; exact Or.inr (Or.inr rfl)
      · rw [stp_wrk z w]
        show (if _ then 2 else 1) = 1 ∨ (if _ then 2 else 1) = 2 ∨ _
        split
        · exact Or.inr (Or.inl rfl)
        · exact Or.inl rfl
    · rw [stp_off z]; exact hy
theorem rn_123 {g : PGr} {be : Nat → Int32} {wy i : Nat} {wo : Nat → Int32} : (rnG g be wy (bgG g i wo)).1 = 1 ∨ (rnG g be wy (bgG g i wo)).1 = 2 ∨ (rnG g be wy (bgG g i wo)).1 = 3 := by
  have h := it_123 (g := g) (be := be) (wy := wy) 1000 (bgG g i wo) (Or.inl rfl)
  unfold rnG
  generalize itG g be wy 1000 (bgG g i wo) = y at h
  unfold pfl
  split
  · exact Or.inr (Or.inr rfl)
  · exact h
theorem rn0_eq (m : MS) (i : Nat) : rnG m.1 (brG m.1 m.2.1 m.2.2.1) 0 (bgG m.1 i (fun _ => 0)) = rn0 m i := rfl
theorem rn0_123 (m : MS) (i : Nat) : (rn0 m i).1 = 1 ∨ (rn0 m i).1 = 2 ∨ (rn0 m i).1 = 3 := by
  unfold rn0
  exact rn_123
theorem rn2_12 (m : MS) (i : Nat) : (rn2 m i).1 = 1 ∨ (rn2 m i).1 = 2 := by
  unfold rn2
  exact rn_12 (by decide)
section WR9
variable {m m' : MS} {st ce ip ln be co ca ic il im ac aC ls tw lf lt cd : Nat → Int32} {a0 w0 n0 e0 f0 u0 d0 th : Int32} {k1 k2 k3 k4 k5 k6 k7 k8 k9 vo he we sr go pk ot : Nat → Int32}
/-- the programme and its laying lie at p -/
def RPY (p : Nat) (m : MS) (st ce ip ln be co ca ic il im ac aC ls tw lf lt cd : Nat → Int32) : Prop := RP8 p m.1 st ce ip ln be co ca ic il im ac aC lf lt cd ∧ YB p (nL m.1) m.2.1 m.2.2.1 ls tw
def BWq (r : Int32) (Φ : PTa) : Prop := ∀ a w n e f u d k1 k2 k3 k4 k5 k6 k7 k8 k9 vo he we sr go pk, Φ r 0 a w n e f u d k1 k2 k3 k4 k5 k6 k7 k8 k9 vo he we sr go pk
def BWm (r : Int32) (Φ : PAm) : Prop := ∀ a w n e f u d k1 k2 k3 k4 k5 k6 k7 k8 k9 vo he we sr go pk ot, Φ r 0 a w n e f u d k1 k2 k3 k4 k5 k6 k7 k8 k9 vo he we sr go pk ot
def BWl (r : Int32) (Φ : PAl) : Prop := ∀ a w n e f u d k1 k2 k3 k4 k5 k6 k7 k8 k9 vo he we sr go pk ot, Φ r a w n e f u d k1 k2 k3 k4 k5 k6 k7 k8 k9 vo he we sr go pk ot
theorem sq8_isInput {x : Int32} {Φ : Int32 → Prop} (hR : RPY 0 m st ce ip ln be co ca ic il im ac aC ls tw lf lt cd) (hO : MO9 m) (h0 : inQ m.1 x = none → Φ 0) (h1 : ∀ i, 0 < nL m.1 → i < inN m.1 → x = nI i → inQ m.1 x = some i → Φ 1) : wl_X8_isInput ip ln il im x Φ := by
  have h16 : nL m.1 ≤ 16 := hO.1.2.2.2.2.2.2.2.2.1
  have h64 := inN_64 hO.1
  have hln : ln 0 = nI (nL m.1) := hR.1.2.2.2.1
  have q0 : ln 0 ≤ 0 ↔ nL m.1 ≤ 0 := by rw [hln]; exact nI_leI (b := 0) (by omega) (by decide)
  unfold wl_X8_isInput
  rw [q0]
  refine ⟨fun z => h0 (by unfold inQ; rw [if_neg (by omega)]), fun z => ⟨fun z2 => h0 (by unfold inQ; rw [if_pos (by omega), ixO_lt z2]), fun z2 => sq8_inputsOf (p := 0) hR.1.2.2.1 hO.1 (by decide) ⟨fun z3 => h0 (by unfold inQ; rw [if_pos (by omega), ixO_ge z3]), fun z3 => ?_⟩⟩⟩
  obtain ⟨i, hi, ei, e1⟩ := ixO_in (n := inN m.1) (by omega) z2 z3
  exact h1 i (by omega) hi ei (by unfold inQ; rw [if_pos (by omega), e1])
theorem sq8_steps {x : Int32} {Φ : PTa} (hR : RPY 0 m st ce ip ln be co ca ic il im ac aC ls tw lf lt cd) (hO : MO9 m) (h : BWq (f_steps m x) Φ) : wl_X8_steps ce ip ln be ca ic il im ac aC ls tw lf lt cd x th a0 w0 n0 e0 f0 u0 d0 k1 k2 k3 k4 k5 k6 k7 k8 k9 vo he we sr go pk Φ := by
  unfold wl_X8_steps
  unfold f_steps at h
  refine sq8_isInput hR hO (fun e => ⟨fun z => absurd rfl z, fun _ => by rw [e] at h; exact h _ _ _ _ _ _ _ _ _ _ _ _ _ _ _ _ _ _ _ _ _ _⟩) (fun i h0 hi ex e => ⟨fun _ => ?_, fun z => absurd z (by decide)⟩)
  rw [e] at h
  have h : BWq (if (rn0 m i).1 = 1 then -1 else nI (rn0 m i).2.2.1) Φ := h
  rw [ex]
  have hp : PMo m.1 0 (rn0 m i) := rn_pmo h0
  refine sq8_tries (p := 0) (wy := 0) hO.1 (by decide) hR.1 hR.2 hO.2.1 (by decide) h0 hi (fun n e f u ma k1 k2 k3 k4 k5 k6 k7 k8 k9 vo he we sr go pk hM hk hg => ?_)
  have hM : RM9 m.1 (rn0 m i) n e f u he we sr := hM
  rw [rn0_eq] at hk
  have e12 := hM.e0
  have hst : (rn0 m i).1 = 1 ∨ (rn0 m i).1 = 2 ∨ (rn0 m i).1 = 3 := rn0_123 m i
  unfold wl_X8_isEndless
  rw [hk]
  refine ⟨fun z => ⟨fun _ => ?_, fun y => absurd rfl y⟩, fun z => ⟨fun y => ⟨fun _ => ?_, fun y => absurd rfl y⟩, fun y => ⟨fun q => absurd q (by decide), fun _ => ?_⟩⟩⟩
  · rw [if_neg (fun q => z (e12.1.mpr (by omega)))] at h
    exact h _ _ _ _ _ _ _ _ _ _ _ _ _ _ _ _ _ _ _ _ _ _
  · rw [if_neg (fun q => y (e12.2.mpr (by omega)))] at h
    exact h _ _ _ _ _ _ _ _ _ _ _ _ _ _ _ _ _ _ _ _ _ _
  · have a := e12.1.mp z
    have b := e12.2.mp y
    rw [if_pos (by omega)] at h
    exact h _ _ _ _ _ _ _ _ _ _ _ _ _ _ _ _ _ _ _ _ _ _
theorem sq8_falls {x : Int32} {Φ : PTa} (hR : RPY 0 m st ce ip ln be co ca ic il im ac aC ls tw lf lt cd) (hO : MO9 m) (h : BWq (f_falls m x) Φ) : wl_X8_falls ce ip ln be ca ic il im ac aC ls tw lf lt cd x th a0 w0 n0 e0 f0 u0 d0 k1 k2 k3 k4 k5 k6 k7 k8 k9 vo he we sr go pk Φ := by
  unfold wl_X8_falls
  unfold f_falls at h
  refine sq8_isInput hR hO (fun e => ⟨fun z => absurd rfl z, fun _ => by rw [e] at h; exact h _ _ _ _ _ _ _ _ _ _ _ _ _ _ _ _ _ _ _ _ _ _⟩) (fun i h0 hi ex e => ⟨fun _ => ?_, fun z => absurd z (by decide)⟩)
  rw [e] at h
  have h : BWq (if (rn0 m i).1 = 3 then nI (rn0 m i).2.1 else -1) Φ := h
  rw [ex]
  refine sq8_tries (p := 0) (wy := 0) hO.1 (by decide) hR.1 hR.2 hO.2.1 (by decide) h0 hi (fun n e f u ma k1 k2 k3 k4 k5 k6 k7 k8 k9 vo he we sr go pk hM hk hg => ?_)
  have hM : RM9 m.1 (rn0 m i) n e f u he we sr := hM
  have e12 := hM.e0
  refine ⟨fun z => ?_, fun z => ?_⟩
  · rw [if_neg (e12.2.mp z)] at h
    exact h _ _ _ _ _ _ _ _ _ _ _ _ _ _ _ _ _ _ _ _ _ _
  · have z3 : (rn0 m i).1 = 3 := by
      by_cases q : (rn0 m i).1 = 3
      · exact q
      · exact absurd (e12.2.mpr q) z
    rw [if_pos z3] at h
    rw [hM.2.2.1 (by omega)]
    exact h _ _ _ _ _ _ _ _ _ _ _ _ _ _ _ _ _ _ _ _ _ _
/-- the best so far: input, steps, line -/
def fbR (rn : Nat → PM) : Option Nat → Int32 × Int32 × Int32
  | none => (-1, 0, 0)
  | some b => (nI b, nI (rn b).2.2.1, nI (rn b).2.1)
theorem sq8_first {x : Int32} {Φ : PTa} (hR : RPY 0 m st ce ip ln be co ca ic il im ac aC ls tw lf lt cd) (hO : MO9 m) (h : BWq (f_first m x) Φ) : wl_X8_first ce ip ln be ca ic il im ac aC ls tw lf lt cd x th a0 w0 n0 e0 f0 u0 d0 k1 k2 k3 k4 k5 k6 k7 k8 k9 vo he we sr go pk Φ := by
  have h16 : nL m.1 ≤ 16 := hO.1.2.2.2.2.2.2.2.2.1
  have h64 := inN_64 hO.1
  have hln : ln 0 = nI (nL m.1) := hR.1.2.2.2.1
  have q0 : ln 0 = 0 ↔ nL m.1 = 0 := by rw [hln]; exact nI_eq (b := 0) (by omega) (by decide)
  unfold wl_X8_first
  rw [q0]
  refine sq8_wi (m := 2) (by decide) (fun e2 => ⟨fun _ => ?_, fun z => absurd rfl z⟩) (fun xi hxi exi _ => ⟨fun z => absurd z (by decide), fun _ => ⟨fun z => ?_, fun z => ?_⟩⟩)
  · have q := fun i hi => ixO_no (n := 3) (by decide) e2 ∘ fun (z : x = nI i) => ⟨i, hi, z⟩
    have hv : f_first m x = -1 := by
      unfold f_first
      split
      · split
        · rfl
        · rw [if_neg (show ¬ x = 0 from q 0 (by decide)), if_neg (show ¬ x = 1 from q 1 (by decide)), if_neg (show ¬ x = 2 from q 2 (by decide))]
      · rfl
    rw [hv] at h
    exact h _ _ _ _ _ _ _ _ _ _ _ _ _ _ _ _ _ _ _ _ _ _
  rotate_left
  · unfold f_first at h
    rw [if_neg (by omega)] at h
    exact h _ _ _ _ _ _ _ _ _ _ _ _ _ _ _ _ _ _ _ _ _ _
  unfold f_first at h
  have h0 : 0 < nL m.1 := by omega
  rw [if_pos h0] at h
  have key : ∀ (f i : Nat) (a0 w0 n0 e0 f0 u0 d0 : Int32) (k1 k2 k3 k4 k5 k6 k7 k8 k9 vo he we sr go pk : Nat → Int32), i ≤ inN m.1 → ll_X8_first_35 ce ip ln be ca ic il im ac aC ls tw lf lt cd x Φ f 0 a0 w0 n0 e0 f0 u0 d0 k1 k2 k3 k4 k5 k6 k7 k8 k9 vo he we sr go pk (fbR (rn0 m) (fsG (rn0 m) i)).1 (fbR (rn0 m) (fsG (rn0 m) i)).2.1 (fbR (rn0 m) (fsG (rn0 m) i)).2.2 (nI i) := by
    intro fu
    induction fu with
    | zero => intros; trivial
    | succ fu ih =>
      intro i a0 w0 n0 e0 f0 u0 d0 k1 k2 k3 k4 k5 k6 k7 k8 k9 vo he we sr go pk hi
      show bl_X8_first_35 _ _ _ _ _ _ _ _ _ _ _ _ _ _ _ _ _ _ _ _ _ _ _ _ _ _ _ _ _ _ _ _ _ _ _ _ _ _ _ _ _ _ _ _ _
      unfold bl_X8_first_35
      refine sq8_inputsOf (p := 0) hR.1.2.2.1 hO.1 (by decide) ?_
      rw [nI_leI (by omega) (by omega)]
      refine ⟨fun y => ?_, fun y => ?_⟩
      · have : i = inN m.1 := by omega
        subst this
        cases e : fsG (rn0 m) (inN m.1) with
        | none =>
          rw [e] at h
          exact ⟨fun q => absurd q (by show ¬ (0 : Int32) ≤ -1; decide), fun _ => h _ _ _ _ _ _ _ _ _ _ _ _ _ _ _ _ _ _ _ _ _ _⟩
        | some b =>
          rw [e] at h
          have h : BWq (if x = 0 then nI b else if x = 1 then nI (rn0 m b).2.2.1 else if x = 2 then nI (rn0 m b).2.1 else -1) Φ := h
          have hb := fsG_lt e
          refine ⟨fun _ => ⟨fun z0 => ⟨fun z1 => ?_, fun z1 => ?_⟩, fun z0 => ?_⟩, fun q => absurd (nI_pos' (by omega)) q⟩
          · have : xi = 2 := by
              have q0 : ¬ xi = 0 := fun q => z0 (by rw [exi, q]; rfl)
              have q1 : ¬ xi = 1 := fun q => z1 (by rw [exi, q]; rfl)
              omega
            subst this
            rw [if_neg z0, if_neg z1, if_pos (by rw [exi]; rfl)] at h
            exact h _ _ _ _ _ _ _ _ _ _ _ _ _ _ _ _ _ _ _ _ _ _
          · rw [if_neg z0, if_pos z1] at h
            exact h _ _ _ _ _ _ _ _ _ _ _ _ _ _ _ _ _ _ _ _ _ _
          · rw [if_pos z0] at h
            exact h _ _ _ _ _ _ _ _ _ _ _ _ _ _ _ _ _ _ _ _ _ _
      · have hk9 : (rn0 m i).2.2.1 ≤ 1000 := rn0_k m i
        refine sq8_tries (p := 0) (wy := 0) hO.1 (by decide) hR.1 hR.2 hO.2.1 (by decide) h0 (by omega) (fun n e f u ma k1 k2 k3 k4 k5 k6 k7 k8 k9 vo he we sr go pk hM hk hg => ?_)
        have hM : RM9 m.1 (rn0 m i) n e f u he we sr := hM
        rw [rn0_eq] at hk
        have e12 := hM.e0
        have nx := fun a0 w0 n0 e0 f0 u0 d0 k1 k2 k3 k4 k5 k6 k7 k8 k9 vo he we sr go pk => ih (i + 1) a0 w0 n0 e0 f0 u0 d0 k1 k2 k3 k4 k5 k6 k7 k8 k9 vo he we sr go pk (by omega)
        have ef : fsG (rn0 m) (i + 1) = (match fsG (rn0 m) i with
          | none => if (rn0 m i).1 = 3 then some i else none
          | some b => if (rn0 m i).1 = 3 ∧ (rn0 m i).2.2.1 < (rn0 m b).2.2.1 then some i else some b) := rfl
        have z3 : ¬ f = 0 → (rn0 m i).1 = 3 := fun z => by
          by_cases q : (rn0 m i).1 = 3
          · exact q
          · exact absurd (e12.2.mpr q) z
        have k75 : fsG (rn0 m) (i + 1) = some i → ¬ f = 0 → kl_X8_first_75 ce ip ln be ca ic il im ac aC ls tw lf lt cd x (ll_X8_first_35 ce ip ln be ca ic il im ac aC ls tw lf lt cd x Φ fu) Φ 0 (nI 0) (nI 0) n e f u ma k1 k2 k3 k4 k5 k6 k7 k8 k9 vo he we sr go pk (nI i) := by
          intro e5 hf
          rw [e5] at nx
          unfold kl_X8_first_75
          rw [hk, nI_1, hM.2.2.1 (by have := z3 hf; omega)]
          exact nx _ _ _ _ _ _ _ _ _ _ _ _ _ _ _ _ _ _ _ _ _ _
        rw [nI_1]
        cases e5 : fsG (rn0 m) i with
        | none =>
          rw [e5] at ef
          have ef : fsG (rn0 m) (i + 1) = if (rn0 m i).1 = 3 then some i else none := ef
          refine ⟨fun w => ?_, fun w => ⟨fun _ => ?_, fun v => absurd (show (-1 : Int32) < 0 by decide) v⟩⟩
          · rw [if_neg (e12.2.mp w)] at ef
            rw [ef] at nx
            exact nx _ _ _ _ _ _ _ _ _ _ _ _ _ _ _ _ _ _ _ _ _ _
          · rw [if_pos (z3 w)] at ef
            exact k75 ef w
        | some b =>
          have hb := fsG_lt e5
          have hkb : (rn0 m b).2.2.1 ≤ 1000 := rn0_k m b
          rw [e5] at ef
          have ef : fsG (rn0 m) (i + 1) = if (rn0 m i).1 = 3 ∧ (rn0 m i).2.2.1 < (rn0 m b).2.2.1 then some i else some b := ef
          refine ⟨fun w => ?_, fun w => ⟨fun v => absurd v (nI_pos (by omega)), fun _ => ?_⟩⟩
          · rw [if_neg (fun q => e12.2.mp w q.1)] at ef
            rw [ef] at nx
            exact nx _ _ _ _ _ _ _ _ _ _ _ _ _ _ _ _ _ _ _ _ _ _
          · have qlt : ma < nI (rn0 m b).2.2.1 ↔ (rn0 m i).2.2.1 < (rn0 m b).2.2.1 := by rw [hk]; exact nI_ltI (by omega) (by omega)
            show (ma < nI (rn0 m b).2.2.1 → _) ∧ (¬ ma < nI (rn0 m b).2.2.1 → _)
            rw [qlt]
            refine ⟨fun v => ?_, fun v => ?_⟩
            · rw [if_pos ⟨z3 w, v⟩] at ef
              exact k75 ef w
            · rw [if_neg (fun q => v q.2)] at ef
              rw [ef] at nx
              exact nx _ _ _ _ _ _ _ _ _ _ _ _ _ _ _ _ _ _ _ _ _ _
  exact fun f => key f 0 _ _ _ _ _ _ _ _ _ _ _ _ _ _ _ _ _ _ _ _ _ _ (Nat.zero_le _)
theorem sq8_writeAlike {p q wy wy' i : Nat} {x5 : Int32} {Φ : PAl} (hp : p < 6) (hq : q < 6) (hR : RPY p m st ce ip ln be co ca ic il im ac aC ls tw lf lt cd) (hO : MO9 m) (hR' : RPY q m' st ce ip ln be co ca ic il im ac aC ls tw lf lt cd) (hO' : MO9 m') (hw : wy ≤ 2) (hw' : wy' ≤ 2) (h0 : 0 < nL m.1) (h0' : 0 < nL m'.1) (hi : i < inN m.1) (hi' : i < inN m'.1) {x x' : PM} (ex : x = rnG m.1 (brG m.1 m.2.1 m.2.2.1) wy (bgG m.1 i (fun _ => 0))) (ex' : x' = rnG m'.1 (brG m'.1 m'.2.1 m'.2.2.1) wy' (bgG m'.1 i (fun _ => 0)))
    (h1 : x.2.2.2.2.2 = x'.2.2.2.2.2 → (¬ x5 = 0 → (x.1 = 2 ↔ x'.1 = 2)) → BWl 1 Φ) (hn : ¬ (x.2.2.2.2.2 = x'.2.2.2.2.2 ∧ (¬ x5 = 0 → (x.1 = 2 ↔ x'.1 = 2))) → BWl 0 Φ) : wl_X8_writeAlike ce ip ln be ca ic il im ac aC ls tw lf lt cd (nI p) (nI wy) (nI q) (nI wy') (nI i) x5 a0 w0 n0 e0 f0 u0 d0 k1 k2 k3 k4 k5 k6 k7 k8 k9 vo he we sr go pk ot Φ := by
  have hP : PMo m.1 wy x := by rw [ex]; exact rn_pmo h0
  have hP' : PMo m'.1 wy' x' := by rw [ex']; exact rn_pmo h0'
  have hk : x.2.2.1 ≤ 1000 := by rw [ex]; exact rn_k
  have hk' : x'.2.2.1 ≤ 1000 := by rw [ex']; exact rn_k
  have hl := hP.2.2.2.1
  have hl' := hP'.2.2.2.1
  unfold wl_X8_writeAlike
  refine sq8_tries hO.1 hp hR.1 hR.2 hO.2.1 hw h0 hi (fun n e f u ma k1 k2 k3 k4 k5 k6 k7 k8 k9 vo he we sr go pk hM _ _ => ?_)
  rw [← ex] at hM
  have key : ∀ (fu c : Nat) (ot : Nat → Int32), c ≤ x.2.2.2.2.2.length → (∀ j, j < c → ot j = sr j) → ll_X8_writeAlike_23 ce ip ln be ca ic il im ac aC ls tw lf lt cd (nI p) (nI wy) (nI q) (nI wy') (nI i) x5 Φ fu (nI p) (nI wy) n e f u ma k1 k2 k3 k4 k5 k6 k7 k8 k9 vo he we sr go pk ot (nI x.2.2.2.2.2.length) e (nI c) := by
    intro fu
    induction fu with
    | zero => intros; trivial
    | succ fu ih =>
      intro c ot hc ha
      show bl_X8_writeAlike_23 _ _ _ _ _ _ _ _ _ _ _ _ _ _ _ _ _ _ _ _ _ _ _ _ _ _ _ _ _ _ _ _ _ _ _ _ _ _ _ _ _ _ _ _ _ _ _ _ _
      unfold bl_X8_writeAlike_23
      rw [nI_leI (by omega) (by omega), nI_clamp (n := c) (by omega), nI_1]
      refine ⟨fun z => ?_, fun z _ _ => ih (c + 1) _ (by omega) (fun j hj => ?_)⟩
      rotate_left
      · by_cases ej : j = c
        · rw [ej, pk_us]
        · rw [pk_un ej]; exact ha j (by omega)
      have hot : KE9 1001 x.2.2.2.2.2 ot := fun j y hy hj => by rw [ha j (by have := get_lt hy; omega)]; exact hM.2.2.2.2.2.2 j y hy hj
      refine sq8_tries hO'.1 hq hR'.1 hR'.2 hO'.2.1 hw' h0' hi' (fun n2 e2 f2 u2 ma2 k1 k2 k3 k4 k5 k6 k7 k8 k9 vo he2 we2 sr2 go pk hM2 _ _ => ?_)
      rw [← ex'] at hM2
      have eu2 : u2 = nI x'.2.2.2.2.2.length := hM2.2.2.2.1
      have qe : e = e2 ↔ (x.1 = 2 ↔ x'.1 = 2) := by
        rw [hM.1, hM2.1]
        by_cases a : x.1 = 2
        · by_cases b : x'.1 = 2
          · rw [if_pos a, if_pos b]; exact ⟨fun _ => ⟨fun _ => b, fun _ => a⟩, fun _ => rfl⟩
          · rw [if_pos a, if_neg b]; exact ⟨fun q => absurd q (by decide), fun q => absurd (q.mp a) b⟩
        · by_cases b : x'.1 = 2
          · rw [if_neg a, if_pos b]; exact ⟨fun q => absurd q (by decide), fun q => absurd (q.mpr b) a⟩
          · rw [if_neg a, if_neg b]; exact ⟨fun _ => ⟨fun z => absurd z a, fun z => absurd z b⟩, fun _ => rfl⟩
      rw [eu2, nI_eq (by omega) (by omega), qe]
      have bad : ¬ (x.2.2.2.2.2 = x'.2.2.2.2.2 ∧ (¬ x5 = 0 → (x.1 = 2 ↔ x'.1 = 2))) → ∀ ot, Φ 0 (nI q) (nI wy') n2 e2 f2 (nI x'.2.2.2.2.2.length) ma2 k1 k2 k3 k4 k5 k6 k7 k8 k9 vo he2 we2 sr2 go pk ot := fun z ot => hn z _ _ _ _ _ _ _ _ _ _ _ _ _ _ _ _ _ _ _ _ _ _ _
      have cmp : x'.2.2.2.2.2.length = x.2.2.2.2.2.length → (¬ x5 = 0 → (x.1 = 2 ↔ x'.1 = 2)) → ∀ fu, ll_X8_writeAlike_87 ce ip ln be ca ic il im ac aC ls tw lf lt cd (nI p) (nI wy) (nI q) (nI wy') (nI i) x5 Φ fu (nI q) (nI wy') n2 e2 f2 (nI x'.2.2.2.2.2.length) ma2 k1 k2 k3 k4 k5 k6 k7 k8 k9 vo he2 we2 sr2 go pk ot (nI x.2.2.2.2.2.length) 0 := by
        intro elen hend
        have k87 : ∀ (fu j : Nat), j ≤ x.2.2.2.2.2.length → (∀ t, t < j → ot t = sr2 t) → ll_X8_writeAlike_87 ce ip ln be ca ic il im ac aC ls tw lf lt cd (nI p) (nI wy) (nI q) (nI wy') (nI i) x5 Φ fu (nI q) (nI wy') n2 e2 f2 (nI x'.2.2.2.2.2.length) ma2 k1 k2 k3 k4 k5 k6 k7 k8 k9 vo he2 we2 sr2 go pk ot (nI x.2.2.2.2.2.length) (nI j) := by
          intro fu
          induction fu with
          | zero => intros; trivial
          | succ fu ih2 =>
            intro j hj hs
            show bl_X8_writeAlike_87 _ _ _ _ _ _ _ _ _ _ _ _ _ _ _ _ _ _ _ _ _ _ _ _ _ _ _ _ _ _ _ _ _ _ _ _ _ _ _ _ _ _ _ _ _ _ _ _
            unfold bl_X8_writeAlike_87
            rw [nI_leI (by omega) (by omega), nI_clamp (n := j) (by omega), nI_1]
            refine ⟨fun z => h1 (ke_full hot hM2.2.2.2.2.2.2 elen.symm (by omega) (fun t ht => hs t (by omega))) hend _ _ _ _ _ _ _ _ _ _ _ _ _ _ _ _ _ _ _ _ _ _ _, fun z _ _ => ⟨fun y => ih2 (j + 1) (by omega) (fun t ht => ?_), fun y => bad (fun qq => y ?_) _⟩⟩
            · by_cases et : t = j
              · rw [et]; exact y.symm
              · exact hs t (by omega)
            · have hlt : j < x.2.2.2.2.2.length := by omega
              have b1 := hot j _ (List.getElem?_eq_getElem hlt) (by omega)
              have b2 := hM2.2.2.2.2.2.2 j (x.2.2.2.2.2[j]) (by rw [← qq.1]; exact List.getElem?_eq_getElem hlt) (by omega)
              rw [b1, b2]
        exact fun fu => k87 fu 0 (Nat.zero_le _) (fun t ht => absurd ht (Nat.not_lt_zero _))
      refine ⟨fun y => bad (fun qq => y (by rw [qq.1])) _, fun y => ⟨fun w => cmp y (fun q => absurd w q), fun w => ⟨fun v => cmp y (fun _ => v), fun v => bad (fun qq => v (qq.2 w)) _⟩⟩⟩
  have eu : u = nI x.2.2.2.2.2.length := hM.2.2.2.1
  rw [eu]
  intro fu
  have := key fu 0 ot (Nat.zero_le _) (fun j hj => absurd hj (Nat.not_lt_zero _))
  rw [eu] at this
  exact this
theorem sq8_apart {Φ : PAm} (hR : RPY 0 m st ce ip ln be co ca ic il im ac aC ls tw lf lt cd) (hO : MO9 m) (h : BWm (f_apart m) Φ) : wl_X8_apart ce ip ln be ca ic il im ac aC ls tw lf lt cd th a0 w0 n0 e0 f0 u0 d0 k1 k2 k3 k4 k5 k6 k7 k8 k9 vo he we sr go pk ot Φ := by
  have h16 : nL m.1 ≤ 16 := hO.1.2.2.2.2.2.2.2.2.1
  have h64 := inN_64 hO.1
  have hln : ln 0 = nI (nL m.1) := hR.1.2.2.2.1
  have q0 : ln 0 = 0 ↔ nL m.1 = 0 := by rw [hln]; exact nI_eq (b := 0) (by omega) (by decide)
  unfold wl_X8_apart
  unfold f_apart at h
  rw [q0]
  refine ⟨fun z => ?_, fun z => ?_⟩
  rotate_left
  · rw [if_neg (by omega)] at h
    exact h _ _ _ _ _ _ _ _ _ _ _ _ _ _ _ _ _ _ _ _ _ _ _
  have h0 : 0 < nL m.1 := by omega
  rw [if_pos h0] at h
  have key : ∀ (f i : Nat) (a0 w0 n0 e0 f0 u0 d0 : Int32) (k1 k2 k3 k4 k5 k6 k7 k8 k9 vo he we sr go pk ot : Nat → Int32), i ≤ inN m.1 → fdG (fun i => decide (¬ (rn0 m i).2.2.2.2.2 = (rn2 m i).2.2.2.2.2)) (inN m.1) 0 = fdG (fun i => decide (¬ (rn0 m i).2.2.2.2.2 = (rn2 m i).2.2.2.2.2)) (inN m.1 - i) i → ll_X8_apart_18 ce ip ln be ca ic il im ac aC ls tw lf lt cd Φ f 0 a0 w0 n0 e0 f0 u0 d0 k1 k2 k3 k4 k5 k6 k7 k8 k9 vo he we sr go pk ot (nI i) := by
    intro f
    induction f with
    | zero => intros; trivial
    | succ f ih =>
      intro i a0 w0 n0 e0 f0 u0 d0 k1 k2 k3 k4 k5 k6 k7 k8 k9 vo he we sr go pk ot hi ef
      show bl_X8_apart_18 _ _ _ _ _ _ _ _ _ _ _ _ _ _ _ _ _ _ _ _ _ _ _ _ _ _ _ _ _ _ _ _ _ _ _ _ _ _ _ _ _ _
      unfold bl_X8_apart_18
      refine sq8_inputsOf (p := 0) hR.1.2.2.1 hO.1 (by decide) ?_
      rw [nI_leI (by omega) (by omega)]
      refine ⟨fun y => ?_, fun y => ?_⟩
      · have e0 : inN m.1 - i = 0 := by omega
        rw [ef, e0] at h
        exact h _ _ _ _ _ _ _ _ _ _ _ _ _ _ _ _ _ _ _ _ _ _ _
      · have es : inN m.1 - i = inN m.1 - (i + 1) + 1 := by omega
        rw [es] at ef
        refine sq8_writeAlike (p := 0) (q := 0) (wy := 2) (wy' := 0) (x5 := 0) (x := rn2 m i) (x' := rn0 m i) (by decide) (by decide) hR hO hR hO (by decide) (by decide) h0 h0 (by omega) (by omega) rfl rfl (fun e _ a w n e2 f2 u d k1 k2 k3 k4 k5 k6 k7 k8 k9 vo he we sr go pk ot => ?_) (fun e a w n e2 f2 u d k1 k2 k3 k4 k5 k6 k7 k8 k9 vo he we sr go pk ot => ?_)
        · refine ⟨fun _ => ?_, fun w => absurd w (by decide)⟩
          rw [fdG_no (by rw [decide_eq_true_eq]; exact fun q => q e.symm)] at ef
          rw [nI_1]
          exact ih (i + 1) _ _ _ _ _ _ _ _ _ _ _ _ _ _ _ _ _ _ _ _ _ _ _ (by omega) ef
        · refine ⟨fun w => absurd rfl w, fun _ => ?_⟩
          rw [fdG_at (by rw [decide_eq_true_eq]; exact fun q => e ⟨q.symm, fun q => absurd rfl q⟩)] at ef
          rw [ef] at h
          exact h _ _ _ _ _ _ _ _ _ _ _ _ _ _ _ _ _ _ _ _ _ _ _
  exact fun f => key f 0 _ _ _ _ _ _ _ _ _ _ _ _ _ _ _ _ _ _ _ _ _ _ _ (Nat.zero_le _) rfl
theorem sq8_rounds {x : Int32} {Φ : PTa} (hR : RPY 0 m st ce ip ln be co ca ic il im ac aC ls tw lf lt cd) (hO : MO9 m) (h : BWq (f_rounds m x) Φ) : wl_X8_rounds ce ip ln be ca ic il im ac aC ls tw lf lt cd x th a0 w0 n0 e0 f0 u0 d0 k1 k2 k3 k4 k5 k6 k7 k8 k9 vo he we sr go pk Φ := by
  unfold wl_X8_rounds
  unfold f_rounds at h
  refine sq8_isInput hR hO (fun e => ⟨fun z => absurd rfl z, fun _ => by rw [e] at h; exact h _ _ _ _ _ _ _ _ _ _ _ _ _ _ _ _ _ _ _ _ _ _⟩) (fun i h0 hi ex e => ⟨fun _ => ?_, fun z => absurd z (by decide)⟩)
  rw [e] at h
  have h : BWq (nI (rdG m.1 (brG m.1 m.2.1 m.2.2.1) i 100 0 (fun _ => 0))) Φ := h
  have key : ∀ (f n : Nat) (a0 w0 n0 e0 f0 u0 d0 : Int32) (k1 k2 k3 k4 k5 k6 k7 k8 k9 vo he we sr go pk O : Nat → Int32), n ≤ 100 → AGn 16 O we → rdG m.1 (brG m.1 m.2.1 m.2.2.1) i 100 0 (fun _ => 0) = rdG m.1 (brG m.1 m.2.1 m.2.2.1) i (100 - n) n O → ll_X8_rounds_21 ce ip ln be ca ic il im ac aC ls tw lf lt cd x Φ f 0 a0 w0 n0 e0 f0 u0 d0 k1 k2 k3 k4 k5 k6 k7 k8 k9 vo he we sr go pk (nI n) := by
    intro f
    induction f with
    | zero => intros; trivial
    | succ f ih =>
      intro n a0 w0 n0 e0 f0 u0 d0 k1 k2 k3 k4 k5 k6 k7 k8 k9 vo he we sr go pk O hn hO2 er
      show bl_X8_rounds_21 _ _ _ _ _ _ _ _ _ _ _ _ _ _ _ _ _ _ _ _ _ _ _ _ _ _ _ _ _ _ _ _ _ _ _ _ _ _ _ _ _ _
      unfold bl_X8_rounds_21
      have q100 : (100 : Int32) ≤ nI n ↔ 100 ≤ n := nI_leI (a := 100) (by decide) (by omega)
      rw [q100, nI_1, ex]
      refine ⟨fun y => ?_, fun y => sq8_begins (p := 0) (wy := 0) hR.1.2.1 hR.1.2.2.1 hO.1 (by decide) hi (fun he' hh => ?_)⟩
      · have e0 : 100 - n = 0 := by omega
        have en : n = 100 := by omega
        rw [er, e0, en] at h
        exact h _ _ _ _ _ _ _ _ _ _ _ _ _ _ _ _ _ _ _ _ _ _
      · have es : 100 - n = 100 - (n + 1) + 1 := by omega
        rw [es] at er
        have ed : rdG m.1 (brG m.1 m.2.1 m.2.2.1) i (100 - (n + 1) + 1) n O = if (itG m.1 (brG m.1 m.2.1 m.2.2.1) 0 1000 (bgG m.1 i O)).1 = 2 then rdG m.1 (brG m.1 m.2.1 m.2.2.1) i (100 - (n + 1)) (n + 1) (itG m.1 (brG m.1 m.2.1 m.2.2.1) 0 1000 (bgG m.1 i O)).2.2.2.1 else n := rfl
        rw [ed] at er
        refine sq8_goesOn (p := 0) (wy := 0) (x := bgG m.1 i O) hO.1 (by decide) hR.1 hR.2 hO.2.1 (by decide) (PMo.bg h0 (fun q => absurd q (by decide))) (show (0 : Nat) < 2 ^ 29 by decide) (Or.inl rfl) (RM9.bg h0 hh hO2) (fun n2 e2 f2 u ma k1 k2 k3 k4 k5 k6 k7 k8 k9 vo he we sr go pk hM _ _ => ?_)
        have q2 : (rnG m.1 (brG m.1 m.2.1 m.2.2.1) 0 (bgG m.1 i O)).1 = 2 ↔ (itG m.1 (brG m.1 m.2.1 m.2.2.1) 0 1000 (bgG m.1 i O)).1 = 2 := by
          exact rnG_e2
        have ew : (rnG m.1 (brG m.1 m.2.1 m.2.2.1) 0 (bgG m.1 i O)).2.2.2.1 = (itG m.1 (brG m.1 m.2.1 m.2.2.1) 0 1000 (bgG m.1 i O)).2.2.2.1 := by rw [rnG_2]
        have e12 := hM.e0
        have hwe := hM.2.2.2.2.2.1
        rw [ew] at hwe
        refine ⟨fun z => ?_, fun z => ?_⟩
        · have z2 : (itG m.1 (brG m.1 m.2.1 m.2.2.1) 0 1000 (bgG m.1 i O)).1 = 2 := by
            by_cases q : (rnG m.1 (brG m.1 m.2.1 m.2.2.1) 0 (bgG m.1 i O)).1 = 2
            · exact q2.mp q
            · exact absurd (e12.1.mpr q) z
          rw [if_pos z2] at er
          rw [← ex]
          exact ih (n + 1) _ _ _ _ _ _ _ _ _ _ _ _ _ _ _ _ _ _ _ _ _ _ _ (by omega) hwe er
        · rw [if_neg (fun q => e12.1.mp z (q2.mpr q))] at er
          rw [er] at h
          exact h _ _ _ _ _ _ _ _ _ _ _ _ _ _ _ _ _ _ _ _ _ _
  exact sq8_freshens (fun we' hz f => key f 0 _ _ _ _ _ _ _ _ _ _ _ _ _ _ _ _ _ _ _ _ _ _ (fun _ => 0) (Nat.zero_le _) (fun j hj => hz j hj) rfl)
theorem sq8_same {x : Int32} {il9 : Nat → Int32} {Φ : PAm} (hR : RPY 0 m st ce ip ln be co ca ic il im ac aC ls tw lf lt cd) (hO : MO9 m) (hno : (∀ k, k < 4 → x = nI k → il9 k = 0) → BWm (-2) Φ) (hyes : ∀ k, k < 4 → x = nI k → ¬ il9 k = 0 → ∃ m', RPY (2 + k) m' st ce ip ln be co ca ic il im ac aC ls tw lf lt cd ∧ MO9 m' ∧ BWm (sameM m m') Φ) : wl_X8_same ce ip ln be ca ic il im ac aC ls tw lf lt cd il9 x th a0 w0 n0 e0 f0 u0 d0 k1 k2 k3 k4 k5 k6 k7 k8 k9 vo he we sr go pk ot Φ := by
  have h16 : nL m.1 ≤ 16 := hO.1.2.2.2.2.2.2.2.2.1
  have h64 := inN_64 hO.1
  have hln : ln 0 = nI (nL m.1) := hR.1.2.2.2.1
  have q0 : ln 0 = 0 ↔ nL m.1 = 0 := by rw [hln]; exact nI_eq (b := 0) (by omega) (by decide)
  unfold wl_X8_same
  refine sq8_wi (m := 3) (by decide) (fun e2 => ⟨fun _ => hno (fun k hk ek => absurd ⟨k, hk, ek⟩ (ixO_no (by decide) e2)) _ _ _ _ _ _ _ _ _ _ _ _ _ _ _ _ _ _ _ _ _ _ _, fun z => absurd rfl z⟩) (fun k hk ek _ => ⟨fun z => absurd z (by decide), fun _ _ => ?_⟩)
  rw [ek, nI_clamp (n := k) (by omega)]
  refine ⟨fun z => ?_, fun z => hno (fun k' hk' ek' => by rw [ek] at ek'; rw [← (nI_eq (by omega) (by omega)).mp ek']; exact z) _ _ _ _ _ _ _ _ _ _ _ _ _ _ _ _ _ _ _ _ _ _ _⟩
  obtain ⟨m', hR', hO', h⟩ := hyes k hk ek z
  have h16' : nL m'.1 ≤ 16 := hO'.1.2.2.2.2.2.2.2.2.1
  have h64' := inN_64 hO'.1
  have hln' : ln (2 + k) = nI (nL m'.1) := hR'.1.2.2.2.1
  have q0' : ln (2 + k) = 0 ↔ nL m'.1 = 0 := by rw [hln']; exact nI_eq (b := 0) (by omega) (by decide)
  have e2k : (2 : Int32) + nI k = nI (2 + k) := nI_add 2 k
  unfold sameM at h
  rw [q0, e2k, nI_clamp (n := 2 + k) (by omega), q0']
  refine ⟨fun y => ?_, fun y _ => ⟨fun y2 => ?_, fun y2 => sq8_inputsOf (p := 0) hR.1.2.2.1 hO.1 (by decide) (sq8_inputsOf (p := 2 + k) hR'.1.2.2.1 hO'.1 (by omega) ?_)⟩⟩
  · rw [if_neg (fun q => by omega)] at h
    exact h _ _ _ _ _ _ _ _ _ _ _ _ _ _ _ _ _ _ _ _ _ _ _
  · rw [if_neg (fun q => by omega)] at h
    exact h _ _ _ _ _ _ _ _ _ _ _ _ _ _ _ _ _ _ _ _ _ _ _
  rw [nI_eq (by omega) (by omega)]
  refine ⟨fun w => ?_, fun w => ?_⟩
  rotate_left
  · rw [if_neg (fun q => w q.2.2)] at h
    exact h _ _ _ _ _ _ _ _ _ _ _ _ _ _ _ _ _ _ _ _ _ _ _
  have h0 : 0 < nL m.1 := by omega
  have h0' : 0 < nL m'.1 := by omega
  rw [if_pos ⟨h0, h0', w⟩] at h
  have key : ∀ (f i : Nat) (a0 w0 n0 e0 f0 u0 d0 : Int32) (k1 k2 k3 k4 k5 k6 k7 k8 k9 vo he we sr go pk ot : Nat → Int32), i ≤ inN m.1 → fdG (fun i => decide (¬ ((rn2 m i).2.2.2.2.2 = (rn2 m' i).2.2.2.2.2 ∧ (rn2 m i).1 = (rn2 m' i).1))) (inN m.1) 0 = fdG (fun i => decide (¬ ((rn2 m i).2.2.2.2.2 = (rn2 m' i).2.2.2.2.2 ∧ (rn2 m i).1 = (rn2 m' i).1))) (inN m.1 - i) i → ll_X8_same_66 ce ip ln be ca ic il im ac aC ls tw lf lt cd il9 (nI k) Φ f 0 a0 w0 n0 e0 f0 u0 d0 k1 k2 k3 k4 k5 k6 k7 k8 k9 vo he we sr go pk ot (nI (2 + k)) (nI i) := by
    intro f
    induction f with
    | zero => intros; trivial
    | succ f ih =>
      intro i a0 w0 n0 e0 f0 u0 d0 k1 k2 k3 k4 k5 k6 k7 k8 k9 vo he we sr go pk ot hi ef
      show bl_X8_same_66 _ _ _ _ _ _ _ _ _ _ _ _ _ _ _ _ _ _ _ _ _ _ _ _ _ _ _ _ _ _ _ _ _ _ _ _ _ _ _ _ _ _ _ _ _
      unfold bl_X8_same_66
      refine sq8_inputsOf (p := 0) hR.1.2.2.1 hO.1 (by decide) ?_
      rw [nI_leI (by omega) (by omega)]
      refine ⟨fun y => ?_, fun y => ?_⟩
      · have e0 : inN m.1 - i = 0 := by omega
        rw [ef, e0] at h
        exact h _ _ _ _ _ _ _ _ _ _ _ _ _ _ _ _ _ _ _ _ _ _ _
      · have es : inN m.1 - i = inN m.1 - (i + 1) + 1 := by omega
        rw [es] at ef
        have s1 : (rn2 m i).1 = 1 ∨ (rn2 m i).1 = 2 := rn2_12 m i
        have s2 : (rn2 m' i).1 = 1 ∨ (rn2 m' i).1 = 2 := rn2_12 m' i
        refine sq8_writeAlike (p := 0) (q := 2 + k) (wy := 2) (wy' := 2) (x5 := 1) (x := rn2 m i) (x' := rn2 m' i) (by decide) (by omega) hR hO hR' hO' (by decide) (by decide) h0 h0' (by omega) (by omega) rfl rfl (fun e e9 a w n e2 f2 u d k1 k2 k3 k4 k5 k6 k7 k8 k9 vo he we sr go pk ot => ?_) (fun e a w n e2 f2 u d k1 k2 k3 k4 k5 k6 k7 k8 k9 vo he we sr go pk ot => ?_)
        · have e9 := e9 (by decide)
          refine ⟨fun _ => ?_, fun w => absurd w (by decide)⟩
          rw [fdG_no (by rw [decide_eq_true_eq]; exact fun q => q ⟨e, by omega⟩)] at ef
          rw [nI_1]
          exact ih (i + 1) _ _ _ _ _ _ _ _ _ _ _ _ _ _ _ _ _ _ _ _ _ _ _ (by omega) ef
        · refine ⟨fun w => absurd rfl w, fun _ => ?_⟩
          rw [fdG_at (by rw [decide_eq_true_eq]; exact fun q => e ⟨q.1, fun _ => by rw [q.2]⟩)] at ef
          rw [ef] at h
          exact h _ _ _ _ _ _ _ _ _ _ _ _ _ _ _ _ _ _ _ _ _ _ _
  exact fun f => key f 0 _ _ _ _ _ _ _ _ _ _ _ _ _ _ _ _ _ _ _ _ _ _ _ (Nat.zero_le _) rfl
end WR9
