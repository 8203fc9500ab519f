section
section FR9
variable {m : MS} {st ce ip ln be co ca ic il im ac aC ls tw lf lt cd : Nat → Int32} {s n k u th : Int32} {hc wo hs : Nat → Int32}
theorem z40 (s : Nat) : 4 * 0 + s = s := by omega
theorem z160 (s : Nat) : 16 * 0 + s = s := by omega
theorem sq8_isL {x : Int32} {N : Nat} {r : Nat → Int32} {Φ : Int32 → Prop} (hr : r 0 = nI N) (hn : N < 2 ^ 31) (h0 : ixO x N = none → Φ 0) (h1 : ∀ j, j < N → x = nI j → ixO x N = some j → Φ 1) : (x < 0 → Φ 0) ∧ (¬ x < 0 → ((r 0 ≤ x → Φ 0) ∧ (¬ r 0 ≤ x → Φ 1))) := by
  rw [hr]
  exact ⟨fun z => h0 (ixO_lt z), fun z => ⟨fun y => h0 (ixO_ge y), fun y => by
    obtain ⟨j, a, b, c⟩ := ixO_in hn z y
    exact h1 j a b c⟩⟩
theorem sq8_isLine {x : Int32} {N : Nat} {r : Nat → Int32} {Φ : Int32 → Prop} (hr : r 0 = nI N) (hn : N < 2 ^ 31) (h0 : ixO x N = none → Φ 0) (h1 : ∀ j, j < N → x = nI j → ixO x N = some j → Φ 1) : wl_X8_isLine r x Φ := sq8_isL hr hn h0 h1
theorem sq8_isStuff {x : Int32} {N : Nat} {r : Nat → Int32} {Φ : Int32 → Prop} (hr : r 0 = nI N) (hn : N < 2 ^ 31) (h0 : ixO x N = none → Φ 0) (h1 : ∀ j, j < N → x = nI j → ixO x N = some j → Φ 1) : wl_X8_isStuff r x Φ := sq8_isL hr hn h0 h1
theorem sq8_isCell {x : Int32} {N : Nat} {r : Nat → Int32} {Φ : Int32 → Prop} (hr : r 0 = nI N) (hn : N < 2 ^ 31) (h0 : ixO x N = none → Φ 0) (h1 : ∀ j, j < N → x = nI j → ixO x N = some j → Φ 1) : wl_X8_isCell r x Φ := sq8_isL hr hn h0 h1
theorem sq8_stuff {x y : Int32} {Φ : Int32 → Int32 → Prop} (hR : RP8 0 m.1 st ce ip ln be co ca ic il im ac aC lf lt cd) (hO : MO9 m) (h : Φ (f_stuff m x y) 0) : wl_X8_stuff st be co x y th Φ := by
  have h4 : nS m.1 ≤ 4 := hO.1.1
  have hst : st 0 = nI (nS m.1) := hR.1.1
  unfold f_stuff at h
  unfold wl_X8_stuff
  refine sq8_isStuff hst (by omega) (fun e => ⟨fun _ => by rw [e] at h; exact h, fun z => absurd rfl z⟩) (fun j hj ex e => ⟨fun z => absurd z (by decide), fun _ => ?_⟩)
  rw [e] at h
  have h : Φ (if y = 0 then nI (beS m.1 j) else if y = 1 then nI (coS m.1 j) else -1) 0 := h
  obtain ⟨b1, b2⟩ := hR.1.beZ hj
  rw [z40] at b1 b2
  rw [ex, nI_clamp (n := j) (by omega), b1, b2]
  refine sq8_wi (m := 1) (by decide) (fun e2 => ⟨fun z => absurd rfl z, fun _ => ?_⟩) (fun i hi ey _ => ⟨fun _ => ⟨fun z _ => ?_, fun z _ => ?_⟩, fun z => absurd z (by decide)⟩)
  · have q := fun i hi => ixO_no (n := 2) (by decide) e2 ∘ fun (z : y = nI i) => ⟨i, hi, z⟩
    rw [if_neg (show ¬ y = 0 from q 0 (by decide)), if_neg (show ¬ y = 1 from q 1 (by decide))] at h
    exact h
  · have : i = 1 := by
      have : ¬ i = 0 := fun q => z (by rw [ey, q]; rfl)
      omega
    subst this
    rw [if_neg z, if_pos (by rw [ey]; rfl)] at h; exact h
  · rw [if_pos z] at h; exact h
theorem bear0_eq {l : Nat} (hR : RP8 0 m.1 st ce ip ln be co ca ic il im ac aC lf lt cd) (hO : MO9 m) (hY : YB 0 (nL m.1) m.2.1 m.2.2.1 ls tw) (hl : l < nL m.1) : be (ls l).toNatClampNeg * tw l = brG m.1 m.2.1 m.2.2.1 l := by
  have h4 : nS m.1 ≤ 4 := hO.1.1
  obtain ⟨h1, h2, h3⟩ := hO.2.1 l hl
  obtain ⟨y1, y2⟩ := hY l hl
  rw [z160] at y1 y2
  obtain ⟨b1, b2⟩ := hR.1.beZ h1
  rw [z40] at b1
  rw [y1, y2, nI_clamp (n := m.2.1 l) (by omega), b1]
  rfl
theorem sq8_line {x y : Int32} {Φ : Int32 → Int32 → Prop} (hR : RP8 0 m.1 st ce ip ln be co ca ic il im ac aC lf lt cd) (hO : MO9 m) (hY : YB 0 (nL m.1) m.2.1 m.2.2.1 ls tw) (hM : RH9 m.1 m.2.2.2 s n k u hc wo hs) (h : Φ (f_line m x y) 0) : wl_X8_line ln be ac ls tw wo x y th Φ := by
  have h16 : nL m.1 ≤ 16 := hO.1.2.2.2.2.2.2.2.2.1
  have hln : ln 0 = nI (nL m.1) := hR.2.2.2.1
  unfold f_line at h
  unfold wl_X8_line
  refine sq8_isLine hln (by omega) (fun e => ⟨fun _ => by rw [e] at h; exact h, fun z => absurd rfl z⟩) (fun j hj ex e => ⟨fun z => absurd z (by decide), fun _ => ?_⟩)
  rw [e] at h
  have h : Φ (if y = 0 then nI (lnG m.1 j).1 else if y = 1 then nI (m.2.1 j) else if y = 2 then nI (m.2.2.1 j) else if y = 3 then brG m.1 m.2.1 m.2.2.1 j else if y = 4 then m.2.2.2.2.2.2.1 j else -1) 0 := h
  obtain ⟨y1, y2⟩ := hY j hj
  have l1 := (hR.2.2.2.2 _ _ (lnG_get hj)).1
  rw [z160] at y1 y2 l1
  rw [ex]
  refine sq8_wi (m := 4) (by decide) (fun e2 => ⟨fun z => absurd rfl z, fun _ => ?_⟩) (fun i hi ey _ => ⟨fun _ => ⟨fun z0 => ⟨fun z1 => ⟨fun z2 => ⟨fun z3 _ => ?_, fun z => ?_⟩, fun z _ => ?_⟩, fun z _ => ?_⟩, fun z _ => ?_⟩, fun z => absurd z (by decide)⟩)
  · have q := fun i hi => ixO_no (n := 5) (by decide) e2 ∘ fun (z : y = nI i) => ⟨i, hi, z⟩
    rw [if_neg (show ¬ y = 0 from q 0 (by decide)), if_neg (show ¬ y = 1 from q 1 (by decide)), if_neg (show ¬ y = 2 from q 2 (by decide)), if_neg (show ¬ y = 3 from q 3 (by decide)), if_neg (show ¬ y = 4 from q 4 (by decide))] at h
    exact h
  · have : i = 4 := by
      have q0 : ¬ i = 0 := fun q => z0 (by rw [ey, q]; rfl)
      have q1 : ¬ i = 1 := fun q => z1 (by rw [ey, q]; rfl)
      have q2 : ¬ i = 2 := fun q => z2 (by rw [ey, q]; rfl)
      have q3 : ¬ i = 3 := fun q => z3 (by rw [ey, q]; rfl)
      omega
    subst this
    rw [if_neg z0, if_neg z1, if_neg z2, if_neg z3, if_pos (by rw [ey]; rfl)] at h
    rw [nI_clamp (n := j) (by omega), hM.2.2.2 j (by omega)]
    exact h
  · rw [z, if_neg (by decide), if_neg (by decide), if_neg (by decide), if_pos rfl] at h
    unfold wl_X8_bearsOf
    rw [nI_clamp (n := j) (by omega), bear0_eq hR hO hY hj]
    exact fun _ _ _ => h
  · rw [z, if_neg (by decide), if_neg (by decide), if_pos rfl] at h
    rw [nI_clamp (n := j) (by omega), y2]; exact h
  · rw [z, if_neg (by decide), if_pos rfl] at h
    rw [nI_clamp (n := j) (by omega), y1]; exact h
  · rw [if_pos z] at h
    rw [nI_clamp (n := j) (by omega), l1]; exact h
theorem YB.layZ {p N : Nat} {sf tf : Nat → Nat} {l s t : Nat} (h : YB p N sf tf ls tw) : YB p N (updN sf l s) (updN tf l t) (upd ls (16 * p + l) (nI s)) (upd tw (16 * p + l) (nI t)) := by
  intro i hi
  unfold updN
  by_cases e : i = l
  · rw [e, pk_us, pk_us, if_pos rfl, if_pos rfl]; exact ⟨rfl, rfl⟩
  · rw [pk_un (by omega), pk_un (by omega), if_neg e, if_neg e]; exact h i hi
theorem RH9.woZ {wo2 : Nat → Int32} {g : PGr} {x : PM} {O2 : Nat → Int32} (h : RH9 g x s n k u hc wo hs) (h2 : AGn 16 O2 wo2) : RH9 g (x.1, x.2.1, x.2.2.1, O2, x.2.2.2.2) s n k u hc wo2 hs := ⟨h.1, h.2.1, h.2.2.1, h2⟩
/-- laying a line touches no other programme's laying -/
def KY0 (ls tw ls' tw' : Nat → Int32) : Prop := ∀ p N sf tf, 1 ≤ p → p < 6 → N ≤ 16 → YB p N sf tf ls tw → YB p N sf tf ls' tw'
theorem KY0.rf : KY0 ls tw ls tw := fun _ _ _ _ _ _ _ h => h
theorem KY0.lay {l : Nat} {a b : Int32} (hl : l < 16) : KY0 ls tw (upd ls l a) (upd tw l b) := by
  intro p N sf tf hp _ hN h i hi
  rw [pk_un (by omega), pk_un (by omega)]
  exact h i hi
theorem sq8_lay {x y z : Int32} {Φ : Int32 → Int32 → (Nat → Int32) → (Nat → Int32) → (Nat → Int32) → Prop} (hR : RP8 0 m.1 st ce ip ln be co ca ic il im ac aC lf lt cd) (hO : MO9 m) (hY : YB 0 (nL m.1) m.2.1 m.2.2.1 ls tw) (hM : RH9 m.1 m.2.2.2 s n k u hc wo hs) (h : ∀ ls' tw' wo', YB 0 (nL m.1) (s_lay m x y z).2.1 (s_lay m x y z).2.2.1 ls' tw' → KY0 ls tw ls' tw' → RH9 m.1 (s_lay m x y z).2.2.2 s n k u hc wo' hs → Φ (f_lay m x y z) 0 ls' tw' wo') : wl_X8_lay st ln x y z th ls tw wo Φ := by
  have h16 : nL m.1 ≤ 16 := hO.1.2.2.2.2.2.2.2.2.1
  have h4 : nS m.1 ≤ 4 := hO.1.1
  have hst : st 0 = nI (nS m.1) := hR.1.1
  have hln : ln 0 = nI (nL m.1) := hR.2.2.2.1
  have no : layO m x y z = none → Φ 0 0 ls tw wo := fun e => by
    unfold s_lay f_lay at h
    rw [e] at h
    exact h ls tw wo hY KY0.rf hM
  unfold wl_X8_lay
  refine sq8_isLine hln (by omega) (fun e => ⟨fun _ => no ?_, fun q => absurd rfl q⟩) (fun l hl el e1 => ⟨fun q => absurd q (by decide), fun _ => sq8_isStuff hst (by omega) (fun e => ⟨fun _ => no ?_, fun q => absurd rfl q⟩) (fun s hs es e2 => ⟨fun q => absurd q (by decide), fun _ => ?_⟩)⟩)
  · unfold layO; rw [e]
  · unfold layO; rw [e1, e]
  have hz : (∃ t, 1 ≤ t ∧ t ≤ 4 ∧ z = nI t ∧ layO m x y z = some (l, s, t)) ∨ layO m x y z = none := by
    unfold layO
    rw [e1, e2]
    cases e3 : ixO z 5 with
    | none => exact Or.inr rfl
    | some t =>
      obtain ⟨h5, et⟩ := ixO_some (by decide) e3
      by_cases t0 : t = 0
      · refine Or.inr ?_
        show (if t = 0 then none else some (l, s, t)) = none
        rw [if_pos t0]
      · refine Or.inl ⟨t, by omega, by omega, et, ?_⟩
        show (if t = 0 then none else some (l, s, t)) = _
        rw [if_neg t0]
  have lo : z < 1 → layO m x y z = none := fun q => hz.resolve_left (fun ⟨t, a, b, c, d⟩ => by
    rw [c] at q
    have := (nI_ltI (b := 1) (by omega) (by decide)).mp q
    omega)
  have hi' : 4 < z → layO m x y z = none := fun q => hz.resolve_left (fun ⟨t, a, b, c, d⟩ => by
    rw [c] at q
    have := (nI_ltI (a := 4) (by decide) (by omega)).mp q
    omega)
  refine ⟨fun q => ⟨fun q2 => absurd rfl q2, fun _ => no (lo q)⟩, fun q => ⟨fun q2 => ⟨fun q3 => absurd rfl q3, fun _ => no (hi' q2)⟩, fun q2 => ⟨fun _ => ?_, fun q3 => absurd q3 (by decide)⟩⟩⟩
  obtain ⟨t, ht, et⟩ := nI_of2 (M := 4) (n := 4) (by decide) (fun q3 => q (Int32.lt_of_lt_of_le q3 (by decide))) (Int32.not_lt.mp q2)
  have t0 : ¬ t = 0 := fun e => by rw [et, e] at q; exact q (by decide)
  have e3 : ixO z 5 = some t := by rw [et]; exact ixO_nI (by decide) (by omega)
  have el2 : layO m x y z = some (l, s, t) := by unfold layO; rw [e1, e2, e3]; exact if_neg t0
  unfold s_lay f_lay at h
  rw [el2] at h
  rw [el, es, et, nI_clamp (n := l) (by omega)]
  have hy := hY.layZ (l := l) (s := s) (t := t)
  rw [z160] at hy
  exact fun _ _ _ => h _ _ _ hy (KY0.lay (by omega)) (hM.woZ hM.2.2.2.updZ)
theorem sq8_cost {Φ : Int32 → Int32 → Prop} (hR : RP8 0 m.1 st ce ip ln be co ca ic il im ac aC lf lt cd) (hO : MO9 m) (hY : YB 0 (nL m.1) m.2.1 m.2.2.1 ls tw) (h : Φ (f_cost m) 0) : wl_X8_cost ln co ls tw th Φ := by
  have h16 : nL m.1 ≤ 16 := hO.1.2.2.2.2.2.2.2.2.1
  have h4 : nS m.1 ≤ 4 := hO.1.1
  have hln : ln 0 = nI (nL m.1) := hR.2.2.2.1
  have key : ∀ (f l : Nat), l ≤ nL m.1 → ll_X8_cost_9 ln co ls tw Φ f 0 (csG m.1 m.2.1 m.2.2.1 l) (nI l) := by
    intro f
    induction f with
    | zero => intros; trivial
    | succ f ih =>
      intro l hl
      show bl_X8_cost_9 _ _ _ _ _ _ _ _ _
      unfold bl_X8_cost_9
      rw [hln, nI_leI (by omega) (by omega), nI_clamp (n := l) (by omega), nI_1]
      refine ⟨fun z => ?_, fun z _ _ _ => ?_⟩
      · have : l = nL m.1 := by omega
        subst this
        exact h
      · have hlt : l < nL m.1 := by omega
        obtain ⟨hs, _, _⟩ := hO.2.1 l hlt
        obtain ⟨y1, y2⟩ := hY l hlt
        rw [z160] at y1 y2
        obtain ⟨b1, b2⟩ := hR.1.beZ hs
        rw [z40] at b2
        rw [y1, y2, nI_clamp (n := m.2.1 l) (by omega), b2]
        exact ih (l + 1) (by omega)
  exact fun f => key f 0 (Nat.zero_le _)
theorem sq8_inputs {Φ : Int32 → Int32 → Prop} (hR : RP8 0 m.1 st ce ip ln be co ca ic il im ac aC lf lt cd) (hO : MO9 m) (h : Φ (f_inputs m) 0) : wl_X8_inputs ip il im th Φ := sq8_inputsOf (p := 0) hR.2.2.1 hO.1 (by decide) h
theorem sq8_input {x y : Int32} {Φ : Int32 → Int32 → Prop} (hR : RP8 0 m.1 st ce ip ln be co ca ic il im ac aC lf lt cd) (hO : MO9 m) (h : Φ (f_input m x y) 0) : wl_X8_input ce ip ca ic il im x y th Φ := by
  have h64 := inN_64 hO.1
  have h6 : nC m.1 ≤ 6 := hO.1.2.2.1
  have hce : ce 0 = nI (nC m.1) := hR.2.1.1
  unfold f_input at h
  unfold wl_X8_input
  refine ⟨fun z => by rw [ixO_lt z] at h; exact h, fun z => sq8_inputsOf (p := 0) hR.2.2.1 hO.1 (by decide) ⟨fun z2 => by rw [ixO_ge z2] at h; exact h, fun z2 => ?_⟩⟩
  obtain ⟨i, hi, ei, e1⟩ := ixO_in (by omega) z z2
  refine sq8_isCell hce (by omega) (fun e => ⟨fun _ => by rw [e1, e] at h; exact h, fun q => absurd rfl q⟩) (fun c hc ec e2 => ⟨fun q => absurd q (by decide), fun _ => ?_⟩)
  rw [e1, e2] at h
  rw [ei, ec]
  exact sq8_beginsWith (p := 0) hR.2.1 hR.2.2.1 hO.1 (by decide) hi hc h
theorem sq8_begin {x : Int32} {Φ : Int32 → Int32 → Int32 → Int32 → Int32 → Int32 → (Nat → Int32) → Prop} (hR : RP8 0 m.1 st ce ip ln be co ca ic il im ac aC lf lt cd) (hO : MO9 m) (hM : RH9 m.1 m.2.2.2 s n k u hc wo hs) (h : ∀ s' n' k' u' hc', RH9 m.1 (s_begin m x).2.2.2 s' n' k' u' hc' wo hs → Φ (f_begin m x) 0 s' n' k' u' hc') : wl_X8_begin ce ip ln ca ic il im x th s n k u hc Φ := by
  have h16 : nL m.1 ≤ 16 := hO.1.2.2.2.2.2.2.2.2.1
  have h64 := inN_64 hO.1
  have h6 : nC m.1 ≤ 6 := hO.1.2.2.1
  have hce : ce 0 = nI (nC m.1) := hR.2.1.1
  have hln : ln 0 = nI (nL m.1) := hR.2.2.2.1
  have q0 : ln 0 = 0 ↔ nL m.1 = 0 := by rw [hln]; exact nI_eq (b := 0) (by omega) (by decide)
  have no : inQ m.1 x = none → Φ 0 0 s n k u hc := fun e => by
    unfold s_begin f_begin at h
    rw [e] at h
    exact h _ _ _ _ _ hM
  unfold wl_X8_begin
  rw [q0]
  refine ⟨fun z => no (by unfold inQ; rw [if_neg (by omega)]), fun z => ⟨fun z2 => no (by unfold inQ; rw [if_pos (by omega), ixO_lt z2]), fun z2 => sq8_inputsOf (p := 0) hR.2.2.1 hO.1 (by decide) ⟨fun z3 => ?_, fun z3 => no (by unfold inQ; rw [if_pos (by omega), ixO_ge (Int32.not_lt.mp z3)])⟩⟩⟩
  obtain ⟨i, hi, ei, e1⟩ := ixO_in (n := inN m.1) (by omega) z2 (Int32.not_le.mpr z3)
  have eo : inQ m.1 x = some i := by unfold inQ; rw [if_pos (by omega), e1]
  unfold s_begin f_begin at h
  rw [eo] at h
  have key : ∀ (f c : Nat) (he : Nat → Int32), c ≤ 6 → (∀ j, j < c → j < nC m.1 → he j = nI (inpG m.1 i j)) → ll_X8_begin_51 ce ip ln ca ic il im x Φ f 0 1 0 0 0 he (nI c) := by
    intro f
    induction f with
    | zero => intros; trivial
    | succ f ih =>
      intro c he hc ha
      show bl_X8_begin_51 _ _ _ _ _ _ _ _ _ _ _ _ _ _ _ _ _
      unfold bl_X8_begin_51
      have q6 : (6 : Int32) ≤ nI c ↔ 6 ≤ c := nI_leI (a := 6) (by decide) (by omega)
      rw [q6, hce, nI_leI (by omega) (by omega), nI_clamp (n := c) (by omega), nI_1, ei]
      refine ⟨fun z => h _ _ _ _ _ ⟨rfl, fun _ => rfl, fun _ => ⟨rfl, rfl, fun j hj => ha j (by omega) hj, KE9.nil⟩, hM.2.2.2⟩, fun z => ⟨fun y _ => ?_, fun y => sq8_beginsWith (p := 0) hR.2.1 hR.2.2.1 hO.1 (by decide) hi (by omega) (fun _ => ?_)⟩⟩
      · rw [← ei]
        refine ih (c + 1) _ (by omega) (fun j hj hj2 => ?_)
        rw [pk_un (by omega)]; exact ha j (by omega) hj2
      · rw [← ei]
        refine ih (c + 1) _ (by omega) (fun j hj hj2 => ?_)
        by_cases e : j = c
        · rw [e, pk_us]
        · rw [pk_un e]; exact ha j (by omega) hj2
  exact fun f => key f 0 hc (Nat.zero_le _) (fun j hj => absurd hj (Nat.not_lt_zero _))
theorem sq8_runM {x at_ way nx e f wr : Int32} {k1 k2 k3 k4 k5 k6 k7 k8 k9 vo he we sr : Nat → Int32} {Φ : PRn} (hR : RP8 0 m.1 st ce ip ln be co ca ic il im ac aC lf lt cd) (hO : MO9 m) (hY : YB 0 (nL m.1) m.2.1 m.2.2.1 ls tw) (hM : RH9 m.1 m.2.2.2 s n k u hc wo hs) (h : ∀ at_ way nx e f wr s' n' k' u' k1 k2 k3 k4 k5 k6 k7 k8 k9 vo he we sr hc' wo' hs', RH9 m.1 (s_run m x).2.2.2 s' n' k' u' hc' wo' hs' → Φ (f_run m x) 0 at_ way nx e f wr s' n' k' u' k1 k2 k3 k4 k5 k6 k7 k8 k9 vo he we sr hc' wo' hs') : wl_X8_run ln be ac aC ls tw lf lt cd x th at_ way nx e f wr s n k u k1 k2 k3 k4 k5 k6 k7 k8 k9 vo he we sr hc wo hs Φ := by
  unfold s_run f_run at h
  refine sq8_run hO.1 hR hY hO.2.1 hO.2.2 hM (fun z => ?_) (fun j hj ex => ?_)
  · have e : ixO x 1000001 = none := by
      cases e : ixO x 1000001 with
      | none => rfl
      | some j =>
        obtain ⟨a, b⟩ := ixO_some (by decide) e
        exact absurd ⟨j, by omega, b⟩ z
    rw [e] at h
    intros
    exact h _ _ _ _ _ _ _ _ _ _ _ _ _ _ _ _ _ _ _ _ _ _ _ _ _ _ hM
  · have e : ixO x 1000001 = some j := by rw [ex]; exact ixO_nI (by decide) (by omega)
    rw [e] at h
    intro at_ way nx e f wr s' n' k' u' k1 k2 k3 k4 k5 k6 k7 k8 k9 vo he we sr hc' wo' hs' hM'
    exact h _ _ _ _ _ _ _ _ _ _ _ _ _ _ _ _ _ _ _ _ _ _ _ _ _ _ hM'
theorem sq8_state {y : Int32} {Φ : Int32 → Int32 → Prop} (hO : MO9 m) (hM : RH9 m.1 m.2.2.2 s n k u hc wo hs) (h : Φ (f_state m y) 0) : wl_X8_state s n k u y th Φ := by
  have h4 := hO.2.2.1
  obtain ⟨m1, m2, m3, m4⟩ := hM
  unfold f_state at h
  unfold wl_X8_state
  have q0 : s = 0 ↔ m.2.2.2.1 = 0 := by rw [m1]; exact nI_eq (b := 0) (by omega) (by decide)
  have q2 : s = 2 ↔ m.2.2.2.1 = 2 := by rw [m1]; exact nI_eq (b := 2) (by omega) (by decide)
  rw [q0, q2]
  refine sq8_wi (m := 3) (by decide) (fun e2 => ⟨fun z => absurd rfl z, fun _ => ?_⟩) (fun i hi ey _ => ⟨fun _ => ⟨fun z0 => ⟨fun z1 => ⟨fun y0 => ⟨fun z2 => ?_, fun z2 => ?_⟩, fun y0 => ?_⟩, fun z1 => ⟨fun y0 => ?_, fun y0 => ⟨fun y2 => ?_, fun y2 => ?_⟩⟩⟩, fun z => ?_⟩, fun z => absurd z (by decide)⟩)
  · have q := fun i hi => ixO_no (n := 4) (by decide) e2 ∘ fun (z : y = nI i) => ⟨i, hi, z⟩
    rw [if_neg (show ¬ y = 0 from q 0 (by decide)), if_neg (show ¬ y = 1 from q 1 (by decide)), if_neg (show ¬ y = 2 from q 2 (by decide)), if_neg (show ¬ y = 3 from q 3 (by decide))] at h
    exact h
  · have : i = 3 := by
      have q0 : ¬ i = 0 := fun q => z0 (by rw [ey, q]; rfl)
      have q1 : ¬ i = 1 := fun q => z1 (by rw [ey, q]; rfl)
      have q2 : ¬ i = 2 := fun q => z2 (by rw [ey, q]; rfl)
      omega
    subst this
    rw [if_neg z0, if_neg z1, if_neg z2, if_pos (by rw [ey]; rfl)] at h
    rw [(m3 y0).2.1]; exact h
  · rw [if_neg z0, if_neg z1, if_pos z2] at h
    rw [(m3 y0).1]; exact h
  · obtain ⟨a, b, c⟩ := hO.2.2.2.2.2.2.2 y0
    rw [if_neg z0, if_neg z1, b, c] at h
    by_cases q2 : y = 2
    · rw [if_pos q2] at h; exact h
    · have : i = 3 := by
        have q0 : ¬ i = 0 := fun q => z0 (by rw [ey, q]; rfl)
        have q1 : ¬ i = 1 := fun q => z1 (by rw [ey, q]; rfl)
        have q2 : ¬ i = 2 := fun q => q2 (by rw [ey, q]; rfl)
        omega
      subst this
      rw [if_neg q2, if_pos (by rw [ey]; rfl)] at h
      exact h
  · rw [if_neg z0, if_pos z1, if_pos (Or.inl y0)] at h; exact h
  · rw [if_neg z0, if_pos z1, if_neg (fun q => q.elim y0 y2)] at h
    rw [m2 (by omega)]; exact h
  · rw [if_neg z0, if_pos z1, if_pos (Or.inr y2)] at h; exact h
  · rw [if_pos z] at h; rw [m1]; exact h
theorem sq8_fresh {Φ : Int32 → Int32 → (Nat → Int32) → Prop} (hM : RH9 m.1 m.2.2.2 s n k u hc wo hs) (h : ∀ wo', RH9 m.1 (s_fresh m).2.2.2 s n k u hc wo' hs → Φ 1 0 wo') : wl_X8_fresh th wo Φ := by
  have key : ∀ (f c : Nat) (w : Nat → Int32), c ≤ 16 → (∀ j, j < c → w j = 0) → ll_X8_fresh_7 Φ f 0 w (nI c) := by
    intro f
    induction f with
    | zero => intros; trivial
    | succ f ih =>
      intro c w hc h0
      show bl_X8_fresh_7 _ _ _ _ _
      unfold bl_X8_fresh_7
      have q : (16 : Int32) ≤ nI c ↔ 16 ≤ c := nI_leI (a := 16) (by decide) (by omega)
      rw [q, nI_clamp (n := c) (by omega), nI_1]
      refine ⟨fun z => h w (hM.woZ (fun j hj => h0 j (by omega))), fun z _ => ih (c + 1) _ (by omega) (fun j hj => ?_)⟩
      by_cases e : j = c
      · rw [e, pk_us]
      · rw [pk_un e]; exact h0 j (by omega)
  exact fun f => key f 0 wo (Nat.zero_le _) (fun j hj => absurd hj (Nat.not_lt_zero _))
theorem sq8_count {l : Nat} {y : Int32} {Φ : Int32 → Int32 → Prop} (hR : RP8 0 m.1 st ce ip ln be co ca ic il im ac aC lf lt cd) (h : Φ (f_count l m y) 0) : wl_X8_count (nI l) st ce ip ln y th Φ := by
  have e1 : st 0 = nI (nS m.1) := hR.1.1
  have e2 : ce 0 = nI (nC m.1) := hR.2.1.1
  have e3 : ip 0 = nI m.1.2.2.1.length := hR.2.2.1.1
  have e4 : ln 0 = nI (nL m.1) := hR.2.2.2.1
  unfold f_count at h
  unfold wl_X8_count
  rw [e1, e2, e3, e4]
  refine sq8_wi (m := 4) (by decide) (fun e2 => ⟨fun z => absurd rfl z, fun _ => ?_⟩) (fun i hi ey _ => ⟨fun _ => ⟨fun z0 => ⟨fun z1 => ⟨fun z2 => ⟨fun z3 => ?_, fun z => ?_⟩, fun z => ?_⟩, fun z => ?_⟩, fun z => ?_⟩, fun z => absurd z (by decide)⟩)
  · have q := fun i hi => ixO_no (n := 5) (by decide) e2 ∘ fun (z : y = nI i) => ⟨i, hi, z⟩
    rw [if_neg (show ¬ y = 0 from q 0 (by decide)), if_neg (show ¬ y = 1 from q 1 (by decide)), if_neg (show ¬ y = 2 from q 2 (by decide)), if_neg (show ¬ y = 3 from q 3 (by decide)), if_neg (show ¬ y = 4 from q 4 (by decide))] at h
    exact h
  · have : i = 4 := by
      have q0 : ¬ i = 0 := fun q => z0 (by rw [ey, q]; rfl)
      have q1 : ¬ i = 1 := fun q => z1 (by rw [ey, q]; rfl)
      have q2 : ¬ i = 2 := fun q => z2 (by rw [ey, q]; rfl)
      have q3 : ¬ i = 3 := fun q => z3 (by rw [ey, q]; rfl)
      omega
    subst this
    rw [if_neg z0, if_neg z1, if_neg z2, if_neg z3, if_pos (by rw [ey]; rfl)] at h
    exact h
  · rw [if_neg z0, if_neg z1, if_neg z2, if_pos z] at h; exact h
  · rw [if_neg z0, if_neg z1, if_pos z] at h; exact h
  · rw [if_neg z0, if_pos z] at h; exact h
  · rw [if_pos z] at h; exact h
end FR9
end
section
def rn2 (m : MS) (i : Nat) : PM := rnG m.1 (brG m.1 m.2.1 m.2.2.1) 2 (bgG m.1 i (fun _ => 0))
/-- of the inputs that fall the one with the fewest steps, then the first -/
def fsG (rn : Nat → PM) : Nat → Option Nat
  | 0 => none
  | k + 1 => match fsG rn k with
    | none => if (rn k).1 = 3 then some k else none
    | some b => if (rn k).1 = 3 ∧ (rn k).2.2.1 < (rn b).2.2.1 then some k else some b
def f_first (m : MS) (y : Int32) : Int32 := if 0 < nL m.1 then (match fsG (rn0 m) (inN m.1) with
  | none => -1
  | some b => if y = 0 then nI b else if y = 1 then nI (rn0 m b).2.2.1 else if y = 2 then nI (rn0 m b).2.1 else -1) else -1
/-- the first from i on, of f -/
def fdG (P : Nat → Bool) : Nat → Nat → Option Nat
  | 0, _ => none
  | f + 1, i => if P i = true then some i else fdG P f (i + 1)
def f_apart (m : MS) : Int32 := if 0 < nL m.1 then (match fdG (fun i => decide (¬ (rn0 m i).2.2.2.2.2 = (rn2 m i).2.2.2.2.2)) (inN m.1) 0 with
  | none => -1
  | some i => nI i) else -1
/-- how many rounds more: at most f -/
def rdG (g : PGr) (be : Nat → Int32) (i : Nat) : Nat → Nat → (Nat → Int32) → Nat
  | 0, n, _ => n
  | f + 1, n, wo => if (itG g be 0 1000 (bgG g i wo)).1 = 2 then rdG g be i f (n + 1) (itG g be 0 1000 (bgG g i wo)).2.2.2.1 else n
def f_rounds (m : MS) (x : Int32) : Int32 := match inQ m.1 x with
  | some i => nI (rdG m.1 (brG m.1 m.2.1 m.2.2.1) i 100 0 (fun _ => 0))
  | none => -1
theorem rn_pmo {g : PGr} {be : Nat → Int32} {wy i : Nat} (hn : 0 < nL g) : PMo g wy (rnG g be wy (bgG g i (fun _ => 0))) := PMo.pflZ (PMo.itZ 1000 _ (PMo.bg hn (fun _ _ _ => rfl)))
theorem rn_k {g : PGr} {be : Nat → Int32} {wy i : Nat} {wo : Nat → Int32} : (rnG g be wy (bgG g i wo)).2.2.1 ≤ 1000 := by
  have h := it_k (g := g) (be := be) (wy := wy) 1000 (bgG g i wo)
  have e : (rnG g be wy (bgG g i wo)).2.2.1 = (itG g be wy 1000 (bgG g i wo)).2.2.1 := by rw [rnG_2]
  have e0 : (bgG g i wo).2.2.1 = 0 := rfl
  omega
theorem rn0_k (m : MS) (i : Nat) : (rn0 m i).2.2.1 ≤ 1000 := by
  unfold rn0
  exact rn_k
theorem rn2_k (m : MS) (i : Nat) : (rn2 m i).2.2.1 ≤ 1000 := by
  unfold rn2
  exact rn_k
theorem fsG_lt {rn : Nat → PM} : ∀ {k b : Nat}, fsG rn k = some b → b < k := by
  intro k
  induction k with
  | zero => intro b h; cases h
  | succ k ih =>
    intro b h
    have h : (match fsG rn k with
      | none => if (rn k).1 = 3 then some k else none
      | some b => if (rn k).1 = 3 ∧ (rn k).2.2.1 < (rn b).2.2.1 then some k else some b) = some b := h
    cases e : fsG rn k with
    | none =>
      rw [e] at h
      have h : (if (rn k).1 = 3 then some k else none) = some b := h
      split at h
      · have := Option.some.inj h; omega
      · cases h
    | some c =>
      rw [e] at h
      have h : (if (rn k).1 = 3 ∧ (rn k).2.2.1 < (rn c).2.2.1 then some k else some c) = some b := h
      have := ih e
      split at h
      · have := Option.some.inj h; omega
      · have := Option.some.inj h; omega
def AWq (r : Int32) (Φ : PW1) : Prop := ∀ (wp : Nat) (ww ws wn wa wb : Int32) (wst wtw wwo wce wke wsk : Nat → Int32), Φ r wp ww ws wn wa wb wst wtw wwo wce wke wsk
def AWq2 (r : Int32) (Φ : PW2) : Prop := ∀ (wp : Nat) (ww ws wn wa wb : Int32) (wst wtw wwo wce wke wsk : Nat → Int32) (gp : Nat) (gw gs gn ga gb : Int32) (gst gtw gwo gce gke gsk : Nat → Int32), Φ r wp ww ws wn wa wb wst wtw wwo wce wke wsk gp gw gs gn ga gb gst gtw gwo gce gke gsk
section WC
variable {m : MS} {cl pg wp : Nat} {pst pce pgi pln : Int32} {be co to gc le gr ac sq tg fr mi en cd : Nat → Int32} {st tw : Nat → Int32} {ww ws wn wa wb : Int32} {wst wtw wwo wce wke wsk : Nat → Int32}
theorem sq7_steps {x : Int32} {Φ : PW1} (hQ : PQ9 m.1 pst pce pgi pln be co to gc le gr ac sq tg fr mi en cl cd) (hO : MO9 m) (hc : CLs m.1 m.2.1 m.2.2.1 st tw) (h : AWq (f_steps m x) Φ) : wl_X7_steps st tw pce pgi pln be to gc le gr ac tg fr mi en cd cl pg x wp ww ws wn wa wb wst wtw wwo wce wke wsk Φ := by
  unfold wl_X7_steps
  unfold f_steps at h
  refine sq7_cw hQ hO (fun e => ⟨fun z => absurd rfl z, fun _ => by rw [e] at h; exact h _ _ _ _ _ _ _ _ _ _ _ _⟩) (fun i h0 hi ex e => ⟨fun _ => ?_, fun z => absurd z (by decide)⟩)
  rw [e] at h
  have h : AWq (if (rn0 m i).1 = 1 then -1 else nI (rn0 m i).2.2.1) Φ := h
  rw [ex]
  have hp : PMo m.1 0 (rn0 m i) := rn_pmo h0
  refine sq7_walk (wy := 0) (kn := 1000) hQ hO.1 hO.2.1 hc (by decide) h0 hi (by decide) (fun s' n' k' u' st' tw' wo' ce' ke' sk' hM => ?_)
  have hM : CM9 m.1 1000 (rn0 m i) s' n' k' u' wo' ce' ke' := hM
  have q1 : s' = 1 ↔ (rn0 m i).1 = 1 := by rw [hM.1]; exact nI_eq (b := 1) (by have := hp.1; omega) (by decide)
  unfold wl_X1_isEndless
  rw [q1]
  refine ⟨fun z => ⟨fun _ => ?_, fun y => absurd rfl y⟩, fun z => ⟨fun y => absurd y (by decide), fun _ => ?_⟩⟩
  · rw [if_neg z] at h
    rw [hM.2.2.1]
    exact h _ _ _ _ _ _ _ _ _ _ _ _
  · rw [if_pos z] at h
    exact h _ _ _ _ _ _ _ _ _ _ _ _
theorem sq7_falls {x : Int32} {Φ : PW1} (hQ : PQ9 m.1 pst pce pgi pln be co to gc le gr ac sq tg fr mi en cl cd) (hO : MO9 m) (hc : CLs m.1 m.2.1 m.2.2.1 st tw) (h : AWq (f_falls m x) Φ) : wl_X7_falls st tw pce pgi pln be to gc le gr ac tg fr mi en cd cl pg x wp ww ws wn wa wb wst wtw wwo wce wke wsk Φ := by
  unfold wl_X7_falls
  unfold f_falls at h
  refine sq7_cw hQ hO (fun e => ⟨fun z => absurd rfl z, fun _ => by rw [e] at h; exact h _ _ _ _ _ _ _ _ _ _ _ _⟩) (fun i h0 hi ex e => ⟨fun _ => ?_, fun z => absurd z (by decide)⟩)
  rw [e] at h
  have h : AWq (if (rn0 m i).1 = 3 then nI (rn0 m i).2.1 else -1) Φ := h
  rw [ex]
  have hp : PMo m.1 0 (rn0 m i) := rn_pmo h0
  refine sq7_walk (wy := 0) (kn := 1000) hQ hO.1 hO.2.1 hc (by decide) h0 hi (by decide) (fun s' n' k' u' st' tw' wo' ce' ke' sk' hM => ?_)
  have hM : CM9 m.1 1000 (rn0 m i) s' n' k' u' wo' ce' ke' := hM
  have q3 : s' = 3 ↔ (rn0 m i).1 = 3 := by rw [hM.1]; exact nI_eq (b := 3) (by have := hp.1; omega) (by decide)
  rw [q3]
  refine ⟨fun z => ?_, fun z => ?_⟩
  · rw [if_neg z] at h
    exact h _ _ _ _ _ _ _ _ _ _ _ _
  · rw [if_pos z] at h
    rw [hM.2.1]
    exact h _ _ _ _ _ _ _ _ _ _ _ _
/-- the numbers of the best so far -/
def fbI (rn : Nat → PM) : Option Nat → Int32 × Int32
  | none => (-1, 0)
  | some b => (nI b, nI (rn b).2.2.1)
theorem sq7_ftf {Φ : PW1} (hQ : PQ9 m.1 pst pce pgi pln be co to gc le gr ac sq tg fr mi en cl cd) (hO : MO9 m) (hc : CLs m.1 m.2.1 m.2.2.1 st tw) (h : AWq (if 0 < nL m.1 then (fbI (rn0 m) (fsG (rn0 m) (inN m.1))).1 else -1) Φ) : wl_X7_firstToFall st tw pce pgi pln be to gc le gr ac tg fr mi en cd cl pg wp ww ws wn wa wb wst wtw wwo wce wke wsk Φ := by
  have hQ' := hQ
  obtain ⟨q1, q2, q3, q4, q5, q6, q7, q8, q9, ⟨i1, i2, i3, i4⟩, q11, q12, q13, q14⟩ := hQ
  have h16 : nL m.1 ≤ 16 := q3
  have eln : pln = nI (nL m.1) := q7
  have h64 := inN_64 hO.1
  unfold wl_X7_firstToFall
  have q0 : pln = 0 ↔ nL m.1 = 0 := by rw [eln]; exact nI_eq (b := 0) (by omega) (by decide)
  rw [q0]
  refine ⟨fun z => ?_, fun z => ?_⟩
  rotate_left
  · rw [if_neg (by omega)] at h
    exact h _ _ _ _ _ _ _ _ _ _ _ _
  have h0 : 0 < nL m.1 := by omega
  rw [if_pos h0] at h
  have key : ∀ (f i : Nat) (wp : Nat) (ww ws wn wa wb : Int32) (wst wtw wwo wce wke wsk : Nat → Int32), i ≤ inN m.1 → ll_X7_firstToFall_33 st tw pce pgi pln be to gc le gr ac tg fr mi en cd cl pg Φ f wp ww ws wn wa wb wst wtw wwo wce wke wsk (fbI (rn0 m) (fsG (rn0 m) i)).1 (fbI (rn0 m) (fsG (rn0 m) i)).2 (nI (inN m.1)) (nI i) := by
    intro f
    induction f with
    | zero => intros; trivial
    | succ f ih =>
      intro i wp ww ws wn wa wb wst wtw wwo wce wke wsk hi
      show bl_X7_firstToFall_33 _ _ _ _ _ _ _ _ _ _ _ _ _ _ _ _ _ _ _ _ _ _ _ _ _ _ _ _ _ _ _ _ _ _ _ _
      unfold bl_X7_firstToFall_33
      rw [nI_leI (by omega) (by omega), nI_1]
      refine ⟨fun y => ?_, fun y => ?_⟩
      · have : i = inN m.1 := by omega
        subst this
        exact h _ _ _ _ _ _ _ _ _ _ _ _
      · have hp : PMo m.1 0 (rn0 m i) := rn_pmo h0
        have hk : (rn0 m i).2.2.1 ≤ 1000 := rn0_k m i
        refine sq7_walk (wy := 0) (kn := 1000) hQ' hO.1 hO.2.1 hc (by decide) h0 (by omega) (by decide) (fun s' n' k' u' st' tw' wo' ce' ke' sk' hM => ?_)
        have hM : CM9 m.1 1000 (rn0 m i) s' n' k' u' wo' ce' ke' := hM
        have q3 : s' = 3 ↔ (rn0 m i).1 = 3 := by rw [hM.1]; exact nI_eq (b := 3) (by have := hp.1; omega) (by decide)
        have nx := fun wp ww ws wn wa wb wst wtw wwo wce wke wsk => ih (i + 1) wp ww ws wn wa wb wst wtw wwo wce wke wsk (by omega)
        have ef : fsG (rn0 m) (i + 1) = (match fsG (rn0 m) i with
          | none => if (rn0 m i).1 = 3 then some i else none
          | some b => if (rn0 m i).1 = 3 ∧ (rn0 m i).2.2.1 < (rn0 m b).2.2.1 then some i else some b) := rfl
        rw [q3, hM.2.2.1]
        cases e : fsG (rn0 m) i with
        | none =>
          rw [e] at ef
          have ef : fsG (rn0 m) (i + 1) = if (rn0 m i).1 = 3 then some i else none := ef
          refine ⟨fun w => ?_, fun w => ⟨fun _ => ?_, fun v => absurd rfl v⟩⟩
          · rw [if_neg w] at ef
            rw [ef] at nx
            exact nx _ _ _ _ _ _ _ _ _ _ _ _
          · rw [if_pos w] at ef
            rw [ef] at nx
            exact nx _ _ _ _ _ _ _ _ _ _ _ _
        | some b =>
          have hb := fsG_lt e
          have hkb : (rn0 m b).2.2.1 ≤ 1000 := rn0_k m b
          rw [e] at ef
          have ef : fsG (rn0 m) (i + 1) = if (rn0 m i).1 = 3 ∧ (rn0 m i).2.2.1 < (rn0 m b).2.2.1 then some i else some b := ef
          have nb : ¬ nI b = -1 := fun z => by
            have h1 : (nI b).toInt = (b : Int) := nI_toInt (by omega)
            rw [z] at h1
            have : ((-1 : Int32)).toInt = -1 := rfl
            omega
          refine ⟨fun w => ?_, fun w => ⟨fun v => absurd v nb, fun _ => ?_⟩⟩
          · rw [if_neg (fun q => w q.1)] at ef
            rw [ef] at nx
            exact nx _ _ _ _ _ _ _ _ _ _ _ _
          · show (nI (rn0 m b).2.2.1 ≤ nI (rn0 m i).2.2.1 → _) ∧ (¬ nI (rn0 m b).2.2.1 ≤ nI (rn0 m i).2.2.1 → _)
            rw [nI_leI (by omega) (by omega)]
            refine ⟨fun v => ?_, fun v => ?_⟩
            · rw [if_neg (fun q => by omega)] at ef
              rw [ef] at nx
              exact nx _ _ _ _ _ _ _ _ _ _ _ _
            · rw [if_pos ⟨w, by omega⟩] at ef
              rw [ef] at nx
              exact nx _ _ _ _ _ _ _ _ _ _ _ _
  rw [q6]
  refine sq2_icount i1 ?_
  rw [← q6]
  exact fun f => key f 0 _ _ _ _ _ _ _ _ _ _ _ _ (Nat.zero_le _)
theorem sq7_first {x : Int32} {Φ : PW1} (hQ : PQ9 m.1 pst pce pgi pln be co to gc le gr ac sq tg fr mi en cl cd) (hO : MO9 m) (hc : CLs m.1 m.2.1 m.2.2.1 st tw) (h : AWq (f_first m x) Φ) : wl_X7_first st tw pce pgi pln be to gc le gr ac tg fr mi en cd cl pg x wp ww ws wn wa wb wst wtw wwo wce wke wsk Φ := by
  have h64 := inN_64 hO.1
  unfold wl_X7_first
  unfold f_first at h
  refine sq7_ftf hQ hO hc (fun wp ww ws wn wa wb wst wtw wwo wce wke wsk => ?_)
  by_cases h0 : 0 < nL m.1
  · rw [if_pos h0] at h ⊢
    cases e : fsG (rn0 m) (inN m.1) with
    | none =>
      rw [e] at h
      exact ⟨fun z => absurd rfl z, fun _ => h _ _ _ _ _ _ _ _ _ _ _ _⟩
    | some b =>
      rw [e] at h
      have h : AWq (if x = 0 then nI b else if x = 1 then nI (rn0 m b).2.2.1 else if x = 2 then nI (rn0 m b).2.1 else -1) Φ := h
      have hb := fsG_lt e
      have nb : ¬ nI b = -1 := fun z => by
        have h1 : (nI b).toInt = (b : Int) := nI_toInt (by omega)
        rw [z] at h1
        have : ((-1 : Int32)).toInt = -1 := rfl
        omega
      refine ⟨fun _ => ?_, fun z => absurd z nb⟩
      refine sq7_walk (wy := 0) (kn := 1000) hQ hO.1 hO.2.1 hc (by decide) h0 hb (by decide) (fun s' n' k' u' st' tw' wo' ce' ke' sk' hM => ?_)
      have hM : CM9 m.1 1000 (rn0 m b) s' n' k' u' wo' ce' ke' := hM
      refine ⟨fun z => ?_, fun z => ?_, fun z => ?_, fun z => ?_⟩
      · rw [if_pos z] at h; exact h _ _ _ _ _ _ _ _ _ _ _ _
      · rw [z, if_neg (by decide), if_pos rfl] at h; rw [hM.2.2.1]; exact h _ _ _ _ _ _ _ _ _ _ _ _
      · rw [z, if_neg (by decide), if_neg (by decide), if_pos rfl] at h; rw [hM.2.1]; exact h _ _ _ _ _ _ _ _ _ _ _ _
      · have q := fun i hi => wh_ne (n := 2) z (j := i) hi (by decide)
        rw [if_neg (show ¬ x = 0 from q 0 (by decide)), if_neg (show ¬ x = 1 from q 1 (by decide)), if_neg (show ¬ x = 2 from q 2 (by decide))] at h
        exact h _ _ _ _ _ _ _ _ _ _ _ _
  · rw [if_neg h0] at h ⊢
    exact ⟨fun z => absurd rfl z, fun _ => h _ _ _ _ _ _ _ _ _ _ _ _⟩
theorem ke_full {kn : Nat} {w w' : List Int32} {ke ke' : Nat → Int32} (h : KE9 kn w ke) (h' : KE9 kn w' ke') (hl : w.length = w'.length) (hk : w.length ≤ kn) (ha : ∀ i, i < w.length → ke i = ke' i) : w = w' := by
  apply List.ext_getElem hl
  intro i h1 h2
  have a := h i _ (List.getElem?_eq_getElem h1) (by omega)
  have b := h' i _ (List.getElem?_eq_getElem h2) (by omega)
  rw [← a, ← b]
  exact ha i h1
theorem sq1_wroteLike {w w' : List Int32} {ke ke' : Nat → Int32} {Φ : Int32 → Prop} (hk : KE9 1000 w ke) (hk' : KE9 1000 w' ke') (hl : w.length ≤ 1000) (hl' : w'.length ≤ 1000) (h1 : w = w' → Φ 1) (h0 : ¬ w = w' → Φ 0) : wl_X1_wroteLike (nI w.length) ke (nI w'.length) ke' 1000 1000 Φ := by
  unfold wl_X1_wroteLike
  rw [nI_eq (by omega) (by omega)]
  refine ⟨fun z => ?_, fun z => h0 (fun e => z (by rw [e]))⟩
  have key : ∀ (f i : Nat), i ≤ w.length → (∀ j, j < i → ke j = ke' j) → ll_X1_wroteLike_15 (nI w.length) ke (nI w'.length) ke' 1000 1000 Φ f (nI i) := by
    intro f
    induction f with
    | zero => intros; trivial
    | succ f ih =>
      intro i hi ha
      show bl_X1_wroteLike_15 _ _ _ _ _ _ _ _ _
      unfold bl_X1_wroteLike_15
      rw [nI_leI (by omega) (by omega), nI_leI (by omega) (by omega), nI_clamp (n := i) (by omega), nI_1]
      have full : w.length ≤ i → Φ 1 := fun q => h1 (ke_full hk hk' z hl (fun j hj => ha j (by omega)))
      refine ⟨full, fun q => ⟨fun q2 => full (by omega), fun _ => ⟨fun q2 => full (by omega), fun _ _ _ => ⟨fun e => ih (i + 1) (by omega) (fun j hj => ?_), fun e => h0 (fun ew => ?_)⟩⟩⟩⟩
      · by_cases ej : j = i
        · rw [ej]; exact e
        · exact ha j (by omega)
      · subst ew
        have hlt : i < w.length := by omega
        exact e ((hk i _ (List.getElem?_eq_getElem hlt) (by omega)).trans (hk' i _ (List.getElem?_eq_getElem hlt) (by omega)).symm)
  exact fun f => key f 0 (Nat.zero_le _) (fun j hj => absurd hj (Nat.not_lt_zero _))
theorem fdG_at {P : Nat → Bool} {f i : Nat} (h : P i = true) : fdG P (f + 1) i = some i := if_pos h
theorem fdG_no {P : Nat → Bool} {f i : Nat} (h : ¬ P i = true) : fdG P (f + 1) i = fdG P f (i + 1) := if_neg h
theorem sq7_apart {gp : Nat} {gw gs gn ga gb : Int32} {gst gtw gwo gce gke gsk : Nat → Int32} {Φ : PW2} (hQ : PQ9 m.1 pst pce pgi pln be co to gc le gr ac sq tg fr mi en cl cd) (hO : MO9 m) (hc : CLs m.1 m.2.1 m.2.2.1 st tw) (h : AWq2 (f_apart m) Φ) : wl_X7_apart st tw pce pgi pln be to gc le gr ac tg fr mi en cd cl pg wp ww ws wn wa wb wst wtw wwo wce wke wsk gp gw gs gn ga gb gst gtw gwo gce gke gsk Φ := by
  have hQ' := hQ
  obtain ⟨q1, q2, q3, q4, q5, q6, q7, q8, q9, ⟨i1, i2, i3, i4⟩, q11, q12, q13, q14⟩ := hQ
  have h16 : nL m.1 ≤ 16 := q3
  have eln : pln = nI (nL m.1) := q7
  have h64 := inN_64 hO.1
  unfold wl_X7_apart
  unfold f_apart at h
  have q0 : pln = 0 ↔ nL m.1 = 0 := by rw [eln]; exact nI_eq (b := 0) (by omega) (by decide)
  rw [q0]
  refine ⟨fun z => ?_, fun z => ?_⟩
  rotate_left
  · rw [if_neg (by omega)] at h
    exact h _ _ _ _ _ _ _ _ _ _ _ _ _ _ _ _ _ _ _ _ _ _ _ _
  have h0 : 0 < nL m.1 := by omega
  rw [if_pos h0] at h
  have key : ∀ (f i : Nat) (wp : Nat) (ww ws wn wa wb : Int32) (wst wtw wwo wce wke wsk : Nat → Int32) (gp : Nat) (gw gs gn ga gb : Int32) (gst gtw gwo gce gke gsk : Nat → Int32), i ≤ inN m.1 → fdG (fun i => decide (¬ (rn0 m i).2.2.2.2.2 = (rn2 m i).2.2.2.2.2)) (inN m.1) 0 = fdG (fun i => decide (¬ (rn0 m i).2.2.2.2.2 = (rn2 m i).2.2.2.2.2)) (inN m.1 - i) i → ll_X7_apart_28 st tw pce pgi pln be to gc le gr ac tg fr mi en cd cl pg Φ f wp ww ws wn wa wb wst wtw wwo wce wke wsk gp gw gs gn ga gb gst gtw gwo gce gke gsk (nI (inN m.1)) (nI i) := by
    intro f
    induction f with
    | zero => intros; trivial
    | succ f ih =>
      intro i wp ww ws wn wa wb wst wtw wwo wce wke wsk gp gw gs gn ga gb gst gtw gwo gce gke gsk hi ef
      show bl_X7_apart_28 _ _ _ _ _ _ _ _ _ _ _ _ _ _ _ _ _ _ _ _ _ _ _ _ _ _ _ _ _ _ _ _ _ _ _ _ _ _ _ _ _ _ _ _ _ _
      unfold bl_X7_apart_28
      rw [nI_leI (by omega) (by omega), nI_1]
      refine ⟨fun y => ?_, fun y => ?_⟩
      · have e0 : inN m.1 - i = 0 := by omega
        rw [ef, e0] at h
        exact h _ _ _ _ _ _ _ _ _ _ _ _ _ _ _ _ _ _ _ _ _ _ _ _
      · have hp : PMo m.1 0 (rn0 m i) := rn_pmo h0
        have hk : (rn0 m i).2.2.1 ≤ 1000 := rn0_k m i
        have hp2 : PMo m.1 2 (rn2 m i) := rn_pmo h0
        have hk2 : (rn2 m i).2.2.1 ≤ 1000 := rn2_k m i
        refine sq7_walk (wy := 0) (kn := 1000) hQ' hO.1 hO.2.1 hc (by decide) h0 (by omega) (by decide) (fun s' n' k' u' st' tw' wo' ce' ke' sk' hM => ?_)
        refine sq7_walk (wy := 2) (kn := 1000) hQ' hO.1 hO.2.1 hc (by decide) h0 (by omega) (by decide) (fun s2 n2 k2 u2 st2 tw2 wo2 ce2 ke2 sk2 hM2 => ?_)
        have hM : CM9 m.1 1000 (rn0 m i) s' n' k' u' wo' ce' ke' := hM
        have hM2 : CM9 m.1 1000 (rn2 m i) s2 n2 k2 u2 wo2 ce2 ke2 := hM2
        have es : inN m.1 - i = inN m.1 - (i + 1) + 1 := by omega
        rw [es] at ef
        rw [hM.2.2.2.1, hM2.2.2.2.1]
        refine sq1_wroteLike hM.2.2.2.2.2.2 hM2.2.2.2.2.2.2 (by have := hp.2.2.2.1; omega) (by have := hp2.2.2.2.1; omega) (fun e => ⟨fun _ => ?_, fun w => absurd w (by decide)⟩) (fun e => ⟨fun w => absurd rfl w, fun _ => ?_⟩)
        · rw [fdG_no (by rw [decide_eq_true_eq]; exact fun q => q e)] at ef
          exact ih (i + 1) _ _ _ _ _ _ _ _ _ _ _ _ _ _ _ _ _ _ _ _ _ _ _ _ (by omega) ef
        · rw [fdG_at (by rw [decide_eq_true_eq]; exact e)] at ef
          rw [ef] at h
          exact h _ _ _ _ _ _ _ _ _ _ _ _ _ _ _ _ _ _ _ _ _ _ _ _
  rw [q6]
  refine sq2_icount i1 ?_
  rw [← q6]
  exact fun f => key f 0 _ _ _ _ _ _ _ _ _ _ _ _ _ _ _ _ _ _ _ _ _ _ _ _ (Nat.zero_le _) rfl
theorem sq7_rounds {x : Int32} {Φ : PW1} (hQ : PQ9 m.1 pst pce pgi pln be co to gc le gr ac sq tg fr mi en cl cd) (hO : MO9 m) (hc : CLs m.1 m.2.1 m.2.2.1 st tw) (h : AWq (f_rounds m x) Φ) : wl_X7_rounds st tw pce pgi pln be to gc le gr ac tg fr mi en cd cl pg x wp ww ws wn wa wb wst wtw wwo wce wke wsk Φ := by
  have h16 : nL m.1 ≤ 16 := hQ.2.2.1
  unfold wl_X7_rounds
  unfold f_rounds at h
  refine sq7_cw hQ hO (fun e => ⟨fun z => absurd rfl z, fun _ => by rw [e] at h; exact h _ _ _ _ _ _ _ _ _ _ _ _⟩) (fun i h0 hi ex e => ⟨fun _ => ?_, fun z => absurd z (by decide)⟩)
  rw [e] at h
  have h : AWq (nI (rdG m.1 (brG m.1 m.2.1 m.2.2.1) i 100 0 (fun _ => 0))) Φ := h
  have key : ∀ (f n : Nat) (ww ws wn wa wb : Int32) (wst wtw wwo wce wke wsk O : Nat → Int32), n ≤ 100 → CLs m.1 m.2.1 m.2.2.1 wst wtw → AGn 16 O wwo → rdG m.1 (brG m.1 m.2.1 m.2.2.1) i 100 0 (fun _ => 0) = rdG m.1 (brG m.1 m.2.1 m.2.2.1) i (100 - n) n O → ll_X7_rounds_31 st tw pce pgi pln be to gc le gr ac tg fr mi en cd cl pg x Φ f pg 0 ws wn wa wb wst wtw wwo wce wke wsk (nI n) := by
    intro f
    induction f with
    | zero => intros; trivial
    | succ f ih =>
      intro n ww ws wn wa wb wst wtw wwo wce wke wsk O hn hcl hO2 er
      show bl_X7_rounds_31 _ _ _ _ _ _ _ _ _ _ _ _ _ _ _ _ _ _ _ _ _ _ _ _ _ _ _ _ _ _ _ _ _ _
      unfold bl_X7_rounds_31
      have q100 : (100 : Int32) ≤ nI n ↔ 100 ≤ n := nI_leI (a := 100) (by decide) (by omega)
      rw [q100, nI_1, ex]
      refine ⟨fun y => ?_, fun y _ => sq1_start hQ hO.1 hi (fun ce' hce => ?_)⟩
      · have e0 : 100 - n = 0 := by omega
        have en : n = 100 := by omega
        rw [er, e0, en] at h
        exact h _ _ _ _ _ _ _ _ _ _ _ _
      · have hP : PMo m.1 0 (bgG m.1 i O) := PMo.bg h0 (fun q => absurd q (by decide))
        have hP' := PMo.itZ (be := brG m.1 m.2.1 m.2.2.1) 1000 _ hP
        have es : 100 - n = 100 - (n + 1) + 1 := by omega
        rw [es] at er
        have ed : rdG m.1 (brG m.1 m.2.1 m.2.2.1) i (100 - (n + 1) + 1) n O = if (itG m.1 (brG m.1 m.2.1 m.2.2.1) 0 1000 (bgG m.1 i O)).1 = 2 then rdG m.1 (brG m.1 m.2.1 m.2.2.1) i (100 - (n + 1)) (n + 1) (itG m.1 (brG m.1 m.2.1 m.2.2.1) 0 1000 (bgG m.1 i O)).2.2.2.1 else n := rfl
        rw [ed] at er
        refine sq1_go (M := 1000) (wy := 0) (kn := 1000) (x := bgG m.1 i O) hQ hO.1 hO.2.1 hcl hP (by decide) ⟨rfl, rfl, rfl, rfl, hO2, hce, KE9.nil⟩ (show 0 + 1000 < 2 ^ 30 by decide) (by decide) (fun s' n' k' u' wo2 ce2 ke2 sk2 hM => ?_)
        have q2 : s' = 2 ↔ (itG m.1 (brG m.1 m.2.1 m.2.2.1) 0 1000 (bgG m.1 i O)).1 = 2 := by rw [hM.1]; exact nI_eq (b := 2) (by have := hP'.1; omega) (by decide)
        rw [q2]
        refine ⟨fun z => ?_, fun z => ?_⟩
        · rw [if_pos z] at er
          rw [← ex]
          exact ih (n + 1) 0 _ _ _ _ _ _ _ _ _ _ _ (by omega) hcl hM.2.2.2.2.1 er
        · rw [if_neg z] at er
          rw [er] at h
          exact h _ _ _ _ _ _ _ _ _ _ _ _
  unfold wl_X1_layLike
  exact sq_fill (rl := 16) (by decide) (fun wo' hz _ f => key f 0 0 _ _ _ _ _ _ _ _ _ _ (fun _ => 0) (Nat.zero_le _) (hc.cpy h16) (fun j hj => hz j hj) rfl)
end WC
end
section
/-- the first input of which two do not write the same, or one ends and the other does not -/
def sameM (m m' : MS) : Int32 := if 0 < nL m.1 ∧ 0 < nL m'.1 ∧ inN m.1 = inN m'.1 then (match fdG (fun i => decide (¬ ((rn2 m i).2.2.2.2.2 = (rn2 m' i).2.2.2.2.2 ∧ (rn2 m i).1 = (rn2 m' i).1))) (inN m.1) 0 with
  | none => -1
  | some i => nI i) else -2
theorem rnG_e2 {g : PGr} {be : Nat → Int32} {wy : Nat} {x : PM} : (rnG g be wy x).1 = 2 ↔ (itG g be wy 1000 x).1 = 2 := by
  unfold rnG
  generalize itG g be wy 1000 x = y
  unfold pfl
  split
  · rename_i z
    exact ⟨fun q => absurd q (by show ¬ (3 : Nat) = 2; decide), fun q => absurd (z.1.symm.trans q) (by decide)⟩
  · exact Iff.rfl
theorem it_12 {g : PGr} {be : Nat → Int32} {wy : Nat} (hw : ¬ wy = 0) : ∀ (n : Nat) (y : PM), y.1 = 1 ∨ y.1 = 2 → (itG g be wy n y).1 = 1 ∨ (itG g be wy n y).1 = 2 := by
  intro n
  induction n with
  | zero => intro y hy; exact hy
  | succ n ih =>
    intro y hy
    refine ih _ ?_
    by_cases z : y.1 = 1
    · rw [stp_wrk z (fun q => hw q.1)]
      show (if _ then 2 else 1) = 1 ∨ (if _ then 2 else 1) = 2
      split
      · exact Or.inr rfl
      · exact Or.inl rfl
    · rw [stp_off z]; exact hy
theorem rn_12 {g : PGr} {be : Nat → Int32} {wy i : Nat} {wo : Nat → Int32} (hw : ¬ wy = 0) : (rnG g be wy (bgG g i wo)).1 = 1 ∨ (rnG g be wy (bgG g i wo)).1 = 2 := by
  have h := it_12 (g := g) (be := be) hw 1000 (bgG g i wo) (Or.inl rfl)
  unfold rnG
  generalize itG g be wy 1000 (bgG g i wo) = y at h
  unfold pfl
  rw [if_neg (fun q => hw q.2.1)]
  exact h
theorem it_123 {g : PGr} {be : Nat → Int32} {wy : Nat} : ∀ (n : Nat) (y : PM), y.1 = 1 ∨ y.1 = 2 ∨ y.1 = 3 → (itG g be wy n y).1 = 1 ∨ (itG g be wy n y).1 = 2 ∨ (itG g be wy n y).1 = 3 := by
  intro n
  induction n with
  | zero => intro y hy; exact hy
  | succ n ih =>
    intro y hy
    refine ih _ ?_
    by_cases z : y.1 = 1
    · by_cases w : hol be wy y
      · rw [stp_hol z w]; exact Or.inr (Or.inr rfl)
      · rw [stp_wrk z w]
        show (if _ then 2 else 1) = 1 ∨ (if _ then 2 else 1) = 2 ∨ _
        split
        · exact Or.inr (Or.inl rfl)
        · exact Or.inl rfl
    · rw [stp_off z]; exact hy
theorem rn_123 {g : PGr} {be : Nat → Int32} {wy i : Nat} {wo : Nat → Int32} : (rnG g be wy (bgG g i wo)).1 = 1 ∨ (rnG g be wy (bgG g i wo)).1 = 2 ∨ (rnG g be wy (bgG g i wo)).1 = 3 := by
  have h := it_123 (g := g) (be := be) (wy := wy) 1000 (bgG g i wo) (Or.inl rfl)
  unfold rnG
  generalize itG g be wy 1000 (bgG g i wo) = y at h
  unfold pfl
  split
  · exact Or.inr (Or.inr rfl)
  · exact h
theorem rn0_eq (m : MS) (i : Nat) : rnG m.1 (brG m.1 m.2.1 m.2.2.1) 0 (bgG m.1 i (fun _ => 0)) = rn0 m i := rfl
theorem rn0_123 (m : MS) (i : Nat) : (rn0 m i).1 = 1 ∨ (rn0 m i).1 = 2 ∨ (rn0 m i).1 = 3 := by
  unfold rn0
  exact rn_123
theorem rn2_12 (m : MS) (i : Nat) : (rn2 m i).1 = 1 ∨ (rn2 m i).1 = 2 := by
  unfold rn2
  exact rn_12 (by decide)
section WR9
variable {m m' : MS} {st ce ip ln be co ca ic il im ac aC ls tw lf lt cd : Nat → Int32} {a0 w0 n0 e0 f0 u0 d0 th : Int32} {k1 k2 k3 k4 k5 k6 k7 k8 k9 vo he we sr go pk ot : Nat → Int32}
/-- the programme and its laying lie at p -/
def RPY (p : Nat) (m : MS) (st ce ip ln be co ca ic il im ac aC ls tw lf lt cd : Nat → Int32) : Prop := RP8 p m.1 st ce ip ln be co ca ic il im ac aC lf lt cd ∧ YB p (nL m.1) m.2.1 m.2.2.1 ls tw
def BWq (r : Int32) (Φ : PTa) : Prop := ∀ a w n e f u d k1 k2 k3 k4 k5 k6 k7 k8 k9 vo he we sr go pk, Φ r 0 a w n e f u d k1 k2 k3 k4 k5 k6 k7 k8 k9 vo he we sr go pk
def BWm (r : Int32) (Φ : PAm) : Prop := ∀ a w n e f u d k1 k2 k3 k4 k5 k6 k7 k8 k9 vo he we sr go pk ot, Φ r 0 a w n e f u d k1 k2 k3 k4 k5 k6 k7 k8 k9 vo he we sr go pk ot
def BWl (r : Int32) (Φ : PAl) : Prop := ∀ a w n e f u d k1 k2 k3 k4 k5 k6 k7 k8 k9 vo he we sr go pk ot, Φ r a w n e f u d k1 k2 k3 k4 k5 k6 k7 k8 k9 vo he we sr go pk ot
theorem sq8_isInput {x : Int32} {Φ : Int32 → Prop} (hR : RPY 0 m st ce ip ln be co ca ic il im ac aC ls tw lf lt cd) (hO : MO9 m) (h0 : inQ m.1 x = none → Φ 0) (h1 : ∀ i, 0 < nL m.1 → i < inN m.1 → x = nI i → inQ m.1 x = some i → Φ 1) : wl_X8_isInput ip ln il im x Φ := by
  have h16 : nL m.1 ≤ 16 := hO.1.2.2.2.2.2.2.2.2.1
  have h64 := inN_64 hO.1
  have hln : ln 0 = nI (nL m.1) := hR.1.2.2.2.1
  have q0 : ln 0 ≤ 0 ↔ nL m.1 ≤ 0 := by rw [hln]; exact nI_leI (b := 0) (by omega) (by decide)
  unfold wl_X8_isInput
  rw [q0]
  refine ⟨fun z => h0 (by unfold inQ; rw [if_neg (by omega)]), fun z => ⟨fun z2 => h0 (by unfold inQ; rw [if_pos (by omega), ixO_lt z2]), fun z2 => sq8_inputsOf (p := 0) hR.1.2.2.1 hO.1 (by decide) ⟨fun z3 => h0 (by unfold inQ; rw [if_pos (by omega), ixO_ge z3]), fun z3 => ?_⟩⟩⟩
  obtain ⟨i, hi, ei, e1⟩ := ixO_in (n := inN m.1) (by omega) z2 z3
  exact h1 i (by omega) hi ei (by unfold inQ; rw [if_pos (by omega), e1])
theorem sq8_steps {x : Int32} {Φ : PTa} (hR : RPY 0 m st ce ip ln be co ca ic il im ac aC ls tw lf lt cd) (hO : MO9 m) (h : BWq (f_steps m x) Φ) : wl_X8_steps ce ip ln be ca ic il im ac aC ls tw lf lt cd x th a0 w0 n0 e0 f0 u0 d0 k1 k2 k3 k4 k5 k6 k7 k8 k9 vo he we sr go pk Φ := by
  unfold wl_X8_steps
  unfold f_steps at h
  refine sq8_isInput hR hO (fun e => ⟨fun z => absurd rfl z, fun _ => by rw [e] at h; exact h _ _ _ _ _ _ _ _ _ _ _ _ _ _ _ _ _ _ _ _ _ _⟩) (fun i h0 hi ex e => ⟨fun _ => ?_, fun z => absurd z (by decide)⟩)
  rw [e] at h
  have h : BWq (if (rn0 m i).1 = 1 then -1 else nI (rn0 m i).2.2.1) Φ := h
  rw [ex]
  have hp : PMo m.1 0 (rn0 m i) := rn_pmo h0
  refine sq8_tries (p := 0) (wy := 0) hO.1 (by decide) hR.1 hR.2 hO.2.1 (by decide) h0 hi (fun n e f u ma k1 k2 k3 k4 k5 k6 k7 k8 k9 vo he we sr go pk hM hk hg => ?_)
  have hM : RM9 m.1 (rn0 m i) n e f u he we sr := hM
  rw [rn0_eq] at hk
  have e12 := hM.e0
  have hst : (rn0 m i).1 = 1 ∨ (rn0 m i).1 = 2 ∨ (rn0 m i).1 = 3 := rn0_123 m i
  unfold wl_X8_isEndless
  rw [hk]
  refine ⟨fun z => ⟨fun _ => ?_, fun y => absurd rfl y⟩, fun z => ⟨fun y => ⟨fun _ => ?_, fun y => absurd rfl y⟩, fun y => ⟨fun q => absurd q (by decide), fun _ => ?_⟩⟩⟩
  · rw [if_neg (fun q => z (e12.1.mpr (by omega)))] at h
    exact h _ _ _ _ _ _ _ _ _ _ _ _ _ _ _ _ _ _ _ _ _ _
  · rw [if_neg (fun q => y (e12.2.mpr (by omega)))] at h
    exact h _ _ _ _ _ _ _ _ _ _ _ _ _ _ _ _ _ _ _ _ _ _
  · have a := e12.1.mp z
    have b := e12.2.mp y
    rw [if_pos (by omega)] at h
    exact h _ _ _ _ _ _ _ _ _ _ _ _ _ _ _ _ _ _ _ _ _ _
theorem sq8_falls {x : Int32} {Φ : PTa} (hR : RPY 0 m st ce ip ln be co ca ic il im ac aC ls tw lf lt cd) (hO : MO9 m) (h : BWq (f_falls m x) Φ) : wl_X8_falls ce ip ln be ca ic il im ac aC ls tw lf lt cd x th a0 w0 n0 e0 f0 u0 d0 k1 k2 k3 k4 k5 k6 k7 k8 k9 vo he we sr go pk Φ := by
  unfold wl_X8_falls
  unfold f_falls at h
  refine sq8_isInput hR hO (fun e => ⟨fun z => absurd rfl z, fun _ => by rw [e] at h; exact h _ _ _ _ _ _ _ _ _ _ _ _ _ _ _ _ _ _ _ _ _ _⟩) (fun i h0 hi ex e => ⟨fun _ => ?_, fun z => absurd z (by decide)⟩)
  rw [e] at h
  have h : BWq (if (rn0 m i).1 = 3 then nI (rn0 m i).2.1 else -1) Φ := h
  rw [ex]
  refine sq8_tries (p := 0) (wy := 0) hO.1 (by decide) hR.1 hR.2 hO.2.1 (by decide) h0 hi (fun n e f u ma k1 k2 k3 k4 k5 k6 k7 k8 k9 vo he we sr go pk hM hk hg => ?_)
  have hM : RM9 m.1 (rn0 m i) n e f u he we sr := hM
  have e12 := hM.e0
  refine ⟨fun z => ?_, fun z => ?_⟩
  · rw [if_neg (e12.2.mp z)] at h
    exact h _ _ _ _ _ _ _ _ _ _ _ _ _ _ _ _ _ _ _ _ _ _
  · have z3 : (rn0 m i).1 = 3 := by
      by_cases q : (rn0 m i).1 = 3
      · exact q
      · exact absurd (e12.2.mpr q) z
    rw [if_pos z3] at h
    rw [hM.2.2.1 (by omega)]
    exact h _ _ _ _ _ _ _ _ _ _ _ _ _ _ _ _ _ _ _ _ _ _
/-- the best so far: input, steps, line -/
def fbR (rn : Nat → PM) : Option Nat → Int32 × Int32 × Int32
  | none => (-1, 0, 0)
  | some b => (nI b, nI (rn b).2.2.1, nI (rn b).2.1)
theorem sq8_first {x : Int32} {Φ : PTa} (hR : RPY 0 m st ce ip ln be co ca ic il im ac aC ls tw lf lt cd) (hO : MO9 m) (h : BWq (f_first m x) Φ) : wl_X8_first ce ip ln be ca ic il im ac aC ls tw lf lt cd x th a0 w0 n0 e0 f0 u0 d0 k1 k2 k3 k4 k5 k6 k7 k8 k9 vo he we sr go pk Φ := by
  have h16 : nL m.1 ≤ 16 := hO.1.2.2.2.2.2.2.2.2.1
  have h64 := inN_64 hO.1
  have hln : ln 0 = nI (nL m.1) := hR.1.2.2.2.1
  have q0 : ln 0 = 0 ↔ nL m.1 = 0 := by rw [hln]; exact nI_eq (b := 0) (by omega) (by decide)
  unfold wl_X8_first
  rw [q0]
  refine sq8_wi (m := 2) (by decide) (fun e2 => ⟨fun _ => ?_, fun z => absurd rfl z⟩) (fun xi hxi exi _ => ⟨fun z => absurd z (by decide), fun _ => ⟨fun z => ?_, fun z => ?_⟩⟩)
  · have q := fun i hi => ixO_no (n := 3) (by decide) e2 ∘ fun (z : x = nI i) => ⟨i, hi, z⟩
    have hv : f_first m x = -1 := by
      unfold f_first
      split
      · split
        · rfl
        · rw [if_neg (show ¬ x = 0 from q 0 (by decide)), if_neg (show ¬ x = 1 from q 1 (by decide)), if_neg (show ¬ x = 2 from q 2 (by decide))]
      · rfl
    rw [hv] at h
    exact h _ _ _ _ _ _ _ _ _ _ _ _ _ _ _ _ _ _ _ _ _ _
  rotate_left
  · unfold f_first at h
    rw [if_neg (by omega)] at h
    exact h _ _ _ _ _ _ _ _ _ _ _ _ _ _ _ _ _ _ _ _ _ _
  unfold f_first at h
  have h0 : 0 < nL m.1 := by omega
  rw [if_pos h0] at h
  have key : ∀ (f i : Nat) (a0 w0 n0 e0 f0 u0 d0 : Int32) (k1 k2 k3 k4 k5 k6 k7 k8 k9 vo he we sr go pk : Nat → Int32), i ≤ inN m.1 → ll_X8_first_35 ce ip ln be ca ic il im ac aC ls tw lf lt cd x Φ f 0 a0 w0 n0 e0 f0 u0 d0 k1 k2 k3 k4 k5 k6 k7 k8 k9 vo he we sr go pk (fbR (rn0 m) (fsG (rn0 m) i)).1 (fbR (rn0 m) (fsG (rn0 m) i)).2.1 (fbR (rn0 m) (fsG (rn0 m) i)).2.2 (nI i) := by
    intro fu
    induction fu with
    | zero => intros; trivial
    | succ fu ih =>
      intro i a0 w0 n0 e0 f0 u0 d0 k1 k2 k3 k4 k5 k6 k7 k8 k9 vo he we sr go pk hi
      show bl_X8_first_35 _ _ _ _ _ _ _ _ _ _ _ _ _ _ _ _ _ _ _ _ _ _ _ _ _ _ _ _ _ _ _ _ _ _ _ _ _ _ _ _ _ _ _ _ _
      unfold bl_X8_first_35
      refine sq8_inputsOf (p := 0) hR.1.2.2.1 hO.1 (by decide) ?_
      rw [nI_leI (by omega) (by omega)]
      refine ⟨fun y => ?_, fun y => ?_⟩
      · have : i = inN m.1 := by omega
        subst this
        cases e : fsG (rn0 m) (inN m.1) with
        | none =>
          rw [e] at h
          exact ⟨fun q => absurd q (by show ¬ (0 : Int32) ≤ -1; decide), fun _ => h _ _ _ _ _ _ _ _ _ _ _ _ _ _ _ _ _ _ _ _ _ _⟩
        | some b =>
          rw [e] at h
          have h : BWq (if x = 0 then nI b else if x = 1 then nI (rn0 m b).2.2.1 else if x = 2 then nI (rn0 m b).2.1 else -1) Φ := h
          have hb := fsG_lt e
          refine ⟨fun _ => ⟨fun z0 => ⟨fun z1 => ?_, fun z1 => ?_⟩, fun z0 => ?_⟩, fun q => absurd (nI_pos' (by omega)) q⟩
          · have : xi = 2 := by
              have q0 : ¬ xi = 0 := fun q => z0 (by rw [exi, q]; rfl)
              have q1 : ¬ xi = 1 := fun q => z1 (by rw [exi, q]; rfl)
              omega
            subst this
            rw [if_neg z0, if_neg z1, if_pos (by rw [exi]; rfl)] at h
            exact h _ _ _ _ _ _ _ _ _ _ _ _ _ _ _ _ _ _ _ _ _ _
          · rw [if_neg z0, if_pos z1] at h
            exact h _ _ _ _ _ _ _ _ _ _ _ _ _ _ _ _ _ _ _ _ _ _
          · rw [if_pos z0] at h
            exact h _ _ _ _ _ _ _ _ _ _ _ _ _ _ _ _ _ _ _ _ _ _
      · have hk9 : (rn0 m i).2.2.1 ≤ 1000 := rn0_k m i
        refine sq8_tries (p := 0) (wy := 0) hO.1 (by decide) hR.1 hR.2 hO.2.1 (by decide) h0 (by omega) (fun n e f u ma k1 k2 k3 k4 k5 k6 k7 k8 k9 vo he we sr go pk hM hk hg => ?_)
        have hM : RM9 m.1 (rn0 m i) n e f u he we sr := hM
        rw [rn0_eq] at hk
        have e12 := hM.e0
        have nx := fun a0 w0 n0 e0 f0 u0 d0 k1 k2 k3 k4 k5 k6 k7 k8 k9 vo he we sr go pk => ih (i + 1) a0 w0 n0 e0 f0 u0 d0 k1 k2 k3 k4 k5 k6 k7 k8 k9 vo he we sr go pk (by omega)
        have ef : fsG (rn0 m) (i + 1) = (match fsG (rn0 m) i with
          | none => if (rn0 m i).1 = 3 then some i else none
          | some b => if (rn0 m i).1 = 3 ∧ (rn0 m i).2.2.1 < (rn0 m b).2.2.1 then some i else some b) := rfl
        have z3 : ¬ f = 0 → (rn0 m i).1 = 3 := fun z => by
          by_cases q : (rn0 m i).1 = 3
          · exact q
          · exact absurd (e12.2.mpr q) z
        have k75 : fsG (rn0 m) (i + 1) = some i → ¬ f = 0 → kl_X8_first_75 ce ip ln be ca ic il im ac aC ls tw lf lt cd x (ll_X8_first_35 ce ip ln be ca ic il im ac aC ls tw lf lt cd x Φ fu) Φ 0 (nI 0) (nI 0) n e f u ma k1 k2 k3 k4 k5 k6 k7 k8 k9 vo he we sr go pk (nI i) := by
          intro e5 hf
          rw [e5] at nx
          unfold kl_X8_first_75
          rw [hk, nI_1, hM.2.2.1 (by have := z3 hf; omega)]
          exact nx _ _ _ _ _ _ _ _ _ _ _ _ _ _ _ _ _ _ _ _ _ _
        rw [nI_1]
        cases e5 : fsG (rn0 m) i with
        | none =>
          rw [e5] at ef
          have ef : fsG (rn0 m) (i + 1) = if (rn0 m i).1 = 3 then some i else none := ef
          refine ⟨fun w => ?_, fun w => ⟨fun _ => ?_, fun v => absurd (show (-1 : Int32) < 0 by decide) v⟩⟩
          · rw [if_neg (e12.2.mp w)] at ef
            rw [ef] at nx
            exact nx _ _ _ _ _ _ _ _ _ _ _ _ _ _ _ _ _ _ _ _ _ _
          · rw [if_pos (z3 w)] at ef
            exact k75 ef w
        | some b =>
          have hb := fsG_lt e5
          have hkb : (rn0 m b).2.2.1 ≤ 1000 := rn0_k m b
          rw [e5] at ef
          have ef : fsG (rn0 m) (i + 1) = if (rn0 m i).1 = 3 ∧ (rn0 m i).2.2.1 < (rn0 m b).2.2.1 then some i else some b := ef
          refine ⟨fun w => ?_, fun w => ⟨fun v => absurd v (nI_pos (by omega)), fun _ => ?_⟩⟩
          · rw [if_neg (fun q => e12.2.mp w q.1)] at ef
            rw [ef] at nx
            exact nx _ _ _ _ _ _ _ _ _ _ _ _ _ _ _ _ _ _ _ _ _ _
          · have qlt : ma < nI (rn0 m b).2.2.1 ↔ (rn0 m i).2.2.1 < (rn0 m b).2.2.1 := by rw [hk]; exact nI_ltI (by omega) (by omega)
            show (ma < nI (rn0 m b).2.2.1 → _) ∧ (¬ ma < nI (rn0 m b).2.2.1 → _)
            rw [qlt]
            refine ⟨fun v => ?_, fun v => ?_⟩
            · rw [if_pos ⟨z3 w, v⟩] at ef
              exact k75 ef w
            · rw [if_neg (fun q => v q.2)] at ef
              rw [ef] at nx
              exact nx _ _ _ _ _ _ _ _ _ _ _ _ _ _ _ _ _ _ _ _ _ _
  exact fun f => key f 0 _ _ _ _ _ _ _ _ _ _ _ _ _ _ _ _ _ _ _ _ _ _ (Nat.zero_le _)
theorem sq8_writeAlike {p q wy wy' i : Nat} {x5 : Int32} {Φ : PAl} (hp : p < 6) (hq : q < 6) (hR : RPY p m st ce ip ln be co ca ic il im ac aC ls tw lf lt cd) (hO : MO9 m) (hR' : RPY q m' st ce ip ln be co ca ic il im ac aC ls tw lf lt cd) (hO' : MO9 m') (hw : wy ≤ 2) (hw' : wy' ≤ 2) (h0 : 0 < nL m.1) (h0' : 0 < nL m'.1) (hi : i < inN m.1) (hi' : i < inN m'.1) {x x' : PM} (ex : x = rnG m.1 (brG m.1 m.2.1 m.2.2.1) wy (bgG m.1 i (fun _ => 0))) (ex' : x' = rnG m'.1 (brG m'.1 m'.2.1 m'.2.2.1) wy' (bgG m'.1 i (fun _ => 0)))
    (h1 : x.2.2.2.2.2 = x'.2.2.2.2.2 → (¬ x5 = 0 → (x.1 = 2 ↔ x'.1 = 2)) → BWl 1 Φ) (hn : ¬ (x.2.2.2.2.2 = x'.2.2.2.2.2 ∧ (¬ x5 = 0 → (x.1 = 2 ↔ x'.1 = 2))) → BWl 0 Φ) : wl_X8_writeAlike ce ip ln be ca ic il im ac aC ls tw lf lt cd (nI p) (nI wy) (nI q) (nI wy') (nI i) x5 a0 w0 n0 e0 f0 u0 d0 k1 k2 k3 k4 k5 k6 k7 k8 k9 vo he we sr go pk ot Φ := by
  have hP : PMo m.1 wy x := by rw [ex]; exact rn_pmo h0
  have hP' : PMo m'.1 wy' x' := by rw [ex']; exact rn_pmo h0'
  have hk : x.2.2.1 ≤ 1000 := by rw [ex]; exact rn_k
  have hk' : x'.2.2.1 ≤ 1000 := by rw [ex']; exact rn_k
  have hl := hP.2.2.2.1
  have hl' := hP'.2.2.2.1
  unfold wl_X8_writeAlike
  refine sq8_tries hO.1 hp hR.1 hR.2 hO.2.1 hw h0 hi (fun n e f u ma k1 k2 k3 k4 k5 k6 k7 k8 k9 vo he we sr go pk hM _ _ => ?_)
  rw [← ex] at hM
  have key : ∀ (fu c : Nat) (ot : Nat → Int32), c ≤ x.2.2.2.2.2.length → (∀ j, j < c → ot j = sr j) → ll_X8_writeAlike_23 ce ip ln be ca ic il im ac aC ls tw lf lt cd (nI p) (nI wy) (nI q) (nI wy') (nI i) x5 Φ fu (nI p) (nI wy) n e f u ma k1 k2 k3 k4 k5 k6 k7 k8 k9 vo he we sr go pk ot (nI x.2.2.2.2.2.length) e (nI c) := by
    intro fu
    induction fu with
    | zero => intros; trivial
    | succ fu ih =>
      intro c ot hc ha
      show bl_X8_writeAlike_23 _ _ _ _ _ _ _ _ _ _ _ _ _ _ _ _ _ _ _ _ _ _ _ _ _ _ _ _ _ _ _ _ _ _ _ _ _ _ _ _ _ _ _ _ _ _ _ _ _
      unfold bl_X8_writeAlike_23
      rw [nI_leI (by omega) (by omega), nI_clamp (n := c) (by omega), nI_1]
      refine ⟨fun z => ?_, fun z _ _ => ih (c + 1) _ (by omega) (fun j hj => ?_)⟩
      rotate_left
      · by_cases ej : j = c
        · rw [ej, pk_us]
        · rw [pk_un ej]; exact ha j (by omega)
      have hot : KE9 1001 x.2.2.2.2.2 ot := fun j y hy hj => by rw [ha j (by have := get_lt hy; omega)]; exact hM.2.2.2.2.2.2 j y hy hj
      refine sq8_tries hO'.1 hq hR'.1 hR'.2 hO'.2.1 hw' h0' hi' (fun n2 e2 f2 u2 ma2 k1 k2 k3 k4 k5 k6 k7 k8 k9 vo he2 we2 sr2 go pk hM2 _ _ => ?_)
      rw [← ex'] at hM2
      have eu2 : u2 = nI x'.2.2.2.2.2.length := hM2.2.2.2.1
      have qe : e = e2 ↔ (x.1 = 2 ↔ x'.1 = 2) := by
        rw [hM.1, hM2.1]
        by_cases a : x.1 = 2
        · by_cases b : x'.1 = 2
          · rw [if_pos a, if_pos b]; exact ⟨fun _ => ⟨fun _ => b, fun _ => a⟩, fun _ => rfl⟩
          · rw [if_pos a, if_neg b]; exact ⟨fun q => absurd q (by decide), fun q => absurd (q.mp a) b⟩
        · by_cases b : x'.1 = 2
          · rw [if_neg a, if_pos b]; exact ⟨fun q => absurd q (by decide), fun q => absurd (q.mpr b) a⟩
          · rw [if_neg a, if_neg b]; exact ⟨fun _ => ⟨fun z => absurd z a, fun z => absurd z b⟩, fun _ => rfl⟩
      rw [eu2, nI_eq (by omega) (by omega), qe]
      have bad : ¬ (x.2.2.2.2.2 = x'.2.2.2.2.2 ∧ (¬ x5 = 0 → (x.1 = 2 ↔ x'.1 = 2))) → ∀ ot, Φ 0 (nI q) (nI wy') n2 e2 f2 (nI x'.2.2.2.2.2.length) ma2 k1 k2 k3 k4 k5 k6 k7 k8 k9 vo he2 we2 sr2 go pk ot := fun z ot => hn z _ _ _ _ _ _ _ _ _ _ _ _ _ _ _ _ _ _ _ _ _ _ _
      have cmp : x'.2.2.2.2.2.length = x.2.2.2.2.2.length → (¬ x5 = 0 → (x.1 = 2 ↔ x'.1 = 2)) → ∀ fu, ll_X8_writeAlike_87 ce ip ln be ca ic il im ac aC ls tw lf lt cd (nI p) (nI wy) (nI q) (nI wy') (nI i) x5 Φ fu (nI q) (nI wy') n2 e2 f2 (nI x'.2.2.2.2.2.length) ma2 k1 k2 k3 k4 k5 k6 k7 k8 k9 vo he2 we2 sr2 go pk ot (nI x.2.2.2.2.2.length) 0 := by
        intro elen hend
        have k87 : ∀ (fu j : Nat), j ≤ x.2.2.2.2.2.length → (∀ t, t < j → ot t = sr2 t) → ll_X8_writeAlike_87 ce ip ln be ca ic il im ac aC ls tw lf lt cd (nI p) (nI wy) (nI q) (nI wy') (nI i) x5 Φ fu (nI q) (nI wy') n2 e2 f2 (nI x'.2.2.2.2.2.length) ma2 k1 k2 k3 k4 k5 k6 k7 k8 k9 vo he2 we2 sr2 go pk ot (nI x.2.2.2.2.2.length) (nI j) := by
          intro fu
          induction fu with
          | zero => intros; trivial
          | succ fu ih2 =>
            intro j hj hs
            show bl_X8_writeAlike_87 _ _ _ _ _ _ _ _ _ _ _ _ _ _ _ _ _ _ _ _ _ _ _ _ _ _ _ _ _ _ _ _ _ _ _ _ _ _ _ _ _ _ _ _ _ _ _ _
            unfold bl_X8_writeAlike_87
            rw [nI_leI (by omega) (by omega), nI_clamp (n := j) (by omega), nI_1]
            refine ⟨fun z => h1 (ke_full hot hM2.2.2.2.2.2.2 elen.symm (by omega) (fun t ht => hs t (by omega))) hend _ _ _ _ _ _ _ _ _ _ _ _ _ _ _ _ _ _ _ _ _ _ _, fun z _ _ => ⟨fun y => ih2 (j + 1) (by omega) (fun t ht => ?_), fun y => bad (fun qq => y ?_) _⟩⟩
            · by_cases et : t = j
              · rw [et]; exact y.symm
              · exact hs t (by omega)
            · have hlt : j < x.2.2.2.2.2.length := by omega
              have b1 := hot j _ (List.getElem?_eq_getElem hlt) (by omega)
              have b2 := hM2.2.2.2.2.2.2 j (x.2.2.2.2.2[j]) (by rw [← qq.1]; exact List.getElem?_eq_getElem hlt) (by omega)
              rw [b1, b2]
        exact fun fu => k87 fu 0 (Nat.zero_le _) (fun t ht => absurd ht (Nat.not_lt_zero _))
      refine ⟨fun y => bad (fun qq => y (by rw [qq.1])) _, fun y => ⟨fun w => cmp y (fun q => absurd w q), fun w => ⟨fun v => cmp y (fun _ => v), fun v => bad (fun qq => v (qq.2 w)) _⟩⟩⟩
  have eu : u = nI x.2.2.2.2.2.length := hM.2.2.2.1
  rw [eu]
  intro fu
  have := key fu 0 ot (Nat.zero_le _) (fun j hj => absurd hj (Nat.not_lt_zero _))
  rw [eu] at this
  exact this
theorem sq8_apart {Φ : PAm} (hR : RPY 0 m st ce ip ln be co ca ic il im ac aC ls tw lf lt cd) (hO : MO9 m) (h : BWm (f_apart m) Φ) : wl_X8_apart ce ip ln be ca ic il im ac aC ls tw lf lt cd th a0 w0 n0 e0 f0 u0 d0 k1 k2 k3 k4 k5 k6 k7 k8 k9 vo he we sr go pk ot Φ := by
  have h16 : nL m.1 ≤ 16 := hO.1.2.2.2.2.2.2.2.2.1
  have h64 := inN_64 hO.1
  have hln : ln 0 = nI (nL m.1) := hR.1.2.2.2.1
  have q0 : ln 0 = 0 ↔ nL m.1 = 0 := by rw [hln]; exact nI_eq (b := 0) (by omega) (by decide)
  unfold wl_X8_apart
  unfold f_apart at h
  rw [q0]
  refine ⟨fun z => ?_, fun z => ?_⟩
  rotate_left
  · rw [if_neg (by omega)] at h
    exact h _ _ _ _ _ _ _ _ _ _ _ _ _ _ _ _ _ _ _ _ _ _ _
  have h0 : 0 < nL m.1 := by omega
  rw [if_pos h0] at h
  have key : ∀ (f i : Nat) (a0 w0 n0 e0 f0 u0 d0 : Int32) (k1 k2 k3 k4 k5 k6 k7 k8 k9 vo he we sr go pk ot : Nat → Int32), i ≤ inN m.1 → fdG (fun i => decide (¬ (rn0 m i).2.2.2.2.2 = (rn2 m i).2.2.2.2.2)) (inN m.1) 0 = fdG (fun i => decide (¬ (rn0 m i).2.2.2.2.2 = (rn2 m i).2.2.2.2.2)) (inN m.1 - i) i → ll_X8_apart_18 ce ip ln be ca ic il im ac aC ls tw lf lt cd Φ f 0 a0 w0 n0 e0 f0 u0 d0 k1 k2 k3 k4 k5 k6 k7 k8 k9 vo he we sr go pk ot (nI i) := by
    intro f
    induction f with
    | zero => intros; trivial
    | succ f ih =>
      intro i a0 w0 n0 e0 f0 u0 d0 k1 k2 k3 k4 k5 k6 k7 k8 k9 vo he we sr go pk ot hi ef
      show bl_X8_apart_18 _ _ _ _ _ _ _ _ _ _ _ _ _ _ _ _ _ _ _ _ _ _ _ _ _ _ _ _ _ _ _ _ _ _ _ _ _ _ _ _ _ _
      unfold bl_X8_apart_18
      refine sq8_inputsOf (p := 0) hR.1.2.2.1 hO.1 (by decide) ?_
      rw [nI_leI (by omega) (by omega)]
      refine ⟨fun y => ?_, fun y => ?_⟩
      · have e0 : inN m.1 - i = 0 := by omega
        rw [ef, e0] at h
        exact h _ _ _ _ _ _ _ _ _ _ _ _ _ _ _ _ _ _ _ _ _ _ _
      · have es : inN m.1 - i = inN m.1 - (i + 1) + 1 := by omega
        rw [es] at ef
        refine sq8_writeAlike (p := 0) (q := 0) (wy := 2) (wy' := 0) (x5 := 0) (x := rn2 m i) (x' := rn0 m i) (by decide) (by decide) hR hO hR hO (by decide) (by decide) h0 h0 (by omega) (by omega) rfl rfl (fun e _ a w n e2 f2 u d k1 k2 k3 k4 k5 k6 k7 k8 k9 vo he we sr go pk ot => ?_) (fun e a w n e2 f2 u d k1 k2 k3 k4 k5 k6 k7 k8 k9 vo he we sr go pk ot => ?_)
        · refine ⟨fun _ => ?_, fun w => absurd w (by decide)⟩
          rw [fdG_no (by rw [decide_eq_true_eq]; exact fun q => q e.symm)] at ef
          rw [nI_1]
          exact ih (i + 1) _ _ _ _ _ _ _ _ _ _ _ _ _ _ _ _ _ _ _ _ _ _ _ (by omega) ef
        · refine ⟨fun w => absurd rfl w, fun _ => ?_⟩
          rw [fdG_at (by rw [decide_eq_true_eq]; exact fun q => e ⟨q.symm, fun q => absurd rfl q⟩)] at ef
          rw [ef] at h
          exact h _ _ _ _ _ _ _ _ _ _ _ _ _ _ _ _ _ _ _ _ _ _ _
  exact fun f => key f 0 _ _ _ _ _ _ _ _ _ _ _ _ _ _ _ _ _ _ _ _ _ _ _ (Nat.zero_le _) rfl
theorem sq8_rounds {x : Int32} {Φ : PTa} (hR : RPY 0 m st ce ip ln be co ca ic il im ac aC ls tw lf lt cd) (hO : MO9 m) (h : BWq (f_rounds m x) Φ) : wl_X8_rounds ce ip ln be ca ic il im ac aC ls tw lf lt cd x th a0 w0 n0 e0 f0 u0 d0 k1 k2 k3 k4 k5 k6 k7 k8 k9 vo he we sr go pk Φ := by
  unfold wl_X8_rounds
  unfold f_rounds at h
  refine sq8_isInput hR hO (fun e => ⟨fun z => absurd rfl z, fun _ => by rw [e] at h; exact h _ _ _ _ _ _ _ _ _ _ _ _ _ _ _ _ _ _ _ _ _ _⟩) (fun i h0 hi ex e => ⟨fun _ => ?_, fun z => absurd z (by decide)⟩)
  rw [e] at h
  have h : BWq (nI (rdG m.1 (brG m.1 m.2.1 m.2.2.1) i 100 0 (fun _ => 0))) Φ := h
  have key : ∀ (f n : Nat) (a0 w0 n0 e0 f0 u0 d0 : Int32) (k1 k2 k3 k4 k5 k6 k7 k8 k9 vo he we sr go pk O : Nat → Int32), n ≤ 100 → AGn 16 O we → rdG m.1 (brG m.1 m.2.1 m.2.2.1) i 100 0 (fun _ => 0) = rdG m.1 (brG m.1 m.2.1 m.2.2.1) i (100 - n) n O → ll_X8_rounds_21 ce ip ln be ca ic il im ac aC ls tw lf lt cd x Φ f 0 a0 w0 n0 e0 f0 u0 d0 k1 k2 k3 k4 k5 k6 k7 k8 k9 vo he we sr go pk (nI n) := by
    intro f
    induction f with
    | zero => intros; trivial
    | succ f ih =>
      intro n a0 w0 n0 e0 f0 u0 d0 k1 k2 k3 k4 k5 k6 k7 k8 k9 vo he we sr go pk O hn hO2 er
      show bl_X8_rounds_21 _ _ _ _ _ _ _ _ _ _ _ _ _ _ _ _ _ _ _ _ _ _ _ _ _ _ _ _ _ _ _ _ _ _ _ _ _ _ _ _ _ _
      unfold bl_X8_rounds_21
      have q100 : (100 : Int32) ≤ nI n ↔ 100 ≤ n := nI_leI (a := 100) (by decide) (by omega)
      rw [q100, nI_1, ex]
      refine ⟨fun y => ?_, fun y => sq8_begins (p := 0) (wy := 0) hR.1.2.1 hR.1.2.2.1 hO.1 (by decide) hi (fun he' hh => ?_)⟩
      · have e0 : 100 - n = 0 := by omega
        have en : n = 100 := by omega
        rw [er, e0, en] at h
        exact h _ _ _ _ _ _ _ _ _ _ _ _ _ _ _ _ _ _ _ _ _ _
      · have es : 100 - n = 100 - (n + 1) + 1 := by omega
        rw [es] at er
        have ed : rdG m.1 (brG m.1 m.2.1 m.2.2.1) i (100 - (n + 1) + 1) n O = if (itG m.1 (brG m.1 m.2.1 m.2.2.1) 0 1000 (bgG m.1 i O)).1 = 2 then rdG m.1 (brG m.1 m.2.1 m.2.2.1) i (100 - (n + 1)) (n + 1) (itG m.1 (brG m.1 m.2.1 m.2.2.1) 0 1000 (bgG m.1 i O)).2.2.2.1 else n := rfl
        rw [ed] at er
        refine sq8_goesOn (p := 0) (wy := 0) (x := bgG m.1 i O) hO.1 (by decide) hR.1 hR.2 hO.2.1 (by decide) (PMo.bg h0 (fun q => absurd q (by decide))) (show (0 : Nat) < 2 ^ 29 by decide) (Or.inl rfl) (RM9.bg h0 hh hO2) (fun n2 e2 f2 u ma k1 k2 k3 k4 k5 k6 k7 k8 k9 vo he we sr go pk hM _ _ => ?_)
        have q2 : (rnG m.1 (brG m.1 m.2.1 m.2.2.1) 0 (bgG m.1 i O)).1 = 2 ↔ (itG m.1 (brG m.1 m.2.1 m.2.2.1) 0 1000 (bgG m.1 i O)).1 = 2 := by
          exact rnG_e2
        have ew : (rnG m.1 (brG m.1 m.2.1 m.2.2.1) 0 (bgG m.1 i O)).2.2.2.1 = (itG m.1 (brG m.1 m.2.1 m.2.2.1) 0 1000 (bgG m.1 i O)).2.2.2.1 := by rw [rnG_2]
        have e12 := hM.e0
        have hwe := hM.2.2.2.2.2.1
        rw [ew] at hwe
        refine ⟨fun z => ?_, fun z => ?_⟩
        · have z2 : (itG m.1 (brG m.1 m.2.1 m.2.2.1) 0 1000 (bgG m.1 i O)).1 = 2 := by
            by_cases q : (rnG m.1 (brG m.1 m.2.1 m.2.2.1) 0 (bgG m.1 i O)).1 = 2
            · exact q2.mp q
            · exact absurd (e12.1.mpr q) z
          rw [if_pos z2] at er
          rw [← ex]
          exact ih (n + 1) _ _ _ _ _ _ _ _ _ _ _ _ _ _ _ _ _ _ _ _ _ _ _ (by omega) hwe er
        · rw [if_neg (fun q => e12.1.mp z (q2.mpr q))] at er
          rw [er] at h
          exact h _ _ _ _ _ _ _ _ _ _ _ _ _ _ _ _ _ _ _ _ _ _
  exact sq8_freshens (fun we' hz f => key f 0 _ _ _ _ _ _ _ _ _ _ _ _ _ _ _ _ _ _ _ _ _ _ (fun _ => 0) (Nat.zero_le _) (fun j hj => hz j hj) rfl)
theorem sq8_same {x : Int32} {il9 : Nat → Int32} {Φ : PAm} (hR : RPY 0 m st ce ip ln be co ca ic il im ac aC ls tw lf lt cd) (hO : MO9 m) (hno : (∀ k, k < 4 → x = nI k → il9 k = 0) → BWm (-2) Φ) (hyes : ∀ k, k < 4 → x = nI k → ¬ il9 k = 0 → ∃ m', RPY (2 + k) m' st ce ip ln be co ca ic il im ac aC ls tw lf lt cd ∧ MO9 m' ∧ BWm (sameM m m') Φ) : wl_X8_same ce ip ln be ca ic il im ac aC ls tw lf lt cd il9 x th a0 w0 n0 e0 f0 u0 d0 k1 k2 k3 k4 k5 k6 k7 k8 k9 vo he we sr go pk ot Φ := by
  have h16 : nL m.1 ≤ 16 := hO.1.2.2.2.2.2.2.2.2.1
  have h64 := inN_64 hO.1
  have hln : ln 0 = nI (nL m.1) := hR.1.2.2.2.1
  have q0 : ln 0 = 0 ↔ nL m.1 = 0 := by rw [hln]; exact nI_eq (b := 0) (by omega) (by decide)
  unfold wl_X8_same
  refine sq8_wi (m := 3) (by decide) (fun e2 => ⟨fun _ => hno (fun k hk ek => absurd ⟨k, hk, ek⟩ (ixO_no (by decide) e2)) _ _ _ _ _ _ _ _ _ _ _ _ _ _ _ _ _ _ _ _ _ _ _, fun z => absurd rfl z⟩) (fun k hk ek _ => ⟨fun z => absurd z (by decide), fun _ _ => ?_⟩)
  rw [ek, nI_clamp (n := k) (by omega)]
  refine ⟨fun z => ?_, fun z => hno (fun k' hk' ek' => by rw [ek] at ek'; rw [← (nI_eq (by omega) (by omega)).mp ek']; exact z) _ _ _ _ _ _ _ _ _ _ _ _ _ _ _ _ _ _ _ _ _ _ _⟩
  obtain ⟨m', hR', hO', h⟩ := hyes k hk ek z
  have h16' : nL m'.1 ≤ 16 := hO'.1.2.2.2.2.2.2.2.2.1
  have h64' := inN_64 hO'.1
  have hln' : ln (2 + k) = nI (nL m'.1) := hR'.1.2.2.2.1
  have q0' : ln (2 + k) = 0 ↔ nL m'.1 = 0 := by rw [hln']; exact nI_eq (b := 0) (by omega) (by decide)
  have e2k : (2 : Int32) + nI k = nI (2 + k) := nI_add 2 k
  unfold sameM at h
  rw [q0, e2k, nI_clamp (n := 2 + k) (by omega), q0']
  refine ⟨fun y => ?_, fun y _ => ⟨fun y2 => ?_, fun y2 => sq8_inputsOf (p := 0) hR.1.2.2.1 hO.1 (by decide) (sq8_inputsOf (p := 2 + k) hR'.1.2.2.1 hO'.1 (by omega) ?_)⟩⟩
  · rw [if_neg (fun q => by omega)] at h
    exact h _ _ _ _ _ _ _ _ _ _ _ _ _ _ _ _ _ _ _ _ _ _ _
  · rw [if_neg (fun q => by omega)] at h
    exact h _ _ _ _ _ _ _ _ _ _ _ _ _ _ _ _ _ _ _ _ _ _ _
  rw [nI_eq (by omega) (by omega)]
  refine ⟨fun w => ?_, fun w => ?_⟩
  rotate_left
  · rw [if_neg (fun q => w q.2.2)] at h
    exact h _ _ _ _ _ _ _ _ _ _ _ _ _ _ _ _ _ _ _ _ _ _ _
  have h0 : 0 < nL m.1 := by omega
  have h0' : 0 < nL m'.1 := by omega
  rw [if_pos ⟨h0, h0', w⟩] at h
  have key : ∀ (f i : Nat) (a0 w0 n0 e0 f0 u0 d0 : Int32) (k1 k2 k3 k4 k5 k6 k7 k8 k9 vo he we sr go pk ot : Nat → Int32), i ≤ inN m.1 → fdG (fun i => decide (¬ ((rn2 m i).2.2.2.2.2 = (rn2 m' i).2.2.2.2.2 ∧ (rn2 m i).1 = (rn2 m' i).1))) (inN m.1) 0 = fdG (fun i => decide (¬ ((rn2 m i).2.2.2.2.2 = (rn2 m' i).2.2.2.2.2 ∧ (rn2 m i).1 = (rn2 m' i).1))) (inN m.1 - i) i → ll_X8_same_66 ce ip ln be ca ic il im ac aC ls tw lf lt cd il9 (nI k) Φ f 0 a0 w0 n0 e0 f0 u0 d0 k1 k2 k3 k4 k5 k6 k7 k8 k9 vo he we sr go pk ot (nI (2 + k)) (nI i) := by
    intro f
    induction f with
    | zero => intros; trivial
    | succ f ih =>
      intro i a0 w0 n0 e0 f0 u0 d0 k1 k2 k3 k4 k5 k6 k7 k8 k9 vo he we sr go pk ot hi ef
      show bl_X8_same_66 _ _ _ _ _ _ _ _ _ _ _ _ _ _ _ _ _ _ _ _ _ _ _ _ _ _ _ _ _ _ _ _ _ _ _ _ _ _ _ _ _ _ _ _ _
      unfold bl_X8_same_66
      refine sq8_inputsOf (p := 0) hR.1.2.2.1 hO.1 (by decide) ?_
      rw [nI_leI (by omega) (by omega)]
      refine ⟨fun y => ?_, fun y => ?_⟩
      · have e0 : inN m.1 - i = 0 := by omega
        rw [ef, e0] at h
        exact h _ _ _ _ _ _ _ _ _ _ _ _ _ _ _ _ _ _ _ _ _ _ _
      · have es : inN m.1 - i = inN m.1 - (i + 1) + 1 := by omega
        rw [es] at ef
        have s1 : (rn2 m i).1 = 1 ∨ (rn2 m i).1 = 2 := rn2_12 m i
        have s2 : (rn2 m' i).1 = 1 ∨ (rn2 m' i).1 = 2 := rn2_12 m' i
        refine sq8_writeAlike (p := 0) (q := 2 + k) (wy := 2) (wy' := 2) (x5 := 1) (x := rn2 m i) (x' := rn2 m' i) (by decide) (by omega) hR hO hR' hO' (by decide) (by decide) h0 h0' (by omega) (by omega) rfl rfl (fun e e9 a w n e2 f2 u d k1 k2 k3 k4 k5 k6 k7 k8 k9 vo he we sr go pk ot => ?_) (fun e a w n e2 f2 u d k1 k2 k3 k4 k5 k6 k7 k8 k9 vo he we sr go pk ot => ?_)
        · have e9 := e9 (by decide)
          refine ⟨fun _ => ?_, fun w => absurd w (by decide)⟩
          rw [fdG_no (by rw [decide_eq_true_eq]; exact fun q => q ⟨e, by omega⟩)] at ef
          rw [nI_1]
          exact ih (i + 1) _ _ _ _ _ _ _ _ _ _ _ _ _ _ _ _ _ _ _ _ _ _ _ (by omega) ef
        · refine ⟨fun w => absurd rfl w, fun _ => ?_⟩
          rw [fdG_at (by rw [decide_eq_true_eq]; exact fun q => e ⟨q.1, fun _ => by rw [q.2]⟩)] at ef
          rw [ef] at h
          exact h _ _ _ _ _ _ _ _ _ _ _ _ _ _ _ _ _ _ _ _ _ _ _
  exact fun f => key f 0 _ _ _ _ _ _ _ _ _ _ _ _ _ _ _ _ _ _ _ _ _ _ _ (Nat.zero_le _) rfl
end WR9
end
section
theorem mxI_t (a b : Int32) : (mxI a b).toInt = max a.toInt b.toInt := by
  unfold mxI
  split
  · rename_i h
    have := Int32.lt_iff_toInt_lt.mp h
    omega
  · rename_i h
    have : ¬ a.toInt < b.toInt := fun q => h (Int32.lt_iff_toInt_lt.mpr q)
    omega
theorem mxI_as (a b c : Int32) : mxI (mxI a b) c = mxI a (mxI b c) := Int32.toInt_inj.mp (by rw [mxI_t, mxI_t, mxI_t, mxI_t]; omega)
theorem mxI_0 {a : Int32} (h : 0 ≤ a.toInt) : mxI a 0 = a := Int32.toInt_inj.mp (by rw [mxI_t, show (0 : Int32).toInt = 0 from rfl]; omega)
theorem stp_be {g : PGr} {be be' : Nat → Int32} {wy : Nat} {x : PM} (hw : ¬ wy = 0) : stp g be wy x = stp g be' wy x := by
  by_cases z : x.1 = 1
  · rw [stp_wrk z (fun q => hw q.1), stp_wrk z (fun q => hw q.1)]
  · rw [stp_off z, stp_off z]
theorem gst_be {g : PGr} {be be' : Nat → Int32} {wy : Nat} {y : PG9} (hw : ¬ wy = 0) : gst g be wy y = gst g be' wy y := by
  by_cases z : y.1.1 = 1
  · rw [gst_wrk z (fun q => hw q.1), gst_wrk z (fun q => hw q.1)]
  · rw [gst_off z, gst_off z]
theorem git_be {g : PGr} {be be' : Nat → Int32} {wy : Nat} (hw : ¬ wy = 0) : ∀ (n : Nat) (y : PG9), gitG g be wy n y = gitG g be' wy n y := by
  intro n
  induction n with
  | zero => intro y; rfl
  | succ n ih =>
    intro y
    show gitG g be wy n (gst g be wy y) = gitG g be' wy n (gst g be' wy y)
    rw [ih, gst_be (be := be) (be' := be') hw]
/-- by an input, soft: where it ends, how often each line is gone over, how worn it is at most -/
def sgN (N : Nat) (g : PGr) (i : Nat) : PG9 := gitG g (fun _ => 0) 1 N (pg0 (bgG g i (fun _ => 0)))
theorem sgN_eq {N : Nat} {g : PGr} {i : Nat} : sgN N g i = gitG g (fun _ => 0) 1 N (pg0 (bgG g i (fun _ => 0))) := rfl
/-- of the first inputs: most, by which, peak -/
def svF (sg : Nat → PG9) : Nat → (Nat → Nat) × (Nat → Nat) × (Nat → Int32)
  | 0 => (fun _ => 0, fun _ => 0, fun _ => 0)
  | k + 1 => (fun l => if (svF sg k).1 l < (sg k).2.1 l then (sg k).2.1 l else (svF sg k).1 l, fun l => if (svF sg k).1 l < (sg k).2.1 l then k else (svF sg k).2.1 l, fun l => mxI ((svF sg k).2.2 l) ((sg k).2.2 l))
theorem svF_1 (sg : Nat → PG9) (k l : Nat) : (svF sg (k + 1)).1 l = if (svF sg k).1 l < (sg k).2.1 l then (sg k).2.1 l else (svF sg k).1 l := rfl
theorem svF_2 (sg : Nat → PG9) (k l : Nat) : (svF sg (k + 1)).2.1 l = if (svF sg k).1 l < (sg k).2.1 l then k else (svF sg k).2.1 l := rfl
theorem svF_3 (sg : Nat → PG9) (k l : Nat) : (svF sg (k + 1)).2.2 l = mxI ((svF sg k).2.2 l) ((sg k).2.2 l) := rfl
/-- the first inputs all end -/
def alG (g : PGr) : Nat → Bool
  | 0 => true
  | k + 1 => alG g k && decide ((sgN 1000 g k).1.1 = 2)
theorem alG_s {g : PGr} {k : Nat} : alG g (k + 1) = true ↔ alG g k = true ∧ (sgN 1000 g k).1.1 = 2 := by
  show (alG g k && decide ((sgN 1000 g k).1.1 = 2)) = true ↔ _
  rw [Bool.and_eq_true, decide_eq_true_eq]
theorem alG_le {g : PGr} {a : Nat} : ∀ {b : Nat}, a ≤ b → alG g b = true → alG g a = true := by
  intro b
  induction b with
  | zero => intro h h2; rw [show a = 0 by omega]; exact h2
  | succ b ih =>
    intro h h2
    by_cases e : a = b + 1
    · rw [e]; exact h2
    · exact ih (by omega) (alG_s.mp h2).1
theorem svF_nn (sg : Nat → PG9) : ∀ (k l : Nat), 0 ≤ ((svF sg k).2.2 l).toInt := by
  intro k
  induction k with
  | zero => intro l; exact (by decide : (0 : Int) ≤ (0 : Int32).toInt)
  | succ k ih =>
    intro l
    rw [svF_3, mxI_t]
    have := ih l
    omega
/-- the end is behind the last line -/
def PE2 (g : PGr) (x : PM) : Prop := x.1 = 2 → nL g ≤ x.2.1
theorem PE2.stpZ {g : PGr} {be : Nat → Int32} {wy : Nat} {x : PM} (h : PE2 g x) : PE2 g (stp g be wy x) := by
  by_cases z : x.1 = 1
  · by_cases w : hol be wy x
    · rw [stp_hol z w]; exact fun q => absurd (show (3 : Nat) = 2 from q) (by decide)
    · rw [stp_wrk z w]
      intro q
      have q : (if nL g ≤ nxG g wy x then 2 else 1) = 2 := q
      show nL g ≤ nxG g wy x
      by_cases n : nL g ≤ nxG g wy x
      · exact n
      · rw [if_neg n] at q; exact absurd q (by decide)
  · rw [stp_off z]; exact h
theorem PE2.itZ {g : PGr} {be : Nat → Int32} {wy : Nat} : ∀ (n : Nat) (x : PM), PE2 g x → PE2 g (itG g be wy n x) := by
  intro n
  induction n with
  | zero => intro x h; exact h
  | succ n ih => intro x h; exact ih _ h.stpZ
theorem sgN_12 {N : Nat} {g : PGr} {i : Nat} : (sgN N g i).1.1 = 1 ∨ (sgN N g i).1.1 = 2 := by
  rw [sgN_eq, git_1]
  exact it_12 (by decide) N _ (Or.inl rfl)
theorem sg_12 {g : PGr} {i : Nat} : (sgN 1000 g i).1.1 = 1 ∨ (sgN 1000 g i).1.1 = 2 := sgN_12
theorem git_gone {g : PGr} {be : Nat → Int32} {wy : Nat} : ∀ (n : Nat) (y : PG9) (B : Nat), (∀ l, y.2.1 l ≤ B) → ∀ l, (gitG g be wy n y).2.1 l ≤ B + n := by
  intro n
  induction n with
  | zero => intro y B h l; exact h l
  | succ n ih =>
    intro y B h l
    have := ih (gst g be wy y) (B + 1) (fun l => ?_) l
    · show (gitG g be wy n (gst g be wy y)).2.1 l ≤ _
      omega
    · unfold gst
      split
      · show updN y.2.1 y.1.2.1 (y.2.1 y.1.2.1 + 1) l ≤ _
        unfold updN
        have h1 := h y.1.2.1
        have h2 := h l
        split <;> omega
      · have := h l
        show y.2.1 l ≤ _
        omega
theorem git_gone0 {g : PGr} {be : Nat → Int32} {wy : Nat} {x : PM} (N l : Nat) : (gitG g be wy N (pg0 x)).2.1 l ≤ N := by
  have := git_gone (g := g) (be := be) (wy := wy) N (pg0 x) 0 (fun _ => Nat.le_refl 0) l
  omega
theorem sgN_gone {N : Nat} {g : PGr} {i l : Nat} : (sgN N g i).2.1 l ≤ N := by
  rw [sgN_eq]
  exact git_gone0 N l
theorem sg_gone {g : PGr} {i l : Nat} : (sgN 1000 g i).2.1 l ≤ 1000 := sgN_gone
theorem svF_gone {sg : Nat → PG9} (hs : ∀ i l, (sg i).2.1 l ≤ 1000) : ∀ (k l : Nat), (svF sg k).1 l ≤ 1000 ∧ (svF sg k).2.1 l ≤ k := by
  intro k
  induction k with
  | zero => intro l; exact ⟨Nat.zero_le _, Nat.le_refl 0⟩
  | succ k ih =>
    intro l
    obtain ⟨h1, h2⟩ := ih l
    have h3 := hs k l
    rw [svF_1, svF_2]
    refine ⟨?_, ?_⟩
    · split <;> omega
    · split <;> omega
theorem sg_all {g : PGr} : ∀ i l, (sgN 1000 g i).2.1 l ≤ 1000 := fun i l => sgN_gone
theorem sv_gone {g : PGr} (k l : Nat) : (svF (sgN 1000 g) k).1 l ≤ 1000 ∧ (svF (sgN 1000 g) k).2.1 l ≤ k := svF_gone sg_all k l
/-- most, by which, peak as the class keeps them -/
def SVc (g : PGr) (k : Nat) (of by_ pk : Nat → Int32) : Prop := (∀ l, l < nL g → of l = nI ((svF (sgN 1000 g) k).1 l) ∧ by_ l = nI ((svF (sgN 1000 g) k).2.1 l)) ∧ AGn 16 (svF (sgN 1000 g) k).2.2 pk
section CA
variable {g : PGr} {cl : Nat} {pst pce pgi pln : Int32} {be co to gc le gr ac sq tg fr mi en cd : Nat → Int32} {sf tf : Nat → Nat} {st tw : Nat → Int32}
theorem sq4_add {k : Nat} {sn ww s0 n0 a0 b0 : Int32} {of by_ pk ov wo ce ke sk : Nat → Int32} {Φ : PAd} (hQ : PQ9 g pst pce pgi pln be co to gc le gr ac sq tg fr mi en cl cd) (hG : GK9 g) (hL : LYo g sf tf) (hc : CLs g sf tf st tw) (h0 : 0 < nL g) (hk : k < inN g) (hS : SVc g k of by_ pk)
    (h : ∀ (sn : Int32) (of by_ pk ov : Nat → Int32) (ww s n a b : Int32) (wo ce ke sk : Nat → Int32), (sn = 0 ↔ (sgN 1000 g k).1.1 = 2) → SVc g (k + 1) of by_ pk → Φ sn of by_ pk ov ww s n a b wo ce ke sk) : wl_X4_add st tw pce pgi pln be to gc le gr ac tg fr mi en cd 1000 cl (nI k) sn of by_ pk ov ww s0 n0 a0 b0 wo ce ke sk Φ := by
  have h16 : nL g ≤ 16 := hG.2.2.2.2.2.2.2.2.1
  have h64 := inN_64 hG
  have eln : pln = nI (nL g) := hQ.2.2.2.2.2.2.1
  -- behind the walk
  have k116 : ∀ (sn : Int32) (pk ov : Nat → Int32) (s n a b : Int32) (wo ce ke sk : Nat → Int32), (sn = 0 ↔ (sgN 1000 g k).1.1 = 2) → AGn 16 (svF (sgN 1000 g) (k + 1)).2.2 pk → (∀ l, l < 16 → ov l = nI ((sgN 1000 g k).2.1 l)) → ∀ (f j : Nat) (of' by' : Nat → Int32), j ≤ nL g → (∀ l, l < nL g → (l < j → of' l = nI ((svF (sgN 1000 g) (k + 1)).1 l) ∧ by' l = nI ((svF (sgN 1000 g) (k + 1)).2.1 l)) ∧ (j ≤ l → of' l = nI ((svF (sgN 1000 g) k).1 l) ∧ by' l = nI ((svF (sgN 1000 g) k).2.1 l))) → ll_X4_add_116 st tw pce pgi pln be to gc le gr ac tg fr mi en cd 1000 cl (nI k) Φ f sn of' by' pk ov 1 s n a b wo ce ke sk (nI j) := by
    intro sn pk ov s n a b wo ce ke sk hsn hpk hov f
    induction f with
    | zero => intros; trivial
    | succ f ih =>
      intro j of' by' hj hr
      show bl_X4_add_116 _ _ _ _ _ _ _ _ _ _ _ _ _ _ _ _ _ _ _ _ _ _ _ _ _ _ _ _ _ _ _ _ _ _ _ _
      unfold bl_X4_add_116
      rw [eln, nI_leI (by omega) (by omega), ← eln, nI_clamp (n := j) (by omega), nI_1]
      refine ⟨fun z => h _ _ _ _ _ _ _ _ _ _ _ _ _ _ hsn ⟨fun l hl => (hr l hl).1 (by omega), hpk⟩, fun z _ _ => ?_⟩
      obtain ⟨r1, r2⟩ := (hr j (by omega)).2 (Nat.le_refl _)
      have g1 := sg_gone (g := g) (i := k) (l := j)
      have g2 := (sv_gone (g := g) k j).1
      rw [hov j (by omega), r1, nI_leI (by omega) (by omega)]
      have e1 := svF_1 (sgN 1000 g) k j
      have e2 := svF_2 (sgN 1000 g) k j
      refine ⟨fun y => ih (j + 1) _ _ (by omega) (fun l hl => ⟨fun q => ?_, fun q => (hr l hl).2 (by omega)⟩), fun y _ _ _ => ih (j + 1) _ _ (by omega) (fun l hl => ⟨fun q => ?_, fun q => ?_⟩)⟩
      · by_cases el : l = j
        · rw [el, e1, e2, if_neg (Nat.not_lt.mpr y), if_neg (Nat.not_lt.mpr y)]; exact ⟨r1, r2⟩
        · exact (hr l hl).1 (by omega)
      · by_cases el : l = j
        · rw [el, pk_us, pk_us, e1, e2, if_pos (Nat.lt_of_not_le y), if_pos (Nat.lt_of_not_le y)]; exact ⟨rfl, rfl⟩
        · rw [pk_un el, pk_un el]; exact (hr l hl).1 (by omega)
      · rw [pk_un (by omega), pk_un (by omega)]; exact (hr l hl).2 (by omega)
  have hP0 : PMo g 1 (bgG g k (fun _ => 0)) := PMo.bg h0 (fun _ _ _ => rfl)
  have key : ∀ (f j : Nat) (s n a b : Int32) (pk' ov wo ce ke sk : Nat → Int32), j ≤ 1000 → CM9 g 1000 (gitG g (fun _ => 0) 1 j (pg0 (bgG g k (fun _ => 0)))).1 s n a b wo ce ke → (∀ l, l < 16 → ov l = nI ((gitG g (fun _ => 0) 1 j (pg0 (bgG g k (fun _ => 0)))).2.1 l)) → (∀ l, l < 16 → pk' l = mxI ((svF (sgN 1000 g) k).2.2 l) ((gitG g (fun _ => 0) 1 j (pg0 (bgG g k (fun _ => 0)))).2.2 l)) → ll_X4_add_28 st tw pce pgi pln be to gc le gr ac tg fr mi en cd 1000 cl (nI k) Φ f sn of by_ pk' ov 1 s n a b wo ce ke sk (nI j) := by
    intro f
    induction f with
    | zero => intros; trivial
    | succ f ih =>
      intro j s n a b pk' ov wo ce ke sk hj hM hov hpk
      have ei := git_1 (g := g) (be := fun _ => 0) (wy := 1) j (pg0 (bgG g k (fun _ => 0)))
      rw [pg0_1] at ei
      have hP : PMo g 1 (gitG g (fun _ => 0) 1 j (pg0 (bgG g k (fun _ => 0)))).1 := by rw [ei]; exact PMo.itZ j _ hP0
      have hE : PE2 g (gitG g (fun _ => 0) 1 j (pg0 (bgG g k (fun _ => 0)))).1 := by rw [ei]; exact PE2.itZ j _ (fun q => absurd (show (1 : Nat) = 2 from q) (by decide))
      have h12 : (gitG g (fun _ => 0) 1 j (pg0 (bgG g k (fun _ => 0)))).1.1 = 1 ∨ (gitG g (fun _ => 0) 1 j (pg0 (bgG g k (fun _ => 0)))).1.1 = 2 := by rw [ei]; exact it_12 (by decide) j _ (Or.inl rfl)
      have hK : (gitG g (fun _ => 0) 1 j (pg0 (bgG g k (fun _ => 0)))).1.2.2.1 ≤ 1000 := by
        rw [ei]
        have := it_k (g := g) (be := fun _ => 0) (wy := 1) j (bgG g k (fun _ => 0))
        have e0 : (bgG g k (fun _ => 0)).2.2.1 = 0 := rfl
        omega
      have eto : ¬ (gitG g (fun _ => 0) 1 j (pg0 (bgG g k (fun _ => 0)))).1.1 = 1 → sgN 1000 g k = gitG g (fun _ => 0) 1 j (pg0 (bgG g k (fun _ => 0))) := fun z => sgN_eq.trans (git_to hj z)
      have e1000 : j = 1000 → sgN 1000 g k = gitG g (fun _ => 0) 1 j (pg0 (bgG g k (fun _ => 0))) := fun z => by rw [z]; exact sgN_eq
      have enx := git_one (g := g) (be := fun _ => 0) (wy := 1) (y := pg0 (bgG g k (fun _ => 0))) j
      have ihj := ih (j + 1)
      rw [enx] at ihj
      generalize gitG g (fun _ => 0) 1 j (pg0 (bgG g k (fun _ => 0))) = y at hM hov hpk hP hE h12 hK eto e1000 ihj
      show bl_X4_add_28 _ _ _ _ _ _ _ _ _ _ _ _ _ _ _ _ _ _ _ _ _ _ _ _ _ _ _ _ _ _ _ _ _ _ _ _
      unfold bl_X4_add_28
      -- the walk is over
      have out : sgN 1000 g k = y → wl_X1_isEndless s (fun r => (r = 0 ∨ r = 1) → ∀ n_, ll_X4_add_116 st tw pce pgi pln be to gc le gr ac tg fr mi en cd 1000 cl (nI k) Φ n_ r of by_ pk' ov 1 s n a b wo ce ke sk 0) := by
        intro es
        have q1 : s = 1 ↔ y.1.1 = 1 := by rw [hM.1]; exact nI_eq (b := 1) (by have := hP.1; omega) (by decide)
        have hpk' : AGn 16 (svF (sgN 1000 g) (k + 1)).2.2 pk' := fun l hl => by
          rw [svF_3, es]
          exact hpk l hl
        have hov' : ∀ l, l < 16 → ov l = nI ((sgN 1000 g k).2.1 l) := fun l hl => by rw [es]; exact hov l hl
        have hr0 : ∀ l, l < nL g → (l < 0 → of l = nI ((svF (sgN 1000 g) (k + 1)).1 l) ∧ by_ l = nI ((svF (sgN 1000 g) (k + 1)).2.1 l)) ∧ (0 ≤ l → of l = nI ((svF (sgN 1000 g) k).1 l) ∧ by_ l = nI ((svF (sgN 1000 g) k).2.1 l)) := fun l hl => ⟨fun q => absurd q (Nat.not_lt_zero _), fun _ => hS.1 l hl⟩
        refine ⟨fun z _ f => k116 0 pk' ov s n a b wo ce ke sk ⟨fun _ => ?_, fun _ => rfl⟩ hpk' hov' f 0 of by_ (Nat.zero_le _) hr0, fun z _ f => k116 1 pk' ov s n a b wo ce ke sk ⟨fun q => absurd q (by decide), fun q => ?_⟩ hpk' hov' f 0 of by_ (Nat.zero_le _) hr0⟩
        · rw [es]; exact h12.resolve_left (fun q => z (q1.mpr q))
        · rw [es] at q
          exact absurd ((q1.mp z).symm.trans q) (by decide)
      have q1000 : (1000 : Int32) ≤ nI j ↔ 1000 ≤ j := nI_leI (a := 1000) (by decide) (by omega)
      rw [q1000, hM.2.1, eln, nI_1]
      rw [← eln]
      refine ⟨fun z => by rw [← hM.2.1]; exact out (e1000 (by omega)), fun z => ?_⟩
      by_cases hy : y.1.1 = 1
      · have hN := hP.2.2.1 (Or.inl hy)
        rw [eln]
        refine sq7_in hN (by omega) ⟨fun q => absurd q (by decide), fun _ _ _ _ _ _ => ?_⟩
        rw [← eln, ← hM.2.1]
        refine sq1_step (wy := 1) hQ hG hL hc hP (by decide) hM (by omega) (by decide) (fun r s' n' k' u' wo' ce' ke' sk' hM' _ => ?_)
        rw [stp_be (be' := fun _ => 0) (by decide)] at hM'
        have ey : gst g (fun _ => 0) 1 y = (wrk g 1 y.1, updN y.2.1 y.1.2.1 (y.2.1 y.1.2.1 + 1), upd y.2.2 y.1.2.1 (mxI (y.2.2 y.1.2.1) (y.1.2.2.2.1 y.1.2.1 + 1))) := gst_wrk hy (fun q => absurd q.1 (by decide))
        refine ihj _ _ _ _ _ _ _ _ _ _ (by omega) (by rw [gst_1]; exact hM') (fun l hl => ?_) (fun l hl => ?_)
        · rw [ey, hM.2.1, nI_clamp (n := y.1.2.1) (by omega)]
          show _ = nI (updN y.2.1 y.1.2.1 (y.2.1 y.1.2.1 + 1) l)
          unfold updN
          by_cases el : l = y.1.2.1
          · rw [if_pos el, el, pk_us, hov _ (by omega), nI_1]
          · rw [if_neg el, pk_un el]; exact hov l hl
        · rw [ey, hM.2.1, nI_clamp (n := y.1.2.1) (by omega)]
          show _ = mxI ((svF (sgN 1000 g) k).2.2 l) (upd y.2.2 y.1.2.1 (mxI (y.2.2 y.1.2.1) (y.1.2.2.2.1 y.1.2.1 + 1)) l)
          by_cases el : l = y.1.2.1
          · rw [el, pk_us, pk_us, ← mxI_as, ← hpk _ (by omega), hM.2.2.2.2.1 _ (by omega)]
            rfl
          · rw [pk_un el, pk_un el]; exact hpk l hl
      · have hN2 := hE (h12.resolve_left hy)
        have o := out (eto hy)
        have eN : y.1.2.1 = nL g := by have := hP.2.1; omega
        rw [eN, eln]
        refine ⟨fun q => absurd q (nI_pos (by omega)), fun _ => ⟨fun _ => ⟨fun _ => ?_, fun q => absurd rfl q⟩, fun q => absurd (Int32.le_refl _) q⟩⟩
        rw [hM.2.1, eN, eln] at o
        exact o
  unfold wl_X4_add
  refine sq_fill (rl := 16) (by decide) (fun ov' hov _ => sq_fill (rl := 16) (by decide) (fun wo' hwo _ => sq1_start hQ hG hk (fun ce' hce f => ?_)))
  refine key f 0 _ _ _ _ pk ov' wo' ce' ke sk (by decide) ⟨rfl, rfl, rfl, rfl, fun j hj => hwo j hj, hce, KE9.nil⟩ (fun l hl => hov l hl) (fun l hl => ?_)
  rw [hS.2 l hl]
  exact (mxI_0 (svF_nn _ k l)).symm
end CA
end
section
/-- the least of the first; 1,000,000: none -/
def bsF (f : Nat → Nat) : Nat → Nat
  | 0 => 1000000
  | k + 1 => min (bsF f k) (f k)
/-- the first that is the least -/
def amF (f : Nat → Nat) : Nat → Option Nat
  | 0 => none
  | k + 1 => if f k < bsF f k then some k else amF f k
theorem bsF_le (f : Nat → Nat) (k : Nat) : bsF f k ≤ 1000000 := by
  induction k with
  | zero => exact Nat.le_refl _
  | succ k ih =>
    show min (bsF f k) (f k) ≤ 1000000
    omega
theorem bsF_s (f : Nat → Nat) (k : Nat) : bsF f (k + 1) = min (bsF f k) (f k) := rfl
theorem amF_s (f : Nat → Nat) (k : Nat) : amF f (k + 1) = if f k < bsF f k then some k else amF f k := rfl
theorem bs_skip {f : Nat → Nat} {k : Nat} : ∀ (n : Nat), (∀ j, k ≤ j → j < k + n → f j = 1000000) → bsF f (k + n) = bsF f k ∧ amF f (k + n) = amF f k := by
  intro n
  induction n with
  | zero => intro _; exact ⟨rfl, rfl⟩
  | succ n ih =>
    intro h
    obtain ⟨h1, h2⟩ := ih (fun j a b => h j a (by omega))
    have hf := h (k + n) (by omega) (by omega)
    have hb := bsF_le f (k + n)
    rw [show k + (n + 1) = k + n + 1 by omega, bsF_s, amF_s, hf, if_neg (by omega)]
    exact ⟨by omega, h2⟩
theorem am_some {f : Nat → Nat} : ∀ {n j : Nat}, amF f n = some j → j < n ∧ f j = bsF f n ∧ ∀ i, i < j → ¬ f i = bsF f n := by
  intro n
  induction n with
  | zero => intro j h; cases h
  | succ n ih =>
    intro j h
    rw [amF_s] at h
    rw [bsF_s]
    split at h
    · rename_i hlt
      have e := Option.some.inj h
      subst e
      refine ⟨by omega, by omega, fun i hi => ?_⟩
      have : ∀ m, i < m → bsF f m ≤ f i := by
        intro m
        induction m with
        | zero => intro q; omega
        | succ m ihm =>
          intro q
          rw [bsF_s]
          by_cases e : i = m
          · rw [e]; omega
          · have := ihm (by omega); omega
      have := this n hi
      omega
    · rename_i hlt
      obtain ⟨a, b, c⟩ := ih h
      refine ⟨by omega, by omega, fun i hi => ?_⟩
      have := c i hi
      omega
theorem am_yes {f : Nat → Nat} {n : Nat} (h : bsF f n < 1000000) : ∃ j, amF f n = some j := by
  induction n with
  | zero => exact absurd h (by show ¬ 1000000 < 1000000; omega)
  | succ n ih =>
    rw [amF_s]
    split
    · exact ⟨n, rfl⟩
    · rw [bsF_s] at h
      exact ih (by omega)
theorem bs_b {f : Nat → Nat} {B : Nat} : ∀ {n : Nat}, (∀ k, k < n → f k = 1000000 ∨ f k ≤ B) → bsF f n = 1000000 ∨ bsF f n ≤ B := by
  intro n
  induction n with
  | zero => intro _; exact Or.inl rfl
  | succ n ih =>
    intro h
    have h1 := ih (fun k hk => h k (by omega))
    have h2 := h n (by omega)
    have h3 := bsF_le f n
    rw [bsF_s]
    omega
theorem bs_cong {f f' : Nat → Nat} : ∀ {n : Nat}, (∀ k, k < n → f k = f' k) → bsF f n = bsF f' n ∧ amF f n = amF f' n := by
  intro n
  induction n with
  | zero => intro _; exact ⟨rfl, rfl⟩
  | succ n ih =>
    intro h
    obtain ⟨h1, h2⟩ := ih (fun k hk => h k (by omega))
    rw [bsF_s, bsF_s, amF_s, amF_s, h1, h2, h n (by omega)]
    exact ⟨rfl, rfl⟩
/-- a line of a stuff, so many times, behind which the next lines cost nx of what room is left -/
def lbG (g : PGr) (pk : Int32) (nx : Nat → Nat) (r s t : Nat) : Nat := if t ≤ r ∧ pk ≤ nI (beS g s) * nI t then min 1000000 (coS g s * t + nx (r - t)) else 1000000
def fG (g : PGr) (pk : Int32) (nx : Nat → Nat) (r k : Nat) : Nat := lbG g pk nx r (k / 4) (1 + k % 4)
/-- the least cost of the last d lines within a room -/
def leG (g : PGr) (pk : Nat → Int32) : Nat → Nat → Nat
  | 0, _ => 0
  | d + 1, r => bsF (fG g (pk (nL g - (d + 1))) (leG g pk d) r) (4 * nS g)
def LB9 (nx : Nat → Nat) (B : Nat) : Prop := ∀ r, nx r = 1000000 ∨ nx r ≤ B
theorem coS_le {g : PGr} (hG : GK9 g) {s : Nat} (hs : s < nS g) : coS g s ≤ 999 := by
  have hs : s < g.1.length := hs
  have := (hG.2.1 _ (List.getElem_mem hs)).2.2
  unfold coS
  rw [List.getD_eq_getElem?_getD, List.getElem?_eq_getElem hs]
  exact this
theorem fG_b {g : PGr} {pk : Int32} {nx : Nat → Nat} {B r k : Nat} (hG : GK9 g) (h : LB9 nx B) (hB : B + 3996 < 1000000) (hk : k < 4 * nS g) : fG g pk nx r k = 1000000 ∨ fG g pk nx r k ≤ B + 3996 := by
  unfold fG lbG
  split
  · have hs : k / 4 < nS g := by omega
    have hc := coS_le hG hs
    have h4 : 1 + k % 4 ≤ 4 := by omega
    have hm : coS g (k / 4) * (1 + k % 4) ≤ 999 * 4 := Nat.mul_le_mul hc h4
    have := h (r - (1 + k % 4))
    omega
  · exact Or.inl rfl
theorem leG_b {g : PGr} {pk : Nat → Int32} (hG : GK9 g) : ∀ d, d ≤ 16 → LB9 (leG g pk d) (3996 * d) := by
  intro d
  induction d with
  | zero => intro _ r; exact Or.inr (Nat.le_refl 0)
  | succ d ih =>
    intro hd r
    have h := ih (by omega)
    show bsF _ (4 * nS g) = 1000000 ∨ bsF _ (4 * nS g) ≤ _
    refine (bs_b (B := 3996 * d + 3996) (fun k hk => fG_b hG h (by omega) hk)).imp id (fun q => by omega)
theorem leG_cong {g : PGr} {pk pk' : Nat → Int32} (h : ∀ l, l < nL g → pk l = pk' l) : ∀ d, d ≤ nL g → ∀ r, leG g pk d r = leG g pk' d r := by
  intro d
  induction d with
  | zero => intro _ r; rfl
  | succ d ih =>
    intro hd r
    have e : leG g pk d = leG g pk' d := funext (ih (by omega))
    show bsF (fG g (pk (nL g - (d + 1))) (leG g pk d) r) (4 * nS g) = bsF (fG g (pk' (nL g - (d + 1))) (leG g pk' d) r) (4 * nS g)
    rw [e, h _ (by omega)]
def enN (v : Nat) : Nat := if v = 1000000 then 1000000000 else v
theorem enN_b {v : Nat} (h : v ≤ 1000000) : enN v ≤ 1000000000 := by unfold enN; split <;> omega
/-- which stuff and twins -/
def amI : Option Nat → Int32 × Int32
  | none => (-1, 0)
  | some j => (nI (j / 4), nI (1 + j % 4))
section LC
variable {g : PGr} {be co lk : Nat → Int32} {lr : Nat → Nat → Int32}
theorem sq0_find {l r B : Nat} {u v : Int32} {nx : Nat → Nat} {Φ : Int32 → Int32 → Int32 → Prop} (hS : SA9 g.1 be co) (hG : GK9 g) (hl : l < 16) (hr : r ≤ 64) (hrow : ∀ q, q ≤ 64 → lr (l + 1) q = nI (enN (nx q))) (hb : LB9 nx B) (hB : B + 3996 < 1000000) (h : Φ (nI (enN (bsF (fG g (lk l) nx r) (4 * nS g)))) (amI (amF (fG g (lk l) nx r) (4 * nS g))).1 (amI (amF (fG g (lk l) nx r) (4 * nS g))).2) : wl_X0_find lk lr (nI (nS g)) be co (nI l) (nI r) u v Φ := by
  have h4 : nS g ≤ 4 := hG.1
  generalize hf : fG g (lk l) nx r = f at h
  have fk : ∀ i t, i < nS g → 1 ≤ t → t ≤ 4 → f (4 * i + (t - 1)) = lbG g (lk l) nx r i t := by
    intro i t _ h1 h2
    rw [← hf]
    unfold fG
    rw [show (4 * i + (t - 1)) / 4 = i by omega, show 1 + (4 * i + (t - 1)) % 4 = t by omega]
  have k31 : ∀ (κ : Int32 → Int32 → Int32 → Int32 → Prop) (i : Nat), i < nS g → κ (amI (amF f (4 * (i + 1)))).1 (amI (amF f (4 * (i + 1)))).2 (nI (enN (bsF f (4 * (i + 1))))) (nI (i + 1)) → ∀ (m t : Nat), 1 ≤ t → t ≤ 5 → ll_X0_find_31 lk lr (nI (nS g)) be co (nI l) (nI r) κ Φ m (amI (amF f (4 * i + (t - 1)))).1 (amI (amF f (4 * i + (t - 1)))).2 (nI (enN (bsF f (4 * i + (t - 1))))) (nI i) (nI t) := by
    intro κ i hi hκ m
    induction m with
    | zero => intros; trivial
    | succ m ih =>
      intro t ht1 ht5
      show bl_X0_find_31 _ _ _ _ _ _ _ _ _ _ _ _ _ _ _
      unfold bl_X0_find_31
      have q4 : (4 : Int32) < nI t ↔ 4 < t := nI_ltI (a := 4) (by decide) (by omega)
      obtain ⟨b1, b2⟩ := hS.beZ hi
      have hbk := bsF_le f (4 * i + (t - 1))
      rw [q4, nI_ltI (by omega) (by omega), nI_1]
      refine ⟨fun z => ?_, fun z => ⟨fun z2 => ?_, fun z2 => ?_⟩⟩
      · rw [show 4 * i + (t - 1) = 4 * (i + 1) by omega]
        exact hκ
      · obtain ⟨s1, s2⟩ := bs_skip (f := f) (k := 4 * i + (t - 1)) (5 - t) (fun j a b => by
          have := fk i (j - 4 * i + 1) hi (by omega) (by omega)
          rw [show 4 * i + (j - 4 * i + 1 - 1) = j by omega] at this
          rw [this]
          unfold lbG
          rw [if_neg (fun q => by omega)])
        rw [← s1, ← s2, show 4 * i + (t - 1) + (5 - t) = 4 * (i + 1) by omega]
        exact hκ
      · have hft := fk i t hi ht1 (by omega)
        have nxt := ih (t + 1) (by omega) (by omega)
        rw [show 4 * i + (t + 1 - 1) = 4 * i + (t - 1) + 1 by omega] at nxt
        rw [amF_s, bsF_s, hft] at nxt
        have hco := coS_le hG hi
        have hm : coS g i * t ≤ 999 * 4 := Nat.mul_le_mul hco (by omega)
        have hnb := hb (r - t)
        rw [pk_sub (show t ≤ r by omega), nI_clamp (n := i) (by omega), nI_clamp (n := l) (by omega), nI_1, nI_clamp (n := l + 1) (by omega), nI_clamp (n := r - t) (by omega), b1, b2, hrow _ (by omega), pk_mul (coS g i) t, nI_add, nI_1]
        refine fun _ _ _ _ _ => ⟨fun w => ?_, fun w => ?_⟩
        · -- too weak
          have e : lbG g (lk l) nx r i t = 1000000 := by
            unfold lbG
            rw [if_neg (fun q => Int32.not_le.mpr w q.2)]
          rw [e, if_neg (by omega), Nat.min_eq_left hbk] at nxt
          exact nxt
        · have e : lbG g (lk l) nx r i t = min 1000000 (coS g i * t + nx (r - t)) := by
            unfold lbG
            rw [if_pos ⟨by omega, Int32.not_lt.mp w⟩]
          rw [e] at nxt
          rcases hnb with hnb | hnb
          · have ee : enN (nx (r - t)) = 1000000000 := by unfold enN; rw [if_pos hnb]
            have hen := enN_b hbk
            rw [show min 1000000 (coS g i * t + nx (r - t)) = 1000000 by omega, if_neg (by omega), Nat.min_eq_left hbk] at nxt
            rw [ee, nI_leI (by omega) (by omega)]
            exact ⟨fun _ => nxt, fun q => absurd q (by omega)⟩
          · have ee : enN (nx (r - t)) = nx (r - t) := by unfold enN; rw [if_neg (by omega)]
            rw [show min 1000000 (coS g i * t + nx (r - t)) = coS g i * t + nx (r - t) by omega] at nxt
            have hen := enN_b hbk
            rw [ee, nI_leI (by omega) (by omega)]
            have q : enN (bsF f (4 * i + (t - 1))) ≤ coS g i * t + nx (r - t) ↔ bsF f (4 * i + (t - 1)) ≤ coS g i * t + nx (r - t) := by
              unfold enN
              split <;> omega
            rw [q]
            refine ⟨fun y => ?_, fun y => ?_⟩
            · rw [if_neg (by omega), Nat.min_eq_left (by omega)] at nxt
              exact nxt
            · rw [if_pos (by omega), Nat.min_eq_right (by omega)] at nxt
              have e1 : (4 * i + (t - 1)) / 4 = i := by omega
              have e2 : 1 + (4 * i + (t - 1)) % 4 = t := by omega
              have e3 : enN (coS g i * t + nx (r - t)) = coS g i * t + nx (r - t) := by unfold enN; rw [if_neg (by omega)]
              have nxt : ll_X0_find_31 lk lr (nI (nS g)) be co (nI l) (nI r) κ Φ m (nI ((4 * i + (t - 1)) / 4)) (nI (1 + (4 * i + (t - 1)) % 4)) (nI (enN (coS g i * t + nx (r - t)))) (nI i) (nI (t + 1)) := nxt
              rw [e1, e2, e3] at nxt
              exact nxt
  have k16 : ∀ (m i : Nat), i ≤ nS g → ll_X0_find_16 lk lr (nI (nS g)) be co (nI l) (nI r) Φ m (amI (amF f (4 * i))).1 (amI (amF f (4 * i))).2 (nI (enN (bsF f (4 * i)))) (nI i) := by
    intro m
    induction m with
    | zero => intros; trivial
    | succ m ih =>
      intro i hi
      show bl_X0_find_16 _ _ _ _ _ _ _ _ _ _ _ _ _
      unfold bl_X0_find_16
      rw [nI_leI (by omega) (by omega)]
      refine ⟨fun z => ?_, fun z n_ => ?_⟩
      · have e : i = nS g := by omega
        subst e
        exact h
      · have := k31 _ i (by omega) (ih (i + 1) (by omega)) n_ 1 (by decide) (by decide)
        exact this
  exact fun m => k16 m 0 (Nat.zero_le _)
/-- the class's table -/
def TB9 (g : PGr) (pk : Nat → Int32) (lr : Nat → Nat → Int32) (l0 : Nat) : Prop := ∀ l, l0 ≤ l → l ≤ nL g → ∀ r, r ≤ 64 → lr l r = nI (enN (leG g pk (nL g - l) r))
theorem leG_s {pk : Nat → Int32} {l r : Nat} (hl : l < nL g) : leG g pk (nL g - l) r = bsF (fG g (pk l) (leG g pk (nL g - (l + 1))) r) (4 * nS g) := by
  rw [show nL g - l = nL g - (l + 1) + 1 by omega]
  show bsF (fG g (pk (nL g - (nL g - (l + 1) + 1))) (leG g pk (nL g - (l + 1))) r) (4 * nS g) = _
  rw [show nL g - (nL g - (l + 1) + 1) = l by omega]
theorem sq0_make {ap : Nat → Int32} {pg lp : Nat} {u v : Int32} {Φ : Nat → Int32 → Int32 → (Nat → Int32) → (Nat → Nat → Int32) → Prop} (hS : SA9 g.1 be co) (hG : GK9 g) (h : ∀ u v lk lr, AGn 16 ap lk → TB9 g ap lr 0 → Φ pg u v lk lr) : wl_X0_make ap (nI (nS g)) (nI (nL g)) be co pg lp u v lk lr Φ := by
  have h16 : nL g ≤ 16 := hG.2.2.2.2.2.2.2.2.1
  unfold wl_X0_make
  rw [nI_clamp (n := nL g) (by omega)]
  intro _
  have hlk : AGn 16 ap (va_cpy ap lk 0 0 16) := fun j hj => by rw [pk_cpy_in (Nat.zero_le _) (by omega), show 0 + (j - 0) = j by omega]
  generalize va_cpy ap lk 0 0 16 = lk' at hlk
  refine sq_fill (rl := 65) (by decide) (fun ar h0 _ => ?_)
  have k50 : ∀ (κ : Nat → Int32 → Int32 → (Nat → Int32) → (Nat → Nat → Int32) → Int32 → Prop) (l : Nat), l < nL g → (∀ u v lr, TB9 g ap lr l → κ pg u v lk' lr (nI l + (-1))) → ∀ (m r : Nat) (u v : Int32) (lr : Nat → Nat → Int32), r ≤ 65 → TB9 g ap lr (l + 1) → (∀ q, q < r → lr l q = nI (enN (leG g ap (nL g - l) q))) → ll_X0_make_50 ap (nI (nS g)) (nI (nL g)) be co pg κ Φ m pg u v lk' lr (nI l) (nI r) := by
    intro κ l hl hκ m
    induction m with
    | zero => intros; trivial
    | succ m ih =>
      intro r u v lr hr ht hq
      show bl_X0_make_50 _ _ _ _ _ _ _ _ _ _ _ _ _ _ _ _
      unfold bl_X0_make_50
      have q64 : (64 : Int32) < nI r ↔ 64 < r := nI_ltI (a := 64) (by decide) (by omega)
      rw [q64, nI_1]
      refine ⟨fun z => hκ u v lr (fun l' a b q hq' => ?_), fun z _ _ => ?_⟩
      · by_cases e : l' = l
        · subst e; exact hq q (by omega)
        · exact ht l' (by omega) b q hq'
      · refine sq0_find (B := 3996 * (nL g - (l + 1))) hS hG (by omega) (by omega) (fun q hq' => ht (l + 1) (Nat.le_refl _) (by omega) q hq') (leG_b hG _ (by omega)) (by omega) (fun _ => ?_)
        rw [nI_clamp (n := l) (by omega), nI_clamp (n := r) (by omega), hlk l (by omega), ← leG_s hl]
        refine ih (r + 1) _ _ _ (by omega) (fun l' a b q hq' => ?_) (fun q hq' => ?_)
        · unfold updR
          rw [if_neg (by omega)]
          exact ht l' a b q hq'
        · unfold updR
          rw [if_pos rfl]
          by_cases e : q = r
          · rw [e, pk_us]
          · rw [pk_un e]; exact hq q (by omega)
  have k43 : ∀ (m l : Nat) (u v : Int32) (lr : Nat → Nat → Int32), l ≤ nL g → TB9 g ap lr l → ll_X0_make_43 ap (nI (nS g)) (nI (nL g)) be co pg Φ m pg u v lk' lr (nI l + (-1)) := by
    intro m
    induction m with
    | zero => intros; trivial
    | succ m ih =>
      intro l u v lr hl ht
      show bl_X0_make_43 _ _ _ _ _ _ _ _ _ _ _ _ _ _
      unfold bl_X0_make_43
      cases l with
      | zero => exact ⟨fun _ => h _ _ _ _ hlk ht, fun z => absurd (by decide) z⟩
      | succ l =>
        rw [pk_m1]
        exact ⟨fun z => absurd z (nI_pos (by omega)), fun _ n_ => k50 _ l (by omega) (fun u v lr ht' => ih l u v lr (by omega) ht') n_ 0 u v lr (by decide) ht (fun q hq => absurd hq (Nat.not_lt_zero _))⟩
  intro n_
  have e1 : nI (nL g) - 1 = nI (nL g) + (-1) := Int32.sub_eq_add_neg _ _
  rw [e1]
  refine k43 n_ (nL g) u v _ (Nat.le_refl _) (fun l a b r hr => ?_)
  have e : l = nL g := by omega
  subst e
  unfold updR
  rw [if_pos rfl, h0 r (by omega), Nat.sub_self]
  rfl
theorem sq0_leastCost {pk : Nat → Int32} {r : Nat} {Φ : Int32 → Prop} (hG : GK9 g) (ht : TB9 g pk lr 0) (hr : r ≤ 64) (h : Φ (if leG g pk (nL g) r < 1000000 then nI (leG g pk (nL g) r) else -1)) : wl_X0_leastCost lr (nI r) Φ := by
  have h16 : nL g ≤ 16 := hG.2.2.2.2.2.2.2.2.1
  have hb := leG_b (pk := pk) hG (nL g) h16 r
  have e := ht 0 (Nat.le_refl _) (Nat.zero_le _) r hr
  rw [Nat.sub_zero] at e
  unfold wl_X0_leastCost
  rw [nI_clamp (n := r) (by omega), e]
  have q9 : (1000000000 : Int32) ≤ nI (enN (leG g pk (nL g) r)) ↔ 1000000000 ≤ enN (leG g pk (nL g) r) := nI_leI (a := 1000000000) (by decide) (by have := enN_b (v := leG g pk (nL g) r) (by omega); omega)
  rw [q9]
  unfold enN
  by_cases z : leG g pk (nL g) r = 1000000
  · rw [if_pos z]
    rw [if_neg (by omega)] at h
    exact fun _ => ⟨fun _ => h, fun q => absurd (Nat.le_refl _) q⟩
  · rw [if_neg z]
    rw [if_pos (by omega)] at h
    exact fun _ => ⟨fun q => by omega, fun _ _ => h⟩
/-- the stuff and twins of the line, and what room is left behind it -/
def lsG (g : PGr) (pk : Nat → Int32) (room : Nat) : Nat → Nat × Option Nat
  | 0 => (room, amF (fG g (pk 0) (leG g pk (nL g - 1)) room) (4 * nS g))
  | l + 1 => ((lsG g pk room l).1 - (1 + ((lsG g pk room l).2.getD 0) % 4), amF (fG g (pk (l + 1)) (leG g pk (nL g - (l + 2))) ((lsG g pk room l).1 - (1 + ((lsG g pk room l).2.getD 0) % 4))) (4 * nS g))
theorem lsG_2 {pk : Nat → Int32} {room : Nat} : ∀ l, (lsG g pk room l).2 = amF (fG g (pk l) (leG g pk (nL g - (l + 1))) (lsG g pk room l).1) (4 * nS g)
  | 0 => rfl
  | _ + 1 => rfl
theorem lsG_s {pk : Nat → Int32} {room l : Nat} : (lsG g pk room (l + 1)).1 = (lsG g pk room l).1 - (1 + ((lsG g pk room l).2.getD 0) % 4) := rfl
/-- each line is laid, within the room -/
theorem lsG_ok {pk : Nat → Int32} {room : Nat} (hG : GK9 g) (h : leG g pk (nL g) room < 1000000) : ∀ l, l < nL g → leG g pk (nL g - l) (lsG g pk room l).1 < 1000000 ∧ (lsG g pk room l).1 ≤ room ∧ ∃ j, (lsG g pk room l).2 = some j ∧ j < 4 * nS g ∧ 1 + j % 4 ≤ (lsG g pk room l).1 ∧ leG g pk (nL g - (l + 1)) ((lsG g pk room l).1 - (1 + j % 4)) < 1000000 := by
  have one : ∀ l, l < nL g → leG g pk (nL g - l) (lsG g pk room l).1 < 1000000 → ∃ j, (lsG g pk room l).2 = some j ∧ j < 4 * nS g ∧ 1 + j % 4 ≤ (lsG g pk room l).1 ∧ leG g pk (nL g - (l + 1)) ((lsG g pk room l).1 - (1 + j % 4)) < 1000000 := by
    intro l hl hlt
    rw [leG_s hl] at hlt
    obtain ⟨j, hj⟩ := am_yes hlt
    obtain ⟨a, b, _⟩ := am_some hj
    refine ⟨j, (lsG_2 l).trans hj, a, ?_⟩
    rw [← b] at hlt
    unfold fG lbG at hlt
    split at hlt
    · rename_i q
      exact ⟨q.1, by omega⟩
    · omega
  intro l
  induction l with
  | zero =>
    intro hl
    have e : leG g pk (nL g - 0) (lsG g pk room 0).1 < 1000000 := h
    exact ⟨e, Nat.le_refl _, one 0 hl e⟩
  | succ l ih =>
    intro hl
    obtain ⟨_, hr, j, e1, e2, e3, e4⟩ := ih (by omega)
    have es : (lsG g pk room (l + 1)).1 = (lsG g pk room l).1 - (1 + j % 4) := by rw [lsG_s, e1]; rfl
    have e : leG g pk (nL g - (l + 1)) (lsG g pk room (l + 1)).1 < 1000000 := by rw [es]; exact e4
    exact ⟨e, by omega, one (l + 1) hl e⟩
theorem sq0_choose {pk : Nat → Int32} {room l : Nat} {u v : Int32} {Φ : Int32 → Int32 → Prop} (hS : SA9 g.1 be co) (hG : GK9 g) (hlk : AGn (nL g) pk lk) (ht : TB9 g pk lr 0) (hr : room ≤ 64) (hl : l < nL g) (hok : leG g pk (nL g) room < 1000000) (h : Φ (amI (lsG g pk room l).2).1 (amI (lsG g pk room l).2).2) : wl_X0_choose lk lr (nI (nS g)) be co (nI room) (nI l) u v Φ := by
  have h16 : nL g ≤ 16 := hG.2.2.2.2.2.2.2.2.1
  have key : ∀ (m i : Nat), 1 ≤ i → i ≤ l + 1 → ll_X0_choose_5 lk lr (nI (nS g)) be co (nI room) (nI l) Φ m (amI (lsG g pk room (i - 1)).2).1 (amI (lsG g pk room (i - 1)).2).2 (nI (lsG g pk room (i - 1)).1 - (amI (lsG g pk room (i - 1)).2).2) (nI i) := by
    intro m
    induction m with
    | zero => intros; trivial
    | succ m ih =>
      intro i hi1 hi
      obtain ⟨a1, a2, j, a3, a4, a5, a6⟩ := lsG_ok hG hok (i - 1) (by omega)
      have enx := ih (i + 1) (by omega)
      rw [show i + 1 - 1 = i by omega] at enx
      show bl_X0_choose_5 _ _ _ _ _ _ _ _ _ _ _ _ _
      unfold bl_X0_choose_5
      rw [nI_ltI (by omega) (by omega)]
      refine ⟨fun z => ?_, fun z => ?_⟩
      · have e : i - 1 = l := by omega
        rw [e]
        exact h
      · obtain ⟨b1, b2, j', b3, b4, b5, b6⟩ := lsG_ok hG hok i (by omega)
        have es : (lsG g pk room i).1 = (lsG g pk room (i - 1)).1 - (1 + j % 4) := by
          have := lsG_s (g := g) (pk := pk) (room := room) (l := i - 1)
          rw [show i - 1 + 1 = i by omega, a3] at this
          exact this
        have e2 : (amI (lsG g pk room (i - 1)).2).2 = nI (1 + j % 4) := by rw [a3]; rfl
        rw [e2, pk_sub a5, ← es]
        refine ⟨fun q => absurd q (nI_pos (by omega)), fun _ => ?_⟩
        refine sq0_find (B := 3996 * (nL g - (i + 1))) hS hG (by omega) (by omega) (fun q hq' => ht (i + 1) (Nat.zero_le _) (by omega) q hq') (leG_b hG _ (by omega)) (by omega) ?_
        rw [hlk i (by omega), ← lsG_2 i, nI_1]
        exact enx (by omega)
  intro m
  cases m with
  | zero => trivial
  | succ m =>
    show bl_X0_choose_5 _ _ _ _ _ _ _ _ _ _ _ _ _
    unfold bl_X0_choose_5
    refine ⟨fun z => absurd z (nI_pos (by omega)), fun _ => ⟨fun q => absurd q (nI_pos (by omega)), fun _ => ?_⟩⟩
    refine sq0_find (l := 0) (r := room) (B := 3996 * (nL g - 1)) hS hG (by decide) hr (fun q hq' => ht 1 (Nat.zero_le _) (by omega) q hq') (leG_b hG _ (by omega)) (by omega) ?_
    rw [hlk 0 (by omega)]
    have e0 : amF (fG g (pk 0) (leG g pk (nL g - 1)) room) (4 * nS g) = (lsG g pk room 0).2 := rfl
    rw [e0]
    exact key m 1 (by decide) (by omega)
end LC
end
section
/-- peak, by all inputs -/
def pkG (g : PGr) : Nat → Int32 := (svF (sgN 1000 g) (inN g)).2.2
theorem pkG_eq {g : PGr} : pkG g = (svF (sgN 1000 g) (inN g)).2.2 := rfl
def f_most (m : MS) (x y : Int32) : Int32 := match ixO x (nL m.1) with
  | none => -1
  | some l => if alG m.1 (inN m.1) = true then (if y = 0 then nI ((svF (sgN 1000 m.1) (inN m.1)).1 l) else if y = 1 then nI ((svF (sgN 1000 m.1) (inN m.1)).2.1 l) else if y = 2 then pkG m.1 l else -1) else -1
def nvG (of : Nat → Nat) : Nat → Int32
  | 0 => 0
  | l + 1 => if of l = 0 then nvG of l ||| ((1 : Int32) <<< (nI l &&& 31)) else nvG of l
def f_never (m : MS) : Int32 := if 0 < nL m.1 ∧ alG m.1 (inN m.1) = true then nvG (svF (sgN 1000 m.1) (inN m.1)).1 (nL m.1) else -1
/-- a room within which all can be laid so that it lasts -/
def lsO (g : PGr) (x : Int32) : Option Nat := match ixO x 65 with
  | none => none
  | some r => if ¬ r = 0 ∧ 0 < nL g ∧ alG g (inN g) = true ∧ leG g (pkG g) (nL g) r < 1000000 then some r else none
def f_lasting (m : MS) (x : Int32) : Int32 := match lsO m.1 x with
  | none => -1
  | some r => nI (leG m.1 (pkG m.1) (nL m.1) r)
def f_lasts (m : MS) (x y z : Int32) : Int32 := match lsO m.1 x, ixO y (nL m.1) with
  | some r, some l => if z = 0 then (amI (lsG m.1 (pkG m.1) r l).2).1 else if z = 1 then (amI (lsG m.1 (pkG m.1) r l).2).2 else -1
  | _, _ => -1
/-- what was surveyed and laid out is the programme's own -/
def SRg (g : PGr) (pg : Nat) (sn : Int32) (of by_ pk : Nat → Int32) (lp : Nat) (lk : Nat → Int32) (lr : Nat → Nat → Int32) : Prop := (sn = 0 ↔ alG g (inN g) = true) ∧ (sn = 0 → SVc g (inN g) of by_ pk ∧ lp = pg ∧ AGn (nL g) (pkG g) lk ∧ TB9 g (pkG g) lr 0)
abbrev KTy : Type := Option Nat → Int32 → (Nat → Int32) → (Nat → Int32) → (Nat → Int32) → Nat → (Nat → Int32) → (Nat → Nat → Int32) → Prop
/-- an invariant of the caches: of the programme at pg it says what is true of g -/
def KOK (K : KTy) (g : PGr) (pg : Nat) : Prop := ∀ sn of by_ pk lp lk lr, K (some pg) sn of by_ pk lp lk lr ↔ SRg g pg sn of by_ pk lp lk lr
section SC
variable {m : MS} {K : KTy} {cl pg wp lp : Nat} {pst pce pgi pln : Int32} {be co to gc le gr ac sq tg fr mi en cd : Nat → Int32} {st tw : Nat → Int32} {ww ws wn wa wb sn lu lt : Int32} {wst wtw wwo wce wke wsk so2 sb sp sv lk : Nat → Int32} {sf : Option Nat} {lr : Nat → Nat → Int32}
def CVq (K : KTy) (r : Int32) (Φ : PSv) : Prop := ∀ (wp : Nat) (ww ws wn wa wb : Int32) (wst wtw wwo wce wke wsk : Nat → Int32) (sf : Option Nat) (sn : Int32) (so2 sb sp sv : Nat → Int32) (lp : Nat) (lu lt : Int32) (lk : Nat → Int32) (lr : Nat → Nat → Int32), K sf sn so2 sb sp lp lk lr → Φ r wp ww ws wn wa wb wst wtw wwo wce wke wsk sf sn so2 sb sp sv lp lu lt lk lr
theorem sq7_surveyed {Φ : PSv} (hQ : PQ9 m.1 pst pce pgi pln be co to gc le gr ac sq tg fr mi en cl cd) (hO : MO9 m) (hc : CLs m.1 m.2.1 m.2.2.1 st tw) (hK : K sf sn so2 sb sp lp lk lr) (hKK : KOK K m.1 pg)
    (h0 : ¬ (0 < nL m.1 ∧ alG m.1 (inN m.1) = true) → CVq K 0 Φ)
    (h1 : 0 < nL m.1 → alG m.1 (inN m.1) = true → ∀ wp ww ws wn wa wb wst wtw wwo wce wke wsk sn so2 sb sp sv lp lu lt lk lr, K (some pg) sn so2 sb sp lp lk lr → SRg m.1 pg sn so2 sb sp lp lk lr → Φ 1 wp ww ws wn wa wb wst wtw wwo wce wke wsk (some pg) sn so2 sb sp sv lp lu lt lk lr) : wl_X7_surveyed st tw pst pce pgi pln be co to gc le gr ac tg fr mi en cd cl pg wp ww ws wn wa wb wst wtw wwo wce wke wsk sf sn so2 sb sp sv lp lu lt lk lr Φ := by
  have hQ' := hQ
  obtain ⟨q1, q2, q3, q4, q5, q6, q7, q8, q9, ⟨i1, i2, i3, i4⟩, q11, q12, q13, q14⟩ := hQ
  have h16 : nL m.1 ≤ 16 := q3
  have eln : pln = nI (nL m.1) := q7
  have est : pst = nI (nS m.1) := q4
  have h64 := inN_64 hO.1
  have qln : pln = 0 ↔ nL m.1 = 0 := by rw [eln]; exact nI_eq (b := 0) (by omega) (by decide)
  unfold wl_X7_surveyed
  rw [qln]
  refine ⟨fun z => ⟨fun esf => ?_, fun _ => ?_⟩, fun z => h0 (fun q => by omega) _ _ _ _ _ _ _ _ _ _ _ _ _ _ _ _ _ _ _ _ _ _ _ hK⟩
  · subst esf
    have hr := (hKK _ _ _ _ _ _ _).mp hK
    refine ⟨fun y => h0 (fun q => y (hr.1.mpr q.2)) _ _ _ _ _ _ _ _ _ _ _ _ _ _ _ _ _ _ _ _ _ _ _ hK, fun y => h1 (by omega) (hr.1.mp y) _ _ _ _ _ _ _ _ _ _ _ _ _ _ _ _ _ _ _ _ _ _ hK hr⟩
  · have hn : 0 < nL m.1 := by omega
    unfold wl_X4_open
    refine sq_fill (rl := 16) (by decide) (fun a1 z1 _ => sq_fill (rl := 16) (by decide) (fun a2 z2 _ => sq_fill (rl := 16) (by decide) (fun a3 z3 _ => ?_)))
    unfold wl_X1_layLike
    refine sq_fill (rl := 16) (by decide) (fun wo' hwo _ => ?_)
    have hc' := hc.cpy (os := wst) (ot := wtw) h16
    generalize va_cpy st wst 0 0 16 = st' at hc'
    generalize va_cpy tw wtw 0 0 16 = tw' at hc'
    -- all inputs are through
    have k103 : ∀ (ww ws wn wa wb : Int32) (wwo wce wke wsk : Nat → Int32) (sn : Int32) (so2 sb sp sv : Nat → Int32), (sn = 0 ↔ alG m.1 (inN m.1) = true) → (sn = 0 → SVc m.1 (inN m.1) so2 sb sp) → kl_X7_surveyed_103 st tw pst pce pgi pln be co to gc le gr ac tg fr mi en cd cl pg Φ pg ww ws wn wa wb st' tw' wwo wce wke wsk (some pg) sn so2 sb sp sv lp lu lt lk lr := by
      intro ww ws wn wa wb wwo wce wke wsk sn so2 sb sp sv e1 e2
      unfold kl_X7_surveyed_103
      rw [est, eln]
      refine sq0_make q8 hO.1 (fun u' v' lk' lr' hlk htb => ?_)
      have hsr : SRg m.1 pg sn so2 sb sp pg lk' lr' := by
        refine ⟨e1, fun z => ⟨e2 z, rfl, fun j hj => ?_, fun l a b r hr => ?_⟩⟩
        · rw [hlk j (by omega), (e2 z).2 j (by omega), pkG_eq]
        · rw [htb l a b r hr, leG_cong (pk' := pkG m.1) (fun j hj => by rw [(e2 z).2 j (by omega), pkG_eq]) _ (by omega)]
      have hk' := (hKK _ _ _ _ _ _ _).mpr hsr
      exact ⟨fun y => h0 (fun q => y (e1.mpr q.2)) _ _ _ _ _ _ _ _ _ _ _ _ _ _ _ _ _ _ _ _ _ _ _ hk', fun y => h1 hn (e1.mp y) _ _ _ _ _ _ _ _ _ _ _ _ _ _ _ _ _ _ _ _ _ _ hk' hsr⟩
    have key : ∀ (f i : Nat) (ww ws wn wa wb : Int32) (wwo wce wke wsk : Nat → Int32) (sn : Int32) (so2 sb sp sv : Nat → Int32), i ≤ inN m.1 → (sn = 0 ↔ alG m.1 i = true) → (sn = 0 → SVc m.1 i so2 sb sp) → ll_X7_surveyed_70 st tw pst pce pgi pln be co to gc le gr ac tg fr mi en cd cl pg Φ f pg ww ws wn wa wb st' tw' wwo wce wke wsk (some pg) sn so2 sb sp sv lp lu lt lk lr (nI (inN m.1)) (nI i) := by
      intro f
      induction f with
      | zero => intros; trivial
      | succ f ih =>
        intro i ww ws wn wa wb wwo wce wke wsk sn so2 sb sp sv hi e1 e2
        show bl_X7_surveyed_70 _ _ _ _ _ _ _ _ _ _ _ _ _ _ _ _ _ _ _ _ _ _ _ _ _ _ _ _ _ _ _ _ _ _ _ _ _ _ _ _ _ _ _ _ _ _ _
        unfold bl_X7_surveyed_70
        rw [nI_leI (by omega) (by omega), nI_1]
        refine ⟨fun y => ?_, fun y => ⟨fun y2 => ?_, fun y2 _ => ?_⟩⟩
        · have e : i = inN m.1 := by omega
          subst e
          exact k103 _ _ _ _ _ _ _ _ _ _ _ _ _ _ e1 e2
        · exact k103 _ _ _ _ _ _ _ _ _ _ _ _ _ _ ⟨fun q => absurd q y2, fun q => absurd (e1.mpr (alG_le hi q)) y2⟩ (fun q => absurd q y2)
        · refine sq4_add hQ' hO.1 hO.2.1 hc' hn (by omega) (e2 y2) (fun sn' so2' sb' sp' sv' ww' ws' wn' wa' wb' wwo' wce' wke' wsk' g1 g2 => ?_)
          refine ih (i + 1) _ _ _ _ _ _ _ _ _ _ _ _ _ _ (by omega) ?_ (fun _ => g2)
          rw [g1, alG_s]
          exact ⟨fun q => ⟨e1.mp y2, q⟩, fun q => q.2⟩
    rw [q6]
    refine sq2_icount i1 ?_
    rw [← q6]
    exact fun f => key f 0 _ _ _ _ _ _ _ _ _ _ _ _ _ _ (Nat.zero_le _) ⟨fun _ => rfl, fun _ => rfl⟩ (fun _ => ⟨fun l hl => ⟨z1 l (by omega), z2 l (by omega)⟩, fun l hl => z3 l hl⟩)
theorem sq7_most {x y : Int32} {Φ : PSv} (hQ : PQ9 m.1 pst pce pgi pln be co to gc le gr ac sq tg fr mi en cl cd) (hO : MO9 m) (hc : CLs m.1 m.2.1 m.2.2.1 st tw) (hK : K sf sn so2 sb sp lp lk lr) (hKK : KOK K m.1 pg) (h : CVq K (f_most m x y) Φ) : wl_X7_most st tw pst pce pgi pln be co to gc le gr ac tg fr mi en cd cl pg x y wp ww ws wn wa wb wst wtw wwo wce wke wsk sf sn so2 sb sp sv lp lu lt lk lr Φ := by
  have h16 : nL m.1 ≤ 16 := hQ.2.2.1
  have eln : pln = nI (nL m.1) := hQ.2.2.2.2.2.2.1
  unfold wl_X7_most
  unfold f_most at h
  rw [eln]
  refine sq7_wi (by omega) (fun e => ⟨fun _ => by rw [e] at h; exact h _ _ _ _ _ _ _ _ _ _ _ _ _ _ _ _ _ _ _ _ _ _ _ hK, fun z => absurd rfl z⟩) (fun l hl ex e => ⟨fun z => absurd z (by decide), fun _ => ?_⟩)
  rw [e] at h
  rw [← eln]
  refine sq7_surveyed hQ hO hc hK hKK (fun q => ?_) (fun _ ha wp ww ws wn wa wb wst wtw wwo wce wke wsk sn so2 sb sp sv lp lu lt lk lr hK' hS => ⟨fun _ => ?_, fun z => absurd z (by decide)⟩)
  · intro wp ww ws wn wa wb wst wtw wwo wce wke wsk sf sn so2 sb sp sv lp lu lt lk lr hK'
    have h : CVq K (if alG m.1 (inN m.1) = true then _ else -1) Φ := h
    rw [if_neg (fun z => q ⟨by omega, z⟩)] at h
    exact ⟨fun z => absurd rfl z, fun _ => h _ _ _ _ _ _ _ _ _ _ _ _ _ _ _ _ _ _ _ _ _ _ _ hK'⟩
  · have h : CVq K (if alG m.1 (inN m.1) = true then (if y = 0 then nI ((svF (sgN 1000 m.1) (inN m.1)).1 l) else if y = 1 then nI ((svF (sgN 1000 m.1) (inN m.1)).2.1 l) else if y = 2 then pkG m.1 l else -1) else -1) Φ := h
    rw [if_pos ha] at h
    obtain ⟨hsv, _⟩ := hS.2 (hS.1.mpr ha)
    obtain ⟨v1, v2⟩ := hsv.1 l hl
    rw [ex, nI_clamp (n := l) (by omega), v1, v2, hsv.2 l (by omega), ← pkG_eq]
    refine ⟨fun z _ => ?_, fun z _ => ?_, fun z _ => ?_, fun z => ?_⟩
    · rw [if_pos z] at h; exact h _ _ _ _ _ _ _ _ _ _ _ _ _ _ _ _ _ _ _ _ _ _ _ hK'
    · rw [if_neg (by rw [z]; decide), if_pos z] at h; exact h _ _ _ _ _ _ _ _ _ _ _ _ _ _ _ _ _ _ _ _ _ _ _ hK'
    · rw [if_neg (by rw [z]; decide), if_neg (by rw [z]; decide), if_pos z] at h; exact h _ _ _ _ _ _ _ _ _ _ _ _ _ _ _ _ _ _ _ _ _ _ _ hK'
    · have q := fun i hi => wh_ne (n := 2) z (j := i) hi (by decide)
      rw [if_neg (show ¬ y = 0 from q 0 (by decide)), if_neg (show ¬ y = 1 from q 1 (by decide)), if_neg (show ¬ y = 2 from q 2 (by decide))] at h
      exact h _ _ _ _ _ _ _ _ _ _ _ _ _ _ _ _ _ _ _ _ _ _ _ hK'
theorem sq7_never {Φ : PSv} (hQ : PQ9 m.1 pst pce pgi pln be co to gc le gr ac sq tg fr mi en cl cd) (hO : MO9 m) (hc : CLs m.1 m.2.1 m.2.2.1 st tw) (hK : K sf sn so2 sb sp lp lk lr) (hKK : KOK K m.1 pg) (h : CVq K (f_never m) Φ) : wl_X7_never st tw pst pce pgi pln be co to gc le gr ac tg fr mi en cd cl pg wp ww ws wn wa wb wst wtw wwo wce wke wsk sf sn so2 sb sp sv lp lu lt lk lr Φ := by
  have h16 : nL m.1 ≤ 16 := hQ.2.2.1
  have eln : pln = nI (nL m.1) := hQ.2.2.2.2.2.2.1
  unfold wl_X7_never
  unfold f_never at h
  refine sq7_surveyed hQ hO hc hK hKK (fun q => ?_) (fun hn ha wp ww ws wn wa wb wst wtw wwo wce wke wsk sn so2 sb sp sv lp lu lt lk lr hK' hS => ⟨fun _ => ?_, fun z => absurd z (by decide)⟩)
  · intro wp ww ws wn wa wb wst wtw wwo wce wke wsk sf sn so2 sb sp sv lp lu lt lk lr hK'
    rw [if_neg q] at h
    exact ⟨fun z => absurd rfl z, fun _ => h _ _ _ _ _ _ _ _ _ _ _ _ _ _ _ _ _ _ _ _ _ _ _ hK'⟩
  · rw [if_pos ⟨hn, ha⟩] at h
    obtain ⟨hsv, _⟩ := hS.2 (hS.1.mpr ha)
    have hg := fun l => (sv_gone (g := m.1) (inN m.1) l).1
    generalize hsf : (svF (sgN 1000 m.1) (inN m.1)).1 = ofn at h hg
    have hv : ∀ l, l < nL m.1 → so2 l = nI (ofn l) := fun l hl => by rw [← hsf]; exact (hsv.1 l hl).1
    have key : ∀ (f l : Nat), l ≤ nL m.1 → ll_X7_never_13 st tw pst pce pgi pln be co to gc le gr ac tg fr mi en cd cl pg Φ f wp ww ws wn wa wb wst wtw wwo wce wke wsk (some pg) sn so2 sb sp sv lp lu lt lk lr (nvG ofn l) (nI l) := by
      intro f
      induction f with
      | zero => intros; trivial
      | succ f ih =>
        intro l hl
        show bl_X7_never_13 _ _ _ _ _ _ _ _ _ _ _ _ _ _ _ _ _ _ _ _ _ _ _ _ _ _ _ _ _ _ _ _ _ _ _ _ _ _ _ _ _ _ _ _ _ _ _
        unfold bl_X7_never_13
        rw [eln, nI_leI (by omega) (by omega), ← eln, nI_clamp (n := l) (by omega), nI_1]
        refine ⟨fun z => ?_, fun z _ => ?_⟩
        · have e : l = nL m.1 := by omega
          subst e
          exact h _ _ _ _ _ _ _ _ _ _ _ _ _ _ _ _ _ _ _ _ _ _ _ hK'
        · have hl1 : l < nL m.1 := by omega
          have hgl := hg l
          have q0 : nI (ofn l) = 0 ↔ ofn l = 0 := nI_eq (b := 0) (by omega) (by decide)
          have es : nvG ofn (l + 1) = if ofn l = 0 then nvG ofn l ||| ((1 : Int32) <<< (nI l &&& 31)) else nvG ofn l := rfl
          have nx := ih (l + 1) (by omega)
          rw [hv l hl1, q0]
          refine ⟨fun y => ?_, fun y => ?_⟩
          · rw [es, if_neg y] at nx; exact nx
          · rw [es, if_pos y] at nx; exact nx
    exact fun f => key f 0 (Nat.zero_le _)
theorem sq7_canLast {x : Int32} {Φ : PSv} (hQ : PQ9 m.1 pst pce pgi pln be co to gc le gr ac sq tg fr mi en cl cd) (hO : MO9 m) (hc : CLs m.1 m.2.1 m.2.2.1 st tw) (hK : K sf sn so2 sb sp lp lk lr) (hKK : KOK K m.1 pg)
    (h0 : lsO m.1 x = none → CVq K 0 Φ)
    (h1 : ∀ r, lsO m.1 x = some r → x = nI r → r ≤ 64 → 0 < nL m.1 → leG m.1 (pkG m.1) (nL m.1) r < 1000000 → ∀ wp ww ws wn wa wb wst wtw wwo wce wke wsk sn so2 sb sp sv lp lu lt lk lr, K (some pg) sn so2 sb sp lp lk lr → lp = pg → AGn (nL m.1) (pkG m.1) lk → TB9 m.1 (pkG m.1) lr 0 → Φ 1 wp ww ws wn wa wb wst wtw wwo wce wke wsk (some pg) sn so2 sb sp sv lp lu lt lk lr) : wl_X7_canLast st tw pst pce pgi pln be co to gc le gr ac tg fr mi en cd cl pg x wp ww ws wn wa wb wst wtw wwo wce wke wsk sf sn so2 sb sp sv lp lu lt lk lr Φ := by
  unfold wl_X7_canLast
  refine ⟨fun z => h0 ?_ _ _ _ _ _ _ _ _ _ _ _ _ _ _ _ _ _ _ _ _ _ _ _ hK, fun z => ⟨fun z2 => h0 ?_ _ _ _ _ _ _ _ _ _ _ _ _ _ _ _ _ _ _ _ _ _ _ _ hK, fun z2 => ?_⟩⟩
  · unfold lsO
    cases e : ixO x 65 with
    | none => rfl
    | some r =>
      obtain ⟨h65, ex⟩ := ixO_some (by decide) e
      rw [ex] at z
      have : r < 1 := (nI_ltI (b := 1) (by omega) (by decide)).mp z
      exact if_neg (fun q => q.1 (by omega))
  · unfold lsO
    cases e : ixO x 65 with
    | none => rfl
    | some r =>
      obtain ⟨h65, ex⟩ := ixO_some (by decide) e
      rw [ex] at z2
      have : 64 < r := (nI_ltI (a := 64) (by decide) (by omega)).mp z2
      omega
  · obtain ⟨r, hr, ex⟩ := nI_of2 (M := 64) (n := 64) (by decide) (fun q3 => z (Int32.lt_of_lt_of_le q3 (by decide))) (Int32.not_lt.mp z2)
    have r0 : ¬ r = 0 := fun e => by rw [ex, e] at z; exact z (by decide)
    have e65 : ixO x 65 = some r := by rw [ex]; exact ixO_nI (by decide) (by omega)
    have el : lsO m.1 x = if ¬ r = 0 ∧ 0 < nL m.1 ∧ alG m.1 (inN m.1) = true ∧ leG m.1 (pkG m.1) (nL m.1) r < 1000000 then some r else none := by unfold lsO; rw [e65]
    refine sq7_surveyed hQ hO hc hK hKK (fun q => ?_) (fun hn ha wp ww ws wn wa wb wst wtw wwo wce wke wsk sn so2 sb sp sv lp lu lt lk lr hK' hS => ⟨fun z => absurd z (by decide), fun _ => ?_⟩)
    · intro wp ww ws wn wa wb wst wtw wwo wce wke wsk sf sn so2 sb sp sv lp lu lt lk lr hK'
      rw [if_neg (fun p => q ⟨p.2.1, p.2.2.1⟩)] at el
      exact ⟨fun _ => h0 el _ _ _ _ _ _ _ _ _ _ _ _ _ _ _ _ _ _ _ _ _ _ _ hK', fun z => absurd rfl z⟩
    · obtain ⟨_, hlp, hlk, htb⟩ := hS.2 (hS.1.mpr ha)
      rw [ex]
      refine sq0_leastCost hO.1 htb hr ?_
      by_cases hb : leG m.1 (pkG m.1) (nL m.1) r < 1000000
      · rw [if_pos ⟨r0, hn, ha, hb⟩] at el
        rw [if_pos hb]
        refine ⟨fun q => ?_, fun _ => h1 r el ex hr hn hb _ _ _ _ _ _ _ _ _ _ _ _ _ _ _ _ _ _ _ _ _ _ hK' hlp hlk htb⟩
        have h1' : (nI (leG m.1 (pkG m.1) (nL m.1) r)).toInt = (leG m.1 (pkG m.1) (nL m.1) r : Int) := nI_toInt (by omega)
        rw [q] at h1'
        have : ((-1 : Int32)).toInt = -1 := rfl
        omega
      · rw [if_neg (fun p => hb p.2.2.2)] at el
        rw [if_neg hb]
        exact ⟨fun _ => h0 el _ _ _ _ _ _ _ _ _ _ _ _ _ _ _ _ _ _ _ _ _ _ _ hK', fun q => absurd rfl q⟩
theorem sq7_lasting {x : Int32} {Φ : PSv} (hQ : PQ9 m.1 pst pce pgi pln be co to gc le gr ac sq tg fr mi en cl cd) (hO : MO9 m) (hc : CLs m.1 m.2.1 m.2.2.1 st tw) (hK : K sf sn so2 sb sp lp lk lr) (hKK : KOK K m.1 pg) (h : CVq K (f_lasting m x) Φ) : wl_X7_lasting st tw pst pce pgi pln be co to gc le gr ac tg fr mi en cd cl pg x wp ww ws wn wa wb wst wtw wwo wce wke wsk sf sn so2 sb sp sv lp lu lt lk lr Φ := by
  unfold wl_X7_lasting
  unfold f_lasting at h
  refine sq7_canLast hQ hO hc hK hKK (fun e => ?_) (fun r e ex hr hn hb wp ww ws wn wa wb wst wtw wwo wce wke wsk sn so2 sb sp sv lp lu lt lk lr hK' hlp hlk htb => ⟨fun z => absurd z (by decide), fun _ => ?_⟩)
  · intro wp ww ws wn wa wb wst wtw wwo wce wke wsk sf sn so2 sb sp sv lp lu lt lk lr hK'
    rw [e] at h
    exact ⟨fun _ => h _ _ _ _ _ _ _ _ _ _ _ _ _ _ _ _ _ _ _ _ _ _ _ hK', fun z => absurd rfl z⟩
  · rw [e] at h
    rw [ex]
    refine sq0_leastCost hO.1 htb hr ?_
    rw [if_pos hb]
    exact h _ _ _ _ _ _ _ _ _ _ _ _ _ _ _ _ _ _ _ _ _ _ _ hK'
theorem sq7_lasts {x y z : Int32} {Φ : PSv} (hQ : PQ9 m.1 pst pce pgi pln be co to gc le gr ac sq tg fr mi en cl cd) (hO : MO9 m) (hc : CLs m.1 m.2.1 m.2.2.1 st tw) (hK : K sf sn so2 sb sp lp lk lr) (hKK : KOK K m.1 pg) (h : CVq K (f_lasts m x y z) Φ) : wl_X7_lasts st tw pst pce pgi pln be co to gc le gr ac tg fr mi en cd cl pg x y z wp ww ws wn wa wb wst wtw wwo wce wke wsk sf sn so2 sb sp sv lp lu lt lk lr Φ := by
  have h16 : nL m.1 ≤ 16 := hQ.2.2.1
  have eln : pln = nI (nL m.1) := hQ.2.2.2.2.2.2.1
  have est : pst = nI (nS m.1) := hQ.2.2.2.1
  have hS : SA9 m.1.1 be co := hQ.2.2.2.2.2.2.2.1
  unfold wl_X7_lasts
  unfold f_lasts at h
  refine sq7_canLast hQ hO hc hK hKK (fun e => ?_) (fun r e ex hr hn hb wp ww ws wn wa wb wst wtw wwo wce wke wsk sn so2 sb sp sv lp lu lt lk lr hK' hlp hlk htb => ⟨fun z => absurd z (by decide), fun _ => ?_⟩)
  · intro wp ww ws wn wa wb wst wtw wwo wce wke wsk sf sn so2 sb sp sv lp lu lt lk lr hK'
    rw [e] at h
    exact ⟨fun _ => h _ _ _ _ _ _ _ _ _ _ _ _ _ _ _ _ _ _ _ _ _ _ _ hK', fun z => absurd rfl z⟩
  · rw [e] at h
    rw [eln]
    refine sq7_wi (by omega) (fun e2 => ⟨fun z => absurd rfl z, fun _ => by rw [e2] at h; exact h _ _ _ _ _ _ _ _ _ _ _ _ _ _ _ _ _ _ _ _ _ _ _ hK'⟩) (fun l hl ey e2 => ⟨fun _ elp => ?_, fun z => absurd z (by decide)⟩)
    rw [e2] at h
    have h : CVq K (if z = 0 then (amI (lsG m.1 (pkG m.1) r l).2).1 else if z = 1 then (amI (lsG m.1 (pkG m.1) r l).2).2 else -1) Φ := h
    rw [ex, ey, est]
    subst hlp
    refine sq0_choose hS hO.1 hlk htb hr hl hb ⟨fun q => ?_, fun q => ?_, fun q q2 => ?_⟩
    · rw [if_pos q] at h; exact h _ _ _ _ _ _ _ _ _ _ _ _ _ _ _ _ _ _ _ _ _ _ _ hK'
    · rw [if_neg (by rw [q]; decide), if_pos q] at h; exact h _ _ _ _ _ _ _ _ _ _ _ _ _ _ _ _ _ _ _ _ _ _ _ hK'
    · rw [if_neg q, if_neg q2] at h; exact h _ _ _ _ _ _ _ _ _ _ _ _ _ _ _ _ _ _ _ _ _ _ _ hK'
end SC
end
section
section RS9
variable {m : MS} {st ce ip ln be co ca ic il im ac aC ls tw lf lt cd : Nat → Int32} {a0 w0 n0 e0 f0 u0 d0 th : Int32} {k1 k2 k3 k4 k5 k6 k7 k8 k9 vo he we sr go pk mg mb mp de : Nat → Int32}
/-- most, by which, peak of the first inputs, as the reference keeps them -/
def SVr (g : PGr) (k : Nat) (mg mb mp : Nat → Int32) : Prop := (k = 0 → ∀ l, l < 16 → mg l = -1) ∧ (¬ k = 0 → ∀ l, l < 16 → mg l = nI ((svF (sgN 1000 g) k).1 l) ∧ mb l = nI ((svF (sgN 1000 g) k).2.1 l)) ∧ AGn 16 (svF (sgN 1000 g) k).2.2 mp
theorem sv_first {sg : Nat → PG9} (l : Nat) : (svF sg 1).1 l = (sg 0).2.1 l ∧ (svF sg 1).2.1 l = 0 := by
  rw [svF_1, svF_2]
  have e : (svF sg 0).1 l = 0 := rfl
  have e2 : (svF sg 0).2.1 l = 0 := rfl
  rw [e, e2]
  refine ⟨?_, ?_⟩
  · split <;> omega
  · split <;> rfl
def DWr (r : Int32) (g : PGr) (Φ : PWr) : Prop := ∀ a w n e f u d k1 k2 k3 k4 k5 k6 k7 k8 k9 vo he we sr go pk mg mb mp, (¬ r = 0 → SVr g (inN g) mg mb mp) → Φ r a w n e f u d k1 k2 k3 k4 k5 k6 k7 k8 k9 vo he we sr go pk mg mb mp
theorem in_pos {g : PGr} (hG : GK9 g) : 0 < inN g := by
  have h2 := hG.2.2.2.2.1
  unfold inN
  match hl : g.2.2.1, h2 with
  | [], _ => exact Nat.one_pos
  | [a], _ => rw [many_1]; exact wid_pos a
  | [a, b], _ => rw [many_2]; exact Nat.mul_pos (wid_pos a) (wid_pos b)
  | a :: b :: c :: r, h2 => exact absurd h2 (by show ¬ (r.length + 3 ≤ 2); omega)
theorem sq8_wears {Φ : PWr} (hR : RPY 0 m st ce ip ln be co ca ic il im ac aC ls tw lf lt cd) (hO : MO9 m) (h : DWr (if 0 < nL m.1 ∧ alG m.1 (inN m.1) = true then 1 else 0) m.1 Φ) : wl_X8_wears ce ip ln be ca ic il im ac aC ls tw lf lt cd a0 w0 n0 e0 f0 u0 d0 k1 k2 k3 k4 k5 k6 k7 k8 k9 vo he we sr go pk mg mb mp Φ := by
  have h16 : nL m.1 ≤ 16 := hO.1.2.2.2.2.2.2.2.2.1
  have h64 := inN_64 hO.1
  have hip := in_pos hO.1
  have hln : ln 0 = nI (nL m.1) := hR.1.2.2.2.1
  have q0 : ln 0 = 0 ↔ nL m.1 = 0 := by rw [hln]; exact nI_eq (b := 0) (by omega) (by decide)
  have no : ¬ (0 < nL m.1 ∧ alG m.1 (inN m.1) = true) → ∀ a w n e f u d k1 k2 k3 k4 k5 k6 k7 k8 k9 vo he we sr go pk mg mb mp, Φ 0 a w n e f u d k1 k2 k3 k4 k5 k6 k7 k8 k9 vo he we sr go pk mg mb mp := by
    intro z a w n e f u d k1 k2 k3 k4 k5 k6 k7 k8 k9 vo he we sr go pk mg mb mp
    rw [if_neg z] at h
    exact h _ _ _ _ _ _ _ _ _ _ _ _ _ _ _ _ _ _ _ _ _ _ _ _ _ (fun q => absurd rfl q)
  -- the inputs
  have k30 : ∀ (fo i : Nat) (a0 w0 n0 e0 f0 u0 d0 : Int32) (k1 k2 k3 k4 k5 k6 k7 k8 k9 vo he we sr go pk mg mb mp : Nat → Int32), i ≤ inN m.1 → (i = 0 ∨ 0 < nL m.1) → alG m.1 i = true → SVr m.1 i mg mb mp → ll_X8_wears_30 ce ip ln be ca ic il im ac aC ls tw lf lt cd Φ fo a0 w0 n0 e0 f0 u0 d0 k1 k2 k3 k4 k5 k6 k7 k8 k9 vo he we sr go pk mg mb mp (nI i) := by
    intro fo
    induction fo with
    | zero => intros; trivial
    | succ fo ih =>
      intro i a0 w0 n0 e0 f0 u0 d0 k1 k2 k3 k4 k5 k6 k7 k8 k9 vo he we sr go pk mg mb mp hi hin hal hsv
      show bl_X8_wears_30 _ _ _ _ _ _ _ _ _ _ _ _ _ _ _ _ _ _ _ _ _ _ _ _ _ _ _ _ _ _ _ _ _ _ _ _ _ _ _ _ _ _ _
      unfold bl_X8_wears_30
      refine sq8_inputsOf (p := 0) hR.1.2.2.1 hO.1 (by decide) ?_
      rw [nI_leI (by omega) (by omega), q0]
      refine ⟨fun y => ?_, fun y => ⟨fun y2 => ?_, fun y2 => no (fun q => by omega) _ _ _ _ _ _ _ _ _ _ _ _ _ _ _ _ _ _ _ _ _ _ _ _ _⟩⟩
      · have e : i = inN m.1 := by omega
        subst e
        rw [if_pos ⟨by omega, hal⟩] at h
        exact h _ _ _ _ _ _ _ _ _ _ _ _ _ _ _ _ _ _ _ _ _ _ _ _ _ (fun _ => hsv)
      · have hn : 0 < nL m.1 := by omega
        refine sq8_tries (p := 0) (wy := 1) hO.1 (by decide) hR.1 hR.2 hO.2.1 (by decide) hn (by omega) (fun n e f2 u ma k1 k2 k3 k4 k5 k6 k7 k8 k9 vo he we sr go pk hM hk hg => ?_)
        have e12 := hM.e0
        have eg := git_be (g := m.1) (be := brG m.1 m.2.1 m.2.2.1) (be' := fun _ => 0) (wy := 1) (by decide) 1000 (pg0 (bgG m.1 i (fun _ => 0)))
        rw [eg, ← sgN_eq] at hg
        have er : (rnG m.1 (brG m.1 m.2.1 m.2.2.1) 1 (bgG m.1 i (fun _ => 0))).1 = 2 ↔ (sgN 1000 m.1 i).1.1 = 2 := by
          rw [rnG_e2, sgN_eq, ← eg, git_1, pg0_1]
        have h12 : (rnG m.1 (brG m.1 m.2.1 m.2.2.1) 1 (bgG m.1 i (fun _ => 0))).1 = 1 ∨ (rnG m.1 (brG m.1 m.2.1 m.2.2.1) 1 (bgG m.1 i (fun _ => 0))).1 = 2 := rn_12 (by decide)
        have hf0 : f2 = 0 := e12.2.mpr (by omega)
        have he0 : e = 0 ↔ ¬ (sgN 1000 m.1 i).1.1 = 2 := e12.1.trans (not_congr er)
        have hgo := hg.1
        have hpk := hg.2
        have hgl := fun l => sg_gone (g := m.1) (i := i) (l := l)
        have hsl := fun l => (sv_gone (g := m.1) i l).1
        have x1 := fun l => svF_1 (sgN 1000 m.1) i l
        have x2 := fun l => svF_2 (sgN 1000 m.1) i l
        have x3 := fun l => svF_3 (sgN 1000 m.1) i l
        have xf : i = 0 → ∀ l, (svF (sgN 1000 m.1) (i + 1)).1 l = (sgN 1000 m.1 i).2.1 l ∧ (svF (sgN 1000 m.1) (i + 1)).2.1 l = 0 := fun z l => by rw [z]; exact sv_first l
        have hal' : (sgN 1000 m.1 i).1.1 = 2 → alG m.1 (i + 1) = true := fun z => alG_s.mpr ⟨hal, z⟩
        have nal : ¬ (sgN 1000 m.1 i).1.1 = 2 → ¬ (0 < nL m.1 ∧ alG m.1 (inN m.1) = true) := fun z q => z (alG_s.mp (alG_le (show i + 1 ≤ inN m.1 by omega) q.2)).2
        obtain ⟨v1, v2, v3⟩ := hsv
        have ihn : alG m.1 (i + 1) = true → ∀ (a0 w0 n0 e0 f0 u0 d0 : Int32) (k1 k2 k3 k4 k5 k6 k7 k8 k9 vo he we sr go pk mg mb mp : Nat → Int32), SVr m.1 (i + 1) mg mb mp → ll_X8_wears_30 ce ip ln be ca ic il im ac aC ls tw lf lt cd Φ fo a0 w0 n0 e0 f0 u0 d0 k1 k2 k3 k4 k5 k6 k7 k8 k9 vo he we sr go pk mg mb mp (nI (i + 1)) := fun ha a0 w0 n0 e0 f0 u0 d0 k1 k2 k3 k4 k5 k6 k7 k8 k9 vo he we sr go pk mg mb mp hv => ih (i + 1) a0 w0 n0 e0 f0 u0 d0 k1 k2 k3 k4 k5 k6 k7 k8 k9 vo he we sr go pk mg mb mp (by omega) (Or.inr hn) ha hv
        unfold SVr at ihn
        generalize svF (sgN 1000 m.1) (i + 1) = S1 at x1 x2 x3 xf ihn
        -- the lines
        have k68 : (sgN 1000 m.1 i).1.1 = 2 → ∀ (f l : Nat) (mg' mb' mp' : Nat → Int32), l ≤ 16 → (∀ j, j < 16 → (j < l → mg' j = nI (S1.1 j) ∧ mb' j = nI (S1.2.1 j) ∧ mp' j = S1.2.2 j) ∧ (l ≤ j → mg' j = mg j ∧ mb' j = mb j ∧ mp' j = mp j)) → ll_X8_wears_68 ce ip ln be ca ic il im ac aC ls tw lf lt cd (ll_X8_wears_30 ce ip ln be ca ic il im ac aC ls tw lf lt cd Φ fo) Φ f (nI 0) (nI 1) n e f2 u ma k1 k2 k3 k4 k5 k6 k7 k8 k9 vo he we sr go pk mg' mb' mp' (nI i) (nI l) := by
          intro hY f
          induction f with
          | zero => intros; trivial
          | succ f ih2 =>
            intro l mg' mb' mp' hl hr
            show bl_X8_wears_68 _ _ _ _ _ _ _ _ _ _ _ _ _ _ _ _ _ _ _ _ _ _ _ _ _ _ _ _ _ _ _ _ _ _ _ _ _ _ _ _ _ _ _ _ _
            unfold bl_X8_wears_68
            have q16 : (16 : Int32) ≤ nI l ↔ 16 ≤ l := nI_leI (a := 16) (by decide) (by omega)
            rw [q16, nI_clamp (n := l) (by omega), nI_1, nI_1]
            refine ⟨fun z => ihn (hal' hY) _ _ _ _ _ _ _ _ _ _ _ _ _ _ _ _ _ _ _ _ _ _ _ _ _ ⟨fun q => absurd q (by omega), fun _ j hj => ⟨((hr j hj).1 (by omega)).1, ((hr j hj).1 (by omega)).2.1⟩, fun j hj => ((hr j hj).1 (by omega)).2.2⟩, fun z _ _ _ _ _ => ?_⟩
            obtain ⟨r1, r2, r3⟩ := (hr l (by omega)).2 (Nat.le_refl _)
            have epk : (if mp' l < pk l then pk l else mp' l) = S1.2.2 l := by
              rw [r3, v3 l (by omega), hpk l (by omega), x3 l]
              rfl
            rw [epk, r1, hgo l (by omega)]
            have hd : (mg l < nI ((sgN 1000 m.1 i).2.1 l) → S1.1 l = (sgN 1000 m.1 i).2.1 l ∧ S1.2.1 l = i) ∧ (¬ mg l < nI ((sgN 1000 m.1 i).2.1 l) → mg l = nI (S1.1 l) ∧ mb l = nI (S1.2.1 l)) := by
              by_cases i0 : i = 0
              · obtain ⟨f1, f2'⟩ := xf i0 l
                refine ⟨fun _ => ⟨f1, by omega⟩, fun q => absurd ?_ q⟩
                rw [v1 i0 l (by omega)]
                exact Int32.lt_iff_toInt_lt.mpr (by
                  rw [nI_toInt (by have := hgl l; omega)]
                  have : ((-1 : Int32)).toInt = -1 := rfl
                  omega)
              · obtain ⟨f1, f2'⟩ := v2 i0 l (by omega)
                have g1 := hgl l
                have g2 := hsl l
                rw [f1, nI_ltI (by omega) (by omega)]
                refine ⟨fun q => ?_, fun q => ?_⟩
                · rw [x1 l, x2 l, if_pos q, if_pos q]; exact ⟨rfl, rfl⟩
                · rw [x1 l, x2 l, if_neg q, if_neg q]; exact ⟨rfl, f2'⟩
            refine ⟨fun q _ _ _ => ih2 (l + 1) _ _ _ (by omega) (fun j hj => ⟨fun a => ?_, fun a => ?_⟩), fun q => ih2 (l + 1) _ _ _ (by omega) (fun j hj => ⟨fun a => ?_, fun a => ?_⟩)⟩
            · by_cases ej : j = l
              · obtain ⟨d1, d2⟩ := hd.1 q
                rw [ej, pk_us, pk_us, pk_us, d1, d2]; exact ⟨rfl, rfl, rfl⟩
              · rw [pk_un ej, pk_un ej, pk_un ej]; exact (hr j hj).1 (by omega)
            · rw [pk_un (by omega), pk_un (by omega), pk_un (by omega)]; exact (hr j hj).2 (by omega)
            · by_cases ej : j = l
              · obtain ⟨d1, d2⟩ := hd.2 q
                rw [ej, pk_us, r1, r2]; exact ⟨d1, d2, rfl⟩
              · rw [pk_un ej]; exact (hr j hj).1 (by omega)
            · rw [pk_un (by omega)]; exact (hr j hj).2 (by omega)
        unfold wl_X8_isEndless
        refine ⟨fun z => ⟨fun _ f => ?_, fun q => absurd rfl q⟩, fun z => ⟨fun q => absurd hf0 q, fun _ => ⟨fun q => absurd q (by decide), fun _ => no (nal (he0.mp z)) _ _ _ _ _ _ _ _ _ _ _ _ _ _ _ _ _ _ _ _ _ _ _ _ _⟩⟩⟩
        have hY : (sgN 1000 m.1 i).1.1 = 2 := by
          by_cases q : (sgN 1000 m.1 i).1.1 = 2
          · exact q
          · exact absurd (he0.mpr q) z
        exact k68 hY f 0 mg mb mp (Nat.zero_le _) (fun j hj => ⟨fun a => absurd a (Nat.not_lt_zero _), fun _ => ⟨rfl, rfl, rfl⟩⟩)
  have k2 : ∀ (f l : Nat) (mg mp : Nat → Int32), l ≤ 16 → (∀ j, j < l → mg j = -1 ∧ mp j = 0) → ll_X8_wears_2 ce ip ln be ca ic il im ac aC ls tw lf lt cd Φ f a0 w0 n0 e0 f0 u0 d0 k1 k2 k3 k4 k5 k6 k7 k8 k9 vo he we sr go pk mg mb mp (nI l) := by
    intro f
    induction f with
    | zero => intros; trivial
    | succ f ih =>
      intro l mg mp hl hr
      show bl_X8_wears_2 _ _ _ _ _ _ _ _ _ _ _ _ _ _ _ _ _ _ _ _ _ _ _ _ _ _ _ _ _ _ _ _ _ _ _ _ _ _ _ _ _ _ _
      unfold bl_X8_wears_2
      have q16 : (16 : Int32) ≤ nI l ↔ 16 ≤ l := nI_leI (a := 16) (by decide) (by omega)
      rw [q16, nI_clamp (n := l) (by omega), nI_1]
      refine ⟨fun z f => k30 f 0 _ _ _ _ _ _ _ _ _ _ _ _ _ _ _ _ _ _ _ _ _ _ mg mb mp (Nat.zero_le _) (Or.inl rfl) rfl ⟨fun _ j hj => (hr j (by omega)).1, fun q => absurd rfl q, fun j hj => (hr j (by omega)).2⟩, fun z _ _ => ih (l + 1) _ _ (by omega) (fun j hj => ?_)⟩
      by_cases e : j = l
      · rw [e, pk_us, pk_us]; exact ⟨rfl, rfl⟩
      · rw [pk_un e, pk_un e]; exact hr j (by omega)
  exact fun f => k2 f 0 mg mp (Nat.zero_le _) (fun j hj => absurd hj (Nat.not_lt_zero _))
def EWq (r : Int32) (Φ : PWm) : Prop := ∀ a w n e f u d k1 k2 k3 k4 k5 k6 k7 k8 k9 vo he we sr go pk mg mb mp, Φ r 0 a w n e f u d k1 k2 k3 k4 k5 k6 k7 k8 k9 vo he we sr go pk mg mb mp
theorem sq8_most {x y : Int32} {Φ : PWm} (hR : RPY 0 m st ce ip ln be co ca ic il im ac aC ls tw lf lt cd) (hO : MO9 m) (h : EWq (f_most m x y) Φ) : wl_X8_most ce ip ln be ca ic il im ac aC ls tw lf lt cd x y th a0 w0 n0 e0 f0 u0 d0 k1 k2 k3 k4 k5 k6 k7 k8 k9 vo he we sr go pk mg mb mp Φ := by
  have h16 : nL m.1 ≤ 16 := hO.1.2.2.2.2.2.2.2.2.1
  have hip := in_pos hO.1
  have hln : ln 0 = nI (nL m.1) := hR.1.2.2.2.1
  unfold wl_X8_most
  unfold f_most at h
  refine sq8_isLine hln (by omega) (fun e => ⟨fun _ => by rw [e] at h; exact h _ _ _ _ _ _ _ _ _ _ _ _ _ _ _ _ _ _ _ _ _ _ _ _ _, fun z => absurd rfl z⟩) (fun l hl ex e => ⟨fun z => absurd z (by decide), fun _ => ?_⟩)
  rw [e] at h
  have h : EWq (if alG m.1 (inN m.1) = true then (if y = 0 then nI ((svF (sgN 1000 m.1) (inN m.1)).1 l) else if y = 1 then nI ((svF (sgN 1000 m.1) (inN m.1)).2.1 l) else if y = 2 then pkG m.1 l else -1) else -1) Φ := h
  refine sq8_wi (m := 2) (by decide) (fun e2 => ⟨fun _ => ?_, fun z => absurd rfl z⟩) (fun yi hyi ey _ => ⟨fun z => absurd z (by decide), fun _ => sq8_wears hR hO (fun a w n e f u d k1 k2 k3 k4 k5 k6 k7 k8 k9 vo he we sr go pk mg mb mp hs => ?_)⟩)
  · have q := fun i hi => ixO_no (n := 3) (by decide) e2 ∘ fun (z : y = nI i) => ⟨i, hi, z⟩
    rw [if_neg (show ¬ y = 0 from q 0 (by decide)), if_neg (show ¬ y = 1 from q 1 (by decide)), if_neg (show ¬ y = 2 from q 2 (by decide)), ite_self] at h
    exact h _ _ _ _ _ _ _ _ _ _ _ _ _ _ _ _ _ _ _ _ _ _ _ _ _
  · by_cases ha : alG m.1 (inN m.1) = true
    · rw [if_pos ⟨by omega, ha⟩] at hs ⊢
      rw [if_pos ha] at h
      obtain ⟨_, s2, s3⟩ := hs (by decide)
      obtain ⟨v1, v2⟩ := s2 (by omega) l (by omega)
      rw [ex, nI_clamp (n := l) (by omega), v1, v2, s3 l (by omega), ← pkG_eq]
      refine ⟨fun _ => ⟨fun z0 => ⟨fun z1 _ => ?_, fun z1 _ => ?_⟩, fun z0 _ => ?_⟩, fun z => absurd z (by decide)⟩
      · have : yi = 2 := by
          have q0 : ¬ yi = 0 := fun q => z0 (by rw [ey, q]; rfl)
          have q1 : ¬ yi = 1 := fun q => z1 (by rw [ey, q]; rfl)
          omega
        subst this
        rw [if_neg z0, if_neg z1, if_pos (by rw [ey]; rfl)] at h
        exact h _ _ _ _ _ _ _ _ _ _ _ _ _ _ _ _ _ _ _ _ _ _ _ _ _
      · rw [if_neg z0, if_pos z1] at h
        exact h _ _ _ _ _ _ _ _ _ _ _ _ _ _ _ _ _ _ _ _ _ _ _ _ _
      · rw [if_pos z0] at h
        exact h _ _ _ _ _ _ _ _ _ _ _ _ _ _ _ _ _ _ _ _ _ _ _ _ _
    · rw [if_neg (fun q => ha q.2)]
      rw [if_neg ha] at h
      exact ⟨fun z => absurd rfl z, fun _ => h _ _ _ _ _ _ _ _ _ _ _ _ _ _ _ _ _ _ _ _ _ _ _ _ _⟩
theorem sq8_never {Φ : PWm} (hR : RPY 0 m st ce ip ln be co ca ic il im ac aC ls tw lf lt cd) (hO : MO9 m) (h : EWq (f_never m) Φ) : wl_X8_never ce ip ln be ca ic il im ac aC ls tw lf lt cd th a0 w0 n0 e0 f0 u0 d0 k1 k2 k3 k4 k5 k6 k7 k8 k9 vo he we sr go pk mg mb mp Φ := by
  have h16 : nL m.1 ≤ 16 := hO.1.2.2.2.2.2.2.2.2.1
  have hip := in_pos hO.1
  have hln : ln 0 = nI (nL m.1) := hR.1.2.2.2.1
  unfold wl_X8_never
  unfold f_never at h
  refine sq8_wears hR hO (fun a w n e f u d k1 k2 k3 k4 k5 k6 k7 k8 k9 vo he we sr go pk mg mb mp hs => ?_)
  by_cases ha : 0 < nL m.1 ∧ alG m.1 (inN m.1) = true
  · rw [if_pos ha] at hs h ⊢
    obtain ⟨_, s2, s3⟩ := hs (by decide)
    have hg := fun l => (sv_gone (g := m.1) (inN m.1) l).1
    have s2 := s2 (by omega)
    generalize svF (sgN 1000 m.1) (inN m.1) = S at s2 h hg
    refine ⟨fun _ => ?_, fun z => absurd z (by decide)⟩
    have key : ∀ (f' l : Nat), l ≤ nL m.1 → ll_X8_never_18 ce ip ln be ca ic il im ac aC ls tw lf lt cd Φ f' 0 a w n e f u d k1 k2 k3 k4 k5 k6 k7 k8 k9 vo he we sr go pk mg mb mp (nvG S.1 l) (nI l) := by
      intro f'
      induction f' with
      | zero => intros; trivial
      | succ f' ih =>
        intro l hl
        show bl_X8_never_18 _ _ _ _ _ _ _ _ _ _ _ _ _ _ _ _ _ _ _ _ _ _ _ _ _ _ _ _ _ _ _ _ _ _ _ _ _ _ _ _ _ _ _ _ _
        unfold bl_X8_never_18
        rw [hln, nI_leI (by omega) (by omega), nI_clamp (n := l) (by omega), nI_1]
        refine ⟨fun z => ?_, fun z _ => ?_⟩
        · have e : l = nL m.1 := by omega
          subst e
          exact h _ _ _ _ _ _ _ _ _ _ _ _ _ _ _ _ _ _ _ _ _ _ _ _ _
        · have hl1 : l < nL m.1 := by omega
          have hgl := hg l
          have q0 : nI (S.1 l) = 0 ↔ S.1 l = 0 := nI_eq (b := 0) (by omega) (by decide)
          have es : nvG S.1 (l + 1) = if S.1 l = 0 then nvG S.1 l ||| ((1 : Int32) <<< (nI l &&& 31)) else nvG S.1 l := rfl
          have nx := ih (l + 1) (by omega)
          rw [(s2 l (by omega)).1, q0, Int32.or_zero]
          refine ⟨fun y => ?_, fun y => ?_⟩
          · rw [es, if_neg y] at nx; exact nx
          · rw [es, if_pos y] at nx; exact nx
    exact fun f' => key f' 0 (Nat.zero_le _)
  · rw [if_neg ha] at h ⊢
    exact ⟨fun z => absurd rfl z, fun _ => h _ _ _ _ _ _ _ _ _ _ _ _ _ _ _ _ _ _ _ _ _ _ _ _ _⟩
end RS9
end
section
section RL9
variable {m : MS} {st ce ip ln be co ca ic il im ac aC ls tw lf lt cd : Nat → Int32} {a0 w0 n0 e0 f0 u0 d0 th : Int32} {k1 k2 k3 k4 k5 k6 k7 k8 k9 vo he we sr go pk mg mb mp de : Nat → Int32}
/-- the reference's table -/
def RT9 (g : PGr) (pk : Nat → Int32) (de : Nat → Int32) (l0 : Nat) : Prop := ∀ l, l0 ≤ l → l ≤ nL g → ∀ r, r ≤ 64 → de (65 * l + r) = nI (leG g pk (nL g - l) r)
theorem sq8_lastsBy {g : PGr} {pk : Nat → Int32} {l r s t : Nat} {Φ : Int32 → Prop} (hS : SB 0 g.1 st be co) (hG : GK9 g) (hp : AGn (nL g) pk mp) (hl : l < nL g) (hr : r ≤ 64) (hs : s < nS g) (ht1 : 1 ≤ t) (ht4 : t ≤ 4) (ht : RT9 g pk de (l + 1)) (h : Φ (nI (lbG g (pk l) (leG g pk (nL g - (l + 1))) r s t))) : wl_X8_lastsBy be co mp de (nI l) (nI r) (nI s) (nI t) Φ := by
  have h16 : nL g ≤ 16 := hG.2.2.2.2.2.2.2.2.1
  have h4 : nS g ≤ 4 := hG.1
  obtain ⟨b1, b2⟩ := hS.beZ hs
  rw [z40] at b1 b2
  have hco := coS_le hG hs
  have hm : coS g s * t ≤ 999 * 4 := Nat.mul_le_mul hco ht4
  unfold wl_X8_lastsBy wl_X8_layCost
  rw [nI_leI (by omega) (by omega), nI_1, show (65 : Int32) = nI 65 from rfl, pk_mul, nI_add, nI_clamp (n := s) (by omega), nI_clamp (n := l) (by omega), b1, b2, hp l hl, pk_mul (coS g s) t]
  refine ⟨fun z _ _ => ?_, fun z => ?_⟩
  · have hb := leG_b (pk := pk) hG (nL g - (l + 1)) (by omega) (r - t)
    have hix : nI (65 * (l + 1) + r) - nI t = nI (65 * (l + 1) + (r - t)) := by rw [pk_sub (by omega)]; exact congrArg nI (by omega)
    have hd := ht (l + 1) (Nat.le_refl _) (by omega) (r - t) (by omega)
    have hn := leG_b (pk := pk) hG (nL g - (l + 1)) (by omega) (r - t)
    rw [hix, nI_clamp (n := 65 * (l + 1) + (r - t)) (by omega), hd]
    refine ⟨fun y _ _ => ?_, fun y _ => ?_⟩
    · rw [nI_add, show (1000000 : Int32) = nI 1000000 from rfl]
      have e : lbG g (pk l) (leG g pk (nL g - (l + 1))) r s t = min 1000000 (coS g s * t + leG g pk (nL g - (l + 1)) (r - t)) := by unfold lbG; rw [if_pos ⟨z, y⟩]
      rw [e] at h
      by_cases q : coS g s * t + leG g pk (nL g - (l + 1)) (r - t) < 1000000
      · rw [if_pos ((nI_ltI (by omega) (by decide)).mpr q)]
        rw [Nat.min_eq_right (by omega)] at h
        exact h
      · rw [if_neg (fun p => q ((nI_ltI (by omega) (by decide)).mp p))]
        rw [Nat.min_eq_left (by omega)] at h
        exact h
    · have e : lbG g (pk l) (leG g pk (nL g - (l + 1))) r s t = 1000000 := by unfold lbG; rw [if_neg (fun q => y q.2)]
      rw [e] at h
      rw [show (1000000 : Int32) = nI 1000000 from rfl, nI_add, if_neg (fun p => by have := (nI_ltI (by omega) (by decide)).mp p; omega)]
      exact h
  · have e : lbG g (pk l) (leG g pk (nL g - (l + 1))) r s t = 1000000 := by unfold lbG; rw [if_neg (fun q => z q.1)]
    rw [e] at h
    exact h
def GWl (x : Int32) (m : MS) (Φ : PIl) : Prop := (lsO m.1 x = none → ∀ a w n e f u d k1 k2 k3 k4 k5 k6 k7 k8 k9 vo he we sr go pk mg mb mp de, Φ 0 a w n e f u d k1 k2 k3 k4 k5 k6 k7 k8 k9 vo he we sr go pk mg mb mp de) ∧ (∀ r, lsO m.1 x = some r → x = nI r → r ≤ 64 → 0 < nL m.1 → leG m.1 (pkG m.1) (nL m.1) r < 1000000 → ∀ a w n e f u d k1 k2 k3 k4 k5 k6 k7 k8 k9 vo he we sr go pk mg mb mp de, AGn (nL m.1) (pkG m.1) mp → RT9 m.1 (pkG m.1) de 0 → Φ 1 a w n e f u d k1 k2 k3 k4 k5 k6 k7 k8 k9 vo he we sr go pk mg mb mp de)
theorem sq8_isLasting {x : Int32} {Φ : PIl} (hR : RPY 0 m st ce ip ln be co ca ic il im ac aC ls tw lf lt cd) (hO : MO9 m) (h : GWl x m Φ) : wl_X8_isLasting st ce ip ln be co ca ic il im ac aC ls tw lf lt cd x a0 w0 n0 e0 f0 u0 d0 k1 k2 k3 k4 k5 k6 k7 k8 k9 vo he we sr go pk mg mb mp de Φ := by
  have h16 : nL m.1 ≤ 16 := hO.1.2.2.2.2.2.2.2.2.1
  have h4 : nS m.1 ≤ 4 := hO.1.1
  have hln : ln 0 = nI (nL m.1) := hR.1.2.2.2.1
  have hst : st 0 = nI (nS m.1) := hR.1.1.1
  obtain ⟨h0, h1⟩ := h
  unfold wl_X8_isLasting
  have lo : x < 1 → lsO m.1 x = none := fun z => by
    unfold lsO
    cases e : ixO x 65 with
    | none => rfl
    | some r =>
      obtain ⟨h65, ex⟩ := ixO_some (by decide) e
      rw [ex] at z
      have : r < 1 := (nI_ltI (b := 1) (by omega) (by decide)).mp z
      exact if_neg (fun q => q.1 (by omega))
  have hi : 64 < x → lsO m.1 x = none := fun z => by
    unfold lsO
    cases e : ixO x 65 with
    | none => rfl
    | some r =>
      obtain ⟨h65, ex⟩ := ixO_some (by decide) e
      rw [ex] at z
      have : 64 < r := (nI_ltI (a := 64) (by decide) (by omega)).mp z
      omega
  refine ⟨fun z => ⟨fun _ => h0 (lo z) _ _ _ _ _ _ _ _ _ _ _ _ _ _ _ _ _ _ _ _ _ _ _ _ _ _, fun q => absurd rfl q⟩, fun z => ⟨fun z2 => ⟨fun _ => h0 (hi z2) _ _ _ _ _ _ _ _ _ _ _ _ _ _ _ _ _ _ _ _ _ _ _ _ _ _, fun q => absurd rfl q⟩, fun z2 => ⟨fun q => absurd q (by decide), fun _ => ?_⟩⟩⟩
  obtain ⟨r, hr, ex⟩ := nI_of2 (M := 64) (n := 64) (by decide) (fun q3 => z (Int32.lt_of_lt_of_le q3 (by decide))) (Int32.not_lt.mp z2)
  have r0 : ¬ r = 0 := fun e => by rw [ex, e] at z; exact z (by decide)
  have e65 : ixO x 65 = some r := by rw [ex]; exact ixO_nI (by decide) (by omega)
  have el : lsO m.1 x = if ¬ r = 0 ∧ 0 < nL m.1 ∧ alG m.1 (inN m.1) = true ∧ leG m.1 (pkG m.1) (nL m.1) r < 1000000 then some r else none := by unfold lsO; rw [e65]
  refine sq8_wears hR hO (fun a w n e f u d k1 k2 k3 k4 k5 k6 k7 k8 k9 vo he we sr go pk mg mb mp hs => ?_)
  by_cases ha : 0 < nL m.1 ∧ alG m.1 (inN m.1) = true
  rotate_left
  · rw [if_neg ha]
    rw [if_neg (fun q => ha ⟨q.2.1, q.2.2.1⟩)] at el
    exact ⟨fun z => absurd rfl z, fun _ => h0 el _ _ _ _ _ _ _ _ _ _ _ _ _ _ _ _ _ _ _ _ _ _ _ _ _ _⟩
  rw [if_pos ha] at hs ⊢
  obtain ⟨_, _, s3⟩ := hs (by decide)
  have hmp : AGn (nL m.1) (pkG m.1) mp := fun j hj => by rw [s3 j (by omega), pkG_eq]
  refine ⟨fun _ => ?_, fun z => absurd z (by decide)⟩
  -- a room of a line
  have k92 : ∀ (κ56 : K56) (κ63 : K63) (κ78 : K78) (de : Nat → Int32) (l r' s : Nat), l < nL m.1 → r' ≤ 64 → s < nS m.1 → RT9 m.1 (pkG m.1) de (l + 1) → κ78 a w n e f u d k1 k2 k3 k4 k5 k6 k7 k8 k9 vo he we sr go pk mg mb mp de (nI l) (nI r') (nI (bsF (fG m.1 (pkG m.1 l) (leG m.1 (pkG m.1) (nL m.1 - (l + 1))) r') (4 * (s + 1)))) (nI (s + 1)) → ∀ (fu t : Nat), 1 ≤ t → t ≤ 5 → ll_X8_isLasting_92 st ce ip ln be co ca ic il im ac aC ls tw lf lt cd x κ56 κ63 κ78 Φ fu a w n e f u d k1 k2 k3 k4 k5 k6 k7 k8 k9 vo he we sr go pk mg mb mp de (nI l) (nI r') (nI (bsF (fG m.1 (pkG m.1 l) (leG m.1 (pkG m.1) (nL m.1 - (l + 1))) r') (4 * s + (t - 1)))) (nI s) (nI t) := by
    intro κ56 κ63 κ78 de l r' s hl hr' hs' ht hκ fu
    induction fu with
    | zero => intros; trivial
    | succ fu ih =>
      intro t ht1 ht5
      show bl_X8_isLasting_92 _ _ _ _ _ _ _ _ _ _ _ _ _ _ _ _ _ _ _ _ _ _ _ _ _ _ _ _ _ _ _ _ _ _ _ _ _ _ _ _ _ _ _ _ _ _ _ _ _ _ _ _ _ _
      unfold bl_X8_isLasting_92
      have q5 : (5 : Int32) ≤ nI t ↔ 5 ≤ t := nI_leI (a := 5) (by decide) (by omega)
      have nx := ih (t + 1) (by omega)
      rw [q5, nI_1, nI_1]
      refine ⟨fun z => ?_, fun z => sq8_lastsBy hR.1.1 hO.1 hmp hl hr' hs' ht1 (by omega) ht ?_⟩
      · rw [show 4 * s + (t - 1) = 4 * (s + 1) by omega]; exact hκ
      · have hb := bsF_le (fG m.1 (pkG m.1 l) (leG m.1 (pkG m.1) (nL m.1 - (l + 1))) r') (4 * s + (t - 1))
        have ev : fG m.1 (pkG m.1 l) (leG m.1 (pkG m.1) (nL m.1 - (l + 1))) r' (4 * s + (t - 1)) = lbG m.1 (pkG m.1 l) (leG m.1 (pkG m.1) (nL m.1 - (l + 1))) r' s t := by
          unfold fG
          rw [show (4 * s + (t - 1)) / 4 = s by omega, show 1 + (4 * s + (t - 1)) % 4 = t by omega]
        have hv : lbG m.1 (pkG m.1 l) (leG m.1 (pkG m.1) (nL m.1 - (l + 1))) r' s t ≤ 1000000 := by unfold lbG; split <;> omega
        rw [if_min hv hb]
        rw [show 4 * s + (t + 1 - 1) = 4 * s + (t - 1) + 1 by omega, bsF_s, ev, Nat.min_comm] at nx
        exact nx (by omega)
  have k78 : ∀ (κ56 : K56) (κ63 : K63) (de : Nat → Int32) (l r' : Nat), l < nL m.1 → r' ≤ 64 → RT9 m.1 (pkG m.1) de (l + 1) → (∀ de', RT9 m.1 (pkG m.1) de' (l + 1) → de' (65 * l + r') = nI (leG m.1 (pkG m.1) (nL m.1 - l) r') → (∀ q, q < r' → de' (65 * l + q) = de (65 * l + q)) → κ63 a w n e f u d k1 k2 k3 k4 k5 k6 k7 k8 k9 vo he we sr go pk mg mb mp de' (nI l) (nI (r' + 1))) → ∀ (fu s : Nat), s ≤ nS m.1 → ll_X8_isLasting_78 st ce ip ln be co ca ic il im ac aC ls tw lf lt cd x κ56 κ63 Φ fu a w n e f u d k1 k2 k3 k4 k5 k6 k7 k8 k9 vo he we sr go pk mg mb mp de (nI l) (nI r') (nI (bsF (fG m.1 (pkG m.1 l) (leG m.1 (pkG m.1) (nL m.1 - (l + 1))) r') (4 * s))) (nI s) := by
    intro κ56 κ63 de l r' hl hr' ht hκ fu
    induction fu with
    | zero => intros; trivial
    | succ fu ih =>
      intro s hs'
      show bl_X8_isLasting_78 _ _ _ _ _ _ _ _ _ _ _ _ _ _ _ _ _ _ _ _ _ _ _ _ _ _ _ _ _ _ _ _ _ _ _ _ _ _ _ _ _ _ _ _ _ _ _ _ _ _ _ _
      unfold bl_X8_isLasting_78
      rw [hst, nI_leI (by omega) (by omega), show (65 : Int32) = nI 65 from rfl, pk_mul, nI_add, nI_clamp (n := 65 * l + r') (by omega), nI_1]
      refine ⟨fun z _ => hκ _ (fun l' p q r2 hr2 => ?_) ?_ (fun q hq => pk_un (by omega)), fun z n_ => ?_⟩
      · rw [pk_un (by omega)]; exact ht l' p q r2 hr2
      · have e : s = nS m.1 := by omega
        rw [pk_us, e, leG_s hl]
      · exact k92 κ56 κ63 _ de l r' s hl hr' (by omega) ht (ih (s + 1) (by omega)) n_ 1 (by decide) (by decide)
  have k63 : ∀ (κ56 : K56) (l : Nat), l < nL m.1 → (∀ de', RT9 m.1 (pkG m.1) de' l → κ56 a w n e f u d k1 k2 k3 k4 k5 k6 k7 k8 k9 vo he we sr go pk mg mb mp de' (nI l + (-1))) → ∀ (fu r' : Nat) (de : Nat → Int32), r' ≤ 65 → RT9 m.1 (pkG m.1) de (l + 1) → (∀ q, q < r' → de (65 * l + q) = nI (leG m.1 (pkG m.1) (nL m.1 - l) q)) → ll_X8_isLasting_63 st ce ip ln be co ca ic il im ac aC ls tw lf lt cd x κ56 Φ fu a w n e f u d k1 k2 k3 k4 k5 k6 k7 k8 k9 vo he we sr go pk mg mb mp de (nI l) (nI r') := by
    intro κ56 l hl hκ fu
    induction fu with
    | zero => intros; trivial
    | succ fu ih =>
      intro r' de hr' ht hq
      show bl_X8_isLasting_63 _ _ _ _ _ _ _ _ _ _ _ _ _ _ _ _ _ _ _ _ _ _ _ _ _ _ _ _ _ _ _ _ _ _ _ _ _ _ _ _ _ _ _ _ _ _ _ _ _
      unfold bl_X8_isLasting_63
      have q64 : (64 : Int32) < nI r' ↔ 64 < r' := nI_ltI (a := 64) (by decide) (by omega)
      rw [q64]
      refine ⟨fun z => hκ de (fun l' p q r2 hr2 => ?_), fun z n_ => ?_⟩
      · by_cases el' : l' = l
        · rw [el']; exact hq r2 (by omega)
        · exact ht l' (by omega) q r2 hr2
      · refine k78 κ56 _ de l r' hl (by omega) ht (fun de' g1 g2 g3 => ih (r' + 1) de' (by omega) g1 (fun q hq' => ?_)) n_ 0 (Nat.zero_le _)
        by_cases eq' : q = r'
        · rw [eq']; exact g2
        · rw [g3 q (by omega)]; exact hq q (by omega)
  have k56 : ∀ (fu l : Nat) (de : Nat → Int32), l ≤ nL m.1 → RT9 m.1 (pkG m.1) de l → ll_X8_isLasting_56 st ce ip ln be co ca ic il im ac aC ls tw lf lt cd x Φ fu a w n e f u d k1 k2 k3 k4 k5 k6 k7 k8 k9 vo he we sr go pk mg mb mp de (nI l + (-1)) := by
    intro fu
    induction fu with
    | zero => intros; trivial
    | succ fu ih =>
      intro l de hl ht
      show bl_X8_isLasting_56 _ _ _ _ _ _ _ _ _ _ _ _ _ _ _ _ _ _ _ _ _ _ _ _ _ _ _ _ _ _ _ _ _ _ _ _ _ _ _ _ _ _ _ _ _ _ _
      unfold bl_X8_isLasting_56
      cases l with
      | zero =>
        have hb := leG_b (pk := pkG m.1) hO.1 (nL m.1) h16 r
        have hd := ht 0 (Nat.le_refl _) (Nat.zero_le _) r hr
        rw [Nat.sub_zero, show 65 * 0 + r = r by omega] at hd
        refine ⟨fun _ _ => ?_, fun z => absurd (by decide) z⟩
        rw [ex, nI_clamp (n := r) (by omega), hd]
        have q6 : (1000000 : Int32) ≤ nI (leG m.1 (pkG m.1) (nL m.1) r) ↔ 1000000 ≤ leG m.1 (pkG m.1) (nL m.1) r := nI_leI (a := 1000000) (by decide) (by omega)
        rw [q6]
        refine ⟨fun q => ?_, fun q => ?_⟩
        · rw [if_neg (fun p => by have := p.2.2.2; omega)] at el
          exact h0 el _ _ _ _ _ _ _ _ _ _ _ _ _ _ _ _ _ _ _ _ _ _ _ _ _ _
        · rw [if_pos ⟨r0, ha.1, ha.2, by omega⟩] at el
          exact h1 r el ex hr ha.1 (by omega) _ _ _ _ _ _ _ _ _ _ _ _ _ _ _ _ _ _ _ _ _ _ _ _ _ _ hmp ht
      | succ l =>
        rw [pk_m1]
        exact ⟨fun z => absurd z (nI_pos (by omega)), fun _ n_ => k63 _ l (by omega) (fun de' ht' => ih l de' (by omega) ht') n_ 0 de (by decide) ht (fun q hq => absurd hq (Nat.not_lt_zero _))⟩
  have k28 : ∀ (fu r' : Nat) (de : Nat → Int32), r' ≤ 65 → (∀ q, q < r' → de (65 * nL m.1 + q) = 0) → ll_X8_isLasting_28 st ce ip ln be co ca ic il im ac aC ls tw lf lt cd x Φ fu a w n e f u d k1 k2 k3 k4 k5 k6 k7 k8 k9 vo he we sr go pk mg mb mp de (nI (nL m.1)) (nI r') := by
    intro fu
    induction fu with
    | zero => intros; trivial
    | succ fu ih =>
      intro r' de hr' hq
      show bl_X8_isLasting_28 _ _ _ _ _ _ _ _ _ _ _ _ _ _ _ _ _ _ _ _ _ _ _ _ _ _ _ _ _ _ _ _ _ _ _ _ _ _ _ _ _ _ _ _ _ _ _ _
      unfold bl_X8_isLasting_28
      have q64 : (64 : Int32) < nI r' ↔ 64 < r' := nI_ltI (a := 64) (by decide) (by omega)
      rw [q64, show (65 : Int32) = nI 65 from rfl, pk_mul, nI_add, nI_clamp (n := 65 * nL m.1 + r') (by omega), nI_1, Int32.sub_eq_add_neg]
      refine ⟨fun z n_ => k56 n_ (nL m.1) de (Nat.le_refl _) (fun l' p q r2 hr2 => ?_), fun z _ => ih (r' + 1) _ (by omega) (fun q hq' => ?_)⟩
      · have e9 : l' = nL m.1 := by omega
        rw [e9, Nat.sub_self, hq r2 (by omega)]
        rfl
      · by_cases eq' : q = r'
        · rw [eq', pk_us]
        · rw [pk_un (by omega)]; exact hq q (by omega)
  rw [hln]
  exact fun fu => k28 fu 0 _ (by decide) (fun q hq => absurd hq (Nat.not_lt_zero _))
def FWq (r : Int32) (Φ : PIm) : Prop := ∀ a w n e f u d k1 k2 k3 k4 k5 k6 k7 k8 k9 vo he we sr go pk mg mb mp de, Φ r 0 a w n e f u d k1 k2 k3 k4 k5 k6 k7 k8 k9 vo he we sr go pk mg mb mp de
theorem sq8_lasting {x : Int32} {Φ : PIm} (hR : RPY 0 m st ce ip ln be co ca ic il im ac aC ls tw lf lt cd) (hO : MO9 m) (h : FWq (f_lasting m x) Φ) : wl_X8_lasting st ce ip ln be co ca ic il im ac aC ls tw lf lt cd x th a0 w0 n0 e0 f0 u0 d0 k1 k2 k3 k4 k5 k6 k7 k8 k9 vo he we sr go pk mg mb mp de Φ := by
  unfold wl_X8_lasting
  unfold f_lasting at h
  refine sq8_isLasting hR hO ⟨fun e => ?_, fun r e ex hr hn hb => ?_⟩
  · intro a w n e9 f u d k1 k2 k3 k4 k5 k6 k7 k8 k9 vo he we sr go pk mg mb mp de
    rw [e] at h
    exact ⟨fun _ => h _ _ _ _ _ _ _ _ _ _ _ _ _ _ _ _ _ _ _ _ _ _ _ _ _ _, fun z => absurd rfl z⟩
  · intro a w n e9 f u d k1 k2 k3 k4 k5 k6 k7 k8 k9 vo he we sr go pk mg mb mp de hmp ht
    rw [e] at h
    have hd := ht 0 (Nat.le_refl _) (Nat.zero_le _) r hr
    rw [Nat.sub_zero, show 65 * 0 + r = r by omega] at hd
    rw [ex, nI_clamp (n := r) (by omega), hd]
    exact ⟨fun z => absurd z (by decide), fun _ _ => h _ _ _ _ _ _ _ _ _ _ _ _ _ _ _ _ _ _ _ _ _ _ _ _ _ _⟩
theorem sq8_lasts {x y z : Int32} {Φ : PIm} (hR : RPY 0 m st ce ip ln be co ca ic il im ac aC ls tw lf lt cd) (hO : MO9 m) (h : FWq (f_lasts m x y z) Φ) : wl_X8_lasts st ce ip ln be co ca ic il im ac aC ls tw lf lt cd x y z th a0 w0 n0 e0 f0 u0 d0 k1 k2 k3 k4 k5 k6 k7 k8 k9 vo he we sr go pk mg mb mp de Φ := by
  have h16 : nL m.1 ≤ 16 := hO.1.2.2.2.2.2.2.2.2.1
  have h4 : nS m.1 ≤ 4 := hO.1.1
  have hln : ln 0 = nI (nL m.1) := hR.1.2.2.2.1
  have hno : (lsO m.1 x = none ∨ ixO y (nL m.1) = none ∨ (¬ z = 0 ∧ ¬ z = 1)) → FWq (-1) Φ := by
    intro q
    have e : f_lasts m x y z = -1 := by
      unfold f_lasts
      split
      · rename_i r l e1 e2
        rcases q with q | q | q
        · rw [e1] at q; cases q
        · rw [e2] at q; cases q
        · rw [if_neg q.1, if_neg q.2]
      · rfl
    rw [e] at h
    exact h
  unfold wl_X8_lasts
  refine sq8_isLine hln (by omega) (fun e => ⟨fun _ => hno (Or.inr (Or.inl e)) _ _ _ _ _ _ _ _ _ _ _ _ _ _ _ _ _ _ _ _ _ _ _ _ _ _, fun z => absurd rfl z⟩) (fun l hl ey el => ⟨fun z => absurd z (by decide), fun _ => ?_⟩)
  refine sq8_wi (m := 1) (by decide) (fun e2 => ⟨fun _ => hno (Or.inr (Or.inr ⟨fun q => ixO_no (by decide) e2 ⟨0, by decide, q⟩, fun q => ixO_no (by decide) e2 ⟨1, by decide, q⟩⟩)) _ _ _ _ _ _ _ _ _ _ _ _ _ _ _ _ _ _ _ _ _ _ _ _ _ _, fun z => absurd rfl z⟩) (fun zi hzi ez _ => ⟨fun z => absurd z (by decide), fun _ => ?_⟩)
  refine sq8_isLasting hR hO ⟨fun e => ?_, fun r e ex hr hn hb => ?_⟩
  · intro a w n e9 f u d k1 k2 k3 k4 k5 k6 k7 k8 k9 vo he we sr go pk mg mb mp de
    exact ⟨fun z => absurd rfl z, fun _ => hno (Or.inl e) _ _ _ _ _ _ _ _ _ _ _ _ _ _ _ _ _ _ _ _ _ _ _ _ _ _⟩
  · intro a w n e9 f u d k1 k2 k3 k4 k5 k6 k7 k8 k9 vo he we sr go pk mg mb mp de hmp ht
    unfold f_lasts at h
    rw [e, el] at h
    have h : FWq (if z = 0 then (amI (lsG m.1 (pkG m.1) r l).2).1 else if z = 1 then (amI (lsG m.1 (pkG m.1) r l).2).2 else -1) Φ := h
    refine ⟨fun _ => ?_, fun q => absurd q (by decide)⟩
    rw [ex, ey]
    -- line by line
    have k38 : ∀ (fu i : Nat), i ≤ l → ll_X8_lasts_38 st ce ip ln be co ca ic il im ac aC ls tw lf lt cd (nI r) (nI l) z Φ fu 0 a w n e9 f u d k1 k2 k3 k4 k5 k6 k7 k8 k9 vo he we sr go pk mg mb mp de (nI (lsG m.1 (pkG m.1) r i).1) (nI i) := by
      intro fu
      induction fu with
      | zero => intros; trivial
      | succ fu ih =>
        intro i hi
        show bl_X8_lasts_38 _ _ _ _ _ _ _ _ _ _ _ _ _ _ _ _ _ _ _ _ _ _ _ _ _ _ _ _ _ _ _ _ _ _ _ _ _ _ _ _ _ _ _ _ _ _ _ _ _ _ _
        unfold bl_X8_lasts_38
        rw [hln, nI_leI (by omega) (by omega)]
        refine ⟨fun q => absurd q (by omega), fun _ => ?_⟩
        obtain ⟨a1, a2, j, a3, a4, a5, a6⟩ := lsG_ok hO.1 hb i (by omega)
        have ej := lsG_2 (g := m.1) (pk := pkG m.1) (room := r) i
        rw [a3] at ej
        obtain ⟨c1, c2, c3⟩ := am_some ej.symm
        have nx := ih (i + 1)
        have es : (lsG m.1 (pkG m.1) r (i + 1)).1 = (lsG m.1 (pkG m.1) r i).1 - (1 + j % 4) := by rw [lsG_s, a3]; rfl
        have k52 : ∀ (fu2 t : Nat), t ≤ j → ll_X8_lasts_52 st ce ip ln be co ca ic il im ac aC ls tw lf lt cd (nI r) (nI l) z (ll_X8_lasts_38 st ce ip ln be co ca ic il im ac aC ls tw lf lt cd (nI r) (nI l) z Φ fu) Φ fu2 0 a w n e9 f u d k1 k2 k3 k4 k5 k6 k7 k8 k9 vo he we sr go pk mg mb mp de (nI (lsG m.1 (pkG m.1) r i).1) (nI i) (nI t) := by
          intro fu2
          induction fu2 with
          | zero => intros; trivial
          | succ fu2 ih2 =>
            intro t ht'
            show bl_X8_lasts_52 _ _ _ _ _ _ _ _ _ _ _ _ _ _ _ _ _ _ _ _ _ _ _ _ _ _ _ _ _ _ _ _ _ _ _ _ _ _ _ _ _ _ _ _ _ _ _ _ _ _ _ _ _
            unfold bl_X8_lasts_52
            have e41 : nI t / (4 : Int32) = nI (t / 4) := pk_div (d := 4) (by omega) (by decide) (by decide)
            have e42 : nI t - nI t / (4 : Int32) * 4 = nI (t % 4) := pk_rem (d := 4) (by omega) (by decide) (by decide)
            have e43 : (1 : Int32) + nI (t % 4) = nI (1 + t % 4) := nI_add 1 (t % 4)
            rw [e42, e43, e41, show (65 : Int32) = nI 65 from rfl, pk_mul, nI_add, nI_clamp (n := 65 * i + (lsG m.1 (pkG m.1) r i).1) (by omega), nI_eq (by omega) (by omega), nI_1, nI_1]
            refine sq8_lastsBy hR.1.1 hO.1 hmp (by omega) (by omega) (by omega) (by omega) (by omega) (fun l' p q r2 hr2 => ht l' (Nat.zero_le _) q r2 hr2) (fun _ => ?_)
            rw [ht i (Nat.zero_le _) (by omega) _ (by omega), leG_s (by omega : i < nL m.1), ← c2]
            have hv1 : lbG m.1 (pkG m.1 i) (leG m.1 (pkG m.1) (nL m.1 - (i + 1))) (lsG m.1 (pkG m.1) r i).1 (t / 4) (1 + t % 4) = fG m.1 (pkG m.1 i) (leG m.1 (pkG m.1) (nL m.1 - (i + 1))) (lsG m.1 (pkG m.1) r i).1 t := rfl
            have hle : ∀ t, fG m.1 (pkG m.1 i) (leG m.1 (pkG m.1) (nL m.1 - (i + 1))) (lsG m.1 (pkG m.1) r i).1 t ≤ 1000000 := fun t => by unfold fG lbG; split <;> omega
            have h1t := hle t
            have h1j := hle j
            rw [hv1, nI_eq (by omega) (by omega)]
            have c3 := c3 t
            rw [← c2] at c3
            refine ⟨fun q => ?_, fun q => ?_⟩
            · have etj : t = j := by
                by_cases q2 : t = j
                · exact q2
                · exact absurd q (c3 (by omega))
              rw [etj, pk_sub a5, ← es]
              refine ⟨fun q2 => nx (by omega), fun q2 => ?_⟩
              have e3 : (lsG m.1 (pkG m.1) r l).2 = some j := by rw [← q2]; exact a3
              rw [e3] at h
              have h : FWq (if z = 0 then nI (j / 4) else if z = 1 then nI (1 + j % 4) else -1) Φ := h
              refine ⟨fun q3 => ?_, fun q3 => ?_⟩
              · have : zi = 1 := by
                  have q0 : ¬ zi = 0 := fun q => q3 (by rw [ez, q]; rfl)
                  omega
                subst this
                rw [if_neg q3, if_pos (by rw [ez]; rfl)] at h
                exact h _ _ _ _ _ _ _ _ _ _ _ _ _ _ _ _ _ _ _ _ _ _ _ _ _ _
              · rw [if_pos q3] at h
                exact h _ _ _ _ _ _ _ _ _ _ _ _ _ _ _ _ _ _ _ _ _ _ _ _ _ _
            · exact ih2 (t + 1) (by
                have : ¬ t = j := fun e => q (by rw [e])
                omega)
        exact fun n_ => k52 n_ 0 (Nat.zero_le _)
    exact fun fu => k38 fu 0 (Nat.zero_le _)
end RL9
end
section
/-- a machine of the class's that stands: hand, mark -/
def CMV (m : MS) (w s n k u : Int32) (st tw wo ce ke : Nat → Int32) : Prop := w = 0 ∧ MO9 m ∧ CLs m.1 m.2.1 m.2.2.1 st tw ∧ CH9 m.1 m.2.2.2 s n k u wo ce ke
section CMK
variable {m m' : MS} {hp kp : Nat} {hw hs hn ha hb kw ks kn ka kb : Int32} {hst htw hwo hce hke kst ktw kwo kce kke bm : Nat → Int32}
theorem sq1_copy {op mp : Nat} {w s n a b mw ms mn ma mb : Int32} {os ot oo oc ok st tw wo ce ke : Nat → Int32} {Φ : Nat → Int32 → Int32 → Int32 → Int32 → Int32 → (Nat → Int32) → (Nat → Int32) → (Nat → Int32) → (Nat → Int32) → (Nat → Int32) → Prop} (hM : CMV m w s n a b os ot oo oc ok) (hΦ : ∀ st' tw' wo' ce' ke', CMV m w s n a b st' tw' wo' ce' ke' → Φ op w s n a b st' tw' wo' ce' ke') : wl_X1_copy op w s n a b os ot oo oc ok 200 200 mp mw ms mn ma mb st tw wo ce ke Φ := by
  obtain ⟨h1, h2, h3, h4⟩ := hM
  have h16 : nL m.1 ≤ 16 := h2.1.2.2.2.2.2.2.2.2.1
  have h6 : nC m.1 ≤ 6 := h2.1.2.2.1
  unfold wl_X1_copy wl_X1_layLike
  rw [if_min (by decide) (by decide), Nat.min_self, nI_clamp (n := 200) (by decide)]
  refine sq_fill (rl := 16) (by decide) (fun ar _ _ _ _ _ => hΦ _ _ _ _ _ ⟨h1, h2, h3.cpy h16, h4.1, h4.2.1, h4.2.2.1, h4.2.2.2.1, fun i hi => ?_, fun z i hi => ?_, fun i y hy hi => ?_⟩)
  · rw [pk_cpy_in (Nat.zero_le _) (by omega), show 0 + (i - 0) = i by omega]; exact h4.2.2.2.2.1 i hi
  · rw [pk_cpy_in (Nat.zero_le _) (by omega), show 0 + (i - 0) = i by omega]; exact h4.2.2.2.2.2.1 z i hi
  · rw [pk_cpy_in (Nat.zero_le _) (by omega), show 0 + (i - 0) = i by omega]; exact h4.2.2.2.2.2.2 i y hy hi
theorem sq7_mark0 {y : Int32} {Φ : PCmk} (hH : CMV m hw hs hn ha hb hst htw hwo hce hke) (hK : CMV m' kw ks kn ka kb kst ktw kwo kce kke)
    (h0 : ¬ y = 0 → bm 0 = 0 → Φ 0 hp hw hs hn ha hb hst htw hwo hce hke bm kp kw ks kn ka kb kst ktw kwo kce kke)
    (h1 : ∀ kst' ktw' kwo' kce' kke' : Nat → Int32, y = 0 → CMV m hw hs hn ha hb kst' ktw' kwo' kce' kke' → Φ 1 hp hw hs hn ha hb hst htw hwo hce hke (upd bm 0 (vp_nar .boolean 1)) hp hw hs hn ha hb kst' ktw' kwo' kce' kke')
    (h2 : ∀ hst' htw' hwo' hce' hke' : Nat → Int32, ¬ y = 0 → ¬ bm 0 = 0 → CMV m' kw ks kn ka kb hst' htw' hwo' hce' hke' → Φ 1 kp kw ks kn ka kb hst' htw' hwo' hce' hke' bm kp kw ks kn ka kb kst ktw kwo kce kke) : wl_X7_mark0 y hp hw hs hn ha hb hst htw hwo hce hke bm kp kw ks kn ka kb kst ktw kwo kce kke Φ := by
  unfold wl_X7_mark0
  refine ⟨fun z => absurd z (by decide), fun _ => ⟨fun z => absurd z (by decide), fun _ => ⟨fun z => absurd z (by decide), fun _ => ⟨fun ey => ?_, fun ey => ⟨fun eb => ?_, fun eb => h0 ey eb⟩⟩⟩⟩⟩
  · exact ⟨fun _ => sq1_copy hH (fun st' tw' wo' ce' ke' h => h1 _ _ _ _ _ ey h), fun z => absurd ey z⟩
  · exact ⟨fun z => absurd z ey, fun _ => sq1_copy hK (fun st' tw' wo' ce' ke' h => h2 _ _ _ _ _ ey eb h)⟩
theorem sq7_mark1 {y : Int32} {Φ : PCmk} (hH : CMV m hw hs hn ha hb hst htw hwo hce hke) (hK : CMV m' kw ks kn ka kb kst ktw kwo kce kke)
    (h0 : ¬ y = 0 → bm 1 = 0 → Φ 0 hp hw hs hn ha hb hst htw hwo hce hke bm kp kw ks kn ka kb kst ktw kwo kce kke)
    (h1 : ∀ kst' ktw' kwo' kce' kke' : Nat → Int32, y = 0 → CMV m hw hs hn ha hb kst' ktw' kwo' kce' kke' → Φ 1 hp hw hs hn ha hb hst htw hwo hce hke (upd bm 1 (vp_nar .boolean 1)) hp hw hs hn ha hb kst' ktw' kwo' kce' kke')
    (h2 : ∀ hst' htw' hwo' hce' hke' : Nat → Int32, ¬ y = 0 → ¬ bm 1 = 0 → CMV m' kw ks kn ka kb hst' htw' hwo' hce' hke' → Φ 1 kp kw ks kn ka kb hst' htw' hwo' hce' hke' bm kp kw ks kn ka kb kst ktw kwo kce kke) : wl_X7_mark1 y hp hw hs hn ha hb hst htw hwo hce hke bm kp kw ks kn ka kb kst ktw kwo kce kke Φ := by
  unfold wl_X7_mark1
  refine ⟨fun z => absurd z (by decide), fun _ => ⟨fun z => absurd z (by decide), fun _ => ⟨fun z => absurd z (by decide), fun _ => ⟨fun ey => ?_, fun ey => ⟨fun eb => ?_, fun eb => h0 ey eb⟩⟩⟩⟩⟩
  · exact ⟨fun _ => sq1_copy hH (fun st' tw' wo' ce' ke' h => h1 _ _ _ _ _ ey h), fun z => absurd ey z⟩
  · exact ⟨fun z => absurd z ey, fun _ => sq1_copy hK (fun st' tw' wo' ce' ke' h => h2 _ _ _ _ _ ey eb h)⟩
theorem sq7_mark2 {y : Int32} {Φ : PCmk} (hH : CMV m hw hs hn ha hb hst htw hwo hce hke) (hK : CMV m' kw ks kn ka kb kst ktw kwo kce kke)
    (h0 : ¬ y = 0 → bm 2 = 0 → Φ 0 hp hw hs hn ha hb hst htw hwo hce hke bm kp kw ks kn ka kb kst ktw kwo kce kke)
    (h1 : ∀ kst' ktw' kwo' kce' kke' : Nat → Int32, y = 0 → CMV m hw hs hn ha hb kst' ktw' kwo' kce' kke' → Φ 1 hp hw hs hn ha hb hst htw hwo hce hke (upd bm 2 (vp_nar .boolean 1)) hp hw hs hn ha hb kst' ktw' kwo' kce' kke')
    (h2 : ∀ hst' htw' hwo' hce' hke' : Nat → Int32, ¬ y = 0 → ¬ bm 2 = 0 → CMV m' kw ks kn ka kb hst' htw' hwo' hce' hke' → Φ 1 kp kw ks kn ka kb hst' htw' hwo' hce' hke' bm kp kw ks kn ka kb kst ktw kwo kce kke) : wl_X7_mark2 y hp hw hs hn ha hb hst htw hwo hce hke bm kp kw ks kn ka kb kst ktw kwo kce kke Φ := by
  unfold wl_X7_mark2
  refine ⟨fun z => absurd z (by decide), fun _ => ⟨fun z => absurd z (by decide), fun _ => ⟨fun z => absurd z (by decide), fun _ => ⟨fun ey => ?_, fun ey => ⟨fun eb => ?_, fun eb => h0 ey eb⟩⟩⟩⟩⟩
  · exact ⟨fun _ => sq1_copy hH (fun st' tw' wo' ce' ke' h => h1 _ _ _ _ _ ey h), fun z => absurd ey z⟩
  · exact ⟨fun z => absurd z ey, fun _ => sq1_copy hK (fun st' tw' wo' ce' ke' h => h2 _ _ _ _ _ ey eb h)⟩
theorem sq7_mark3 {y : Int32} {Φ : PCmk} (hH : CMV m hw hs hn ha hb hst htw hwo hce hke) (hK : CMV m' kw ks kn ka kb kst ktw kwo kce kke)
    (h0 : ¬ y = 0 → bm 3 = 0 → Φ 0 hp hw hs hn ha hb hst htw hwo hce hke bm kp kw ks kn ka kb kst ktw kwo kce kke)
    (h1 : ∀ kst' ktw' kwo' kce' kke' : Nat → Int32, y = 0 → CMV m hw hs hn ha hb kst' ktw' kwo' kce' kke' → Φ 1 hp hw hs hn ha hb hst htw hwo hce hke (upd bm 3 (vp_nar .boolean 1)) hp hw hs hn ha hb kst' ktw' kwo' kce' kke')
    (h2 : ∀ hst' htw' hwo' hce' hke' : Nat → Int32, ¬ y = 0 → ¬ bm 3 = 0 → CMV m' kw ks kn ka kb hst' htw' hwo' hce' hke' → Φ 1 kp kw ks kn ka kb hst' htw' hwo' hce' hke' bm kp kw ks kn ka kb kst ktw kwo kce kke) : wl_X7_mark3 y hp hw hs hn ha hb hst htw hwo hce hke bm kp kw ks kn ka kb kst ktw kwo kce kke Φ := by
  unfold wl_X7_mark3
  refine ⟨fun z => absurd z (by decide), fun _ => ⟨fun z => absurd z (by decide), fun _ => ⟨fun z => absurd z (by decide), fun _ => ⟨fun ey => ?_, fun ey => ⟨fun eb => ?_, fun eb => h0 ey eb⟩⟩⟩⟩⟩
  · exact ⟨fun _ => sq1_copy hH (fun st' tw' wo' ce' ke' h => h1 _ _ _ _ _ ey h), fun z => absurd ey z⟩
  · exact ⟨fun z => absurd z ey, fun _ => sq1_copy hK (fun st' tw' wo' ce' ke' h => h2 _ _ _ _ _ ey eb h)⟩
end CMK
end
section
section CSM
variable {m m' : MS} {cl : Nat} {pst pce pgi pln : Int32} {be co to gc le gr ac sq tg fr mi en cd : Nat → Int32} {st tw : Nat → Int32} {cl2 : Nat} {pst2 pce2 pgi2 pln2 : Int32} {be2 co2 to2 gc2 le2 gr2 ac2 sq2 tg2 fr2 mi2 en2 cd2 : Nat → Int32} {st2 tw2 bm : Nat → Int32} {pg kp : Nat} {wp : Nat} {ww ws wn wa wb : Int32} {wst wtw wwo wce wke wsk : Nat → Int32} {gp : Nat} {gw gs gn ga gb : Int32} {gst gtw gwo gce gke gsk : Nat → Int32}
theorem sq7_cmp {Φ : Int32 → Prop} (hQ : PQ9 m.1 pst pce pgi pln be co to gc le gr ac sq tg fr mi en cl cd) (hQ2 : PQ9 m'.1 pst2 pce2 pgi2 pln2 be2 co2 to2 gc2 le2 gr2 ac2 sq2 tg2 fr2 mi2 en2 cl2 cd2) (hO : MO9 m) (hO2 : MO9 m') (h0 : ¬ (0 < nL m.1 ∧ 0 < nL m'.1 ∧ inN m.1 = inN m'.1) → Φ 0) (h1 : 0 < nL m.1 ∧ 0 < nL m'.1 ∧ inN m.1 = inN m'.1 → Φ 1) : wl_X7_comparable pgi pln le gr pgi2 pln2 le2 gr2 Φ := by
  have i1 := hQ.2.2.2.2.2.2.2.2.2.1.1
  have i2 := hQ2.2.2.2.2.2.2.2.2.2.1.1
  have eln : pln = nI (nL m.1) := hQ.2.2.2.2.2.2.1
  have eln2 : pln2 = nI (nL m'.1) := hQ2.2.2.2.2.2.2.1
  have h16 : nL m.1 ≤ 16 := hQ.2.2.1
  have h162 : nL m'.1 ≤ 16 := hQ2.2.2.1
  have h64 := inN_64 hO.1
  have h642 := inN_64 hO2.1
  have q0 : pln ≤ 0 ↔ nL m.1 ≤ 0 := by rw [eln]; exact nI_leI (b := 0) (by omega) (by decide)
  have q1 : pln2 ≤ 0 ↔ nL m'.1 ≤ 0 := by rw [eln2]; exact nI_leI (b := 0) (by omega) (by decide)
  unfold wl_X7_comparable
  rw [q0, q1, hQ.2.2.2.2.2.1, hQ2.2.2.2.2.2.1]
  refine ⟨fun z => h0 (fun q => by omega), fun z => ⟨fun z2 => h0 (fun q => by omega), fun z2 => sq2_icount i1 (sq2_icount i2 ?_)⟩⟩
  have e : nI (many m.1.2.2.1) = nI (many m'.1.2.2.1) ↔ inN m.1 = inN m'.1 := nI_eq (by have : many m.1.2.2.1 ≤ 64 := h64; omega) (by have : many m'.1.2.2.1 ≤ 64 := h642; omega)
  rw [e]
  exact ⟨fun z3 => h0 (fun q => z3 q.2.2), fun z3 => h1 ⟨by omega, by omega, z3⟩⟩
theorem sq1_isEndless {x : PM} {s : Int32} {Φ : Int32 → Prop} (hs : s = nI x.1) (h12 : x.1 = 1 ∨ x.1 = 2) (h : Φ (if x.1 = 1 then 1 else 0)) : wl_X1_isEndless s Φ := by
  unfold wl_X1_isEndless
  have q : s = 1 ↔ x.1 = 1 := by rw [hs]; exact nI_eq (b := 1) (by omega) (by decide)
  rw [q]
  exact ⟨fun z => by rw [if_neg z] at h; exact h, fun z => by rw [if_pos z] at h; exact h⟩
theorem endl_eq {a b : Nat} (ha : a = 1 ∨ a = 2) (hb : b = 1 ∨ b = 2) : ((if a = 1 then (1 : Int32) else 0) = if b = 1 then 1 else 0) ↔ a = b := by
  rcases ha with rfl | rfl <;> rcases hb with rfl | rfl <;> decide
theorem sq7_same0 {Φ : PW2} (hQ : PQ9 m.1 pst pce pgi pln be co to gc le gr ac sq tg fr mi en cl cd) (hQ2 : PQ9 m'.1 pst2 pce2 pgi2 pln2 be2 co2 to2 gc2 le2 gr2 ac2 sq2 tg2 fr2 mi2 en2 cl2 cd2) (hO : MO9 m) (hO2 : MO9 m') (hc : CLs m.1 m.2.1 m.2.2.1 st tw) (hc2 : CLs m'.1 m'.2.1 m'.2.2.1 st2 tw2) (hno : bm 0 = 0 → AWq2 (-2) Φ) (hyes : ¬ bm 0 = 0 → AWq2 (sameM m m') Φ) : wl_X7_same0 st tw bm st2 tw2 pce pgi pln be to gc le gr ac tg fr mi en cd pce2 pgi2 pln2 be2 to2 gc2 le2 gr2 ac2 tg2 fr2 mi2 en2 cd2 cl cl2 pg kp wp ww ws wn wa wb wst wtw wwo wce wke wsk gp gw gs gn ga gb gst gtw gwo gce gke gsk Φ := by
  have i1 := hQ.2.2.2.2.2.2.2.2.2.1.1
  have h64 := inN_64 hO.1
  unfold wl_X7_same0
  refine ⟨fun z => absurd z (by decide), fun _ => ⟨fun z => absurd z (by decide), fun _ => ⟨fun z => absurd z (by decide), fun _ => ⟨fun eb => hno eb _ _ _ _ _ _ _ _ _ _ _ _ _ _ _ _ _ _ _ _ _ _ _ _, fun eb => ?_⟩⟩⟩⟩
  have h := hyes eb
  unfold sameM at h
  refine sq7_cmp hQ hQ2 hO hO2 (fun w => ⟨fun z => absurd rfl z, fun _ => by rw [if_neg w] at h; exact h _ _ _ _ _ _ _ _ _ _ _ _ _ _ _ _ _ _ _ _ _ _ _ _⟩) (fun w => ⟨fun _ => ?_, fun z => absurd z (by decide)⟩)
  rw [if_pos w] at h
  obtain ⟨w0, w1, w2⟩ := w
  have key : ∀ (f i : Nat) (wp : Nat) (ww ws wn wa wb : Int32) (wst wtw wwo wce wke wsk : Nat → Int32) (gp : Nat) (gw gs gn ga gb : Int32) (gst gtw gwo gce gke gsk : Nat → Int32), i ≤ inN m.1 → fdG (fun i => decide (¬ ((rn2 m i).2.2.2.2.2 = (rn2 m' i).2.2.2.2.2 ∧ (rn2 m i).1 = (rn2 m' i).1))) (inN m.1) 0 = fdG (fun i => decide (¬ ((rn2 m i).2.2.2.2.2 = (rn2 m' i).2.2.2.2.2 ∧ (rn2 m i).1 = (rn2 m' i).1))) (inN m.1 - i) i → ll_X7_same0_49 st tw bm st2 tw2 pce pgi pln be to gc le gr ac tg fr mi en cd pce2 pgi2 pln2 be2 to2 gc2 le2 gr2 ac2 tg2 fr2 mi2 en2 cd2 cl cl2 pg kp Φ f wp ww ws wn wa wb wst wtw wwo wce wke wsk gp gw gs gn ga gb gst gtw gwo gce gke gsk (nI (inN m.1)) (nI i) := by
    intro f
    induction f with
    | zero => intros; trivial
    | succ f ih =>
      intro i wp ww ws wn wa wb wst wtw wwo wce wke wsk gp gw gs gn ga gb gst gtw gwo gce gke gsk hi ef
      show bl_X7_same0_49 _ _ _ _ _ _ _ _ _ _ _ _ _ _ _ _ _ _ _ _ _ _ _ _ _ _ _ _ _ _ _ _ _ _ _ _ _ _ _ _ _ _ _ _ _ _ _ _ _ _ _ _ _ _ _ _ _ _ _ _ _ _ _ _ _
      unfold bl_X7_same0_49
      rw [nI_leI (by omega) (by omega), nI_1]
      refine ⟨fun y => ?_, fun y => ?_⟩
      · have e0 : inN m.1 - i = 0 := by omega
        rw [ef, e0] at h
        exact h _ _ _ _ _ _ _ _ _ _ _ _ _ _ _ _ _ _ _ _ _ _ _ _
      · have hp : PMo m.1 2 (rn2 m i) := rn_pmo w0
        have hk : (rn2 m i).2.2.1 ≤ 1000 := rn2_k m i
        have hp2 : PMo m'.1 2 (rn2 m' i) := rn_pmo w1
        have hk2 : (rn2 m' i).2.2.1 ≤ 1000 := rn2_k m' i
        have s1 : (rn2 m i).1 = 1 ∨ (rn2 m i).1 = 2 := rn2_12 m i
        have s2 : (rn2 m' i).1 = 1 ∨ (rn2 m' i).1 = 2 := rn2_12 m' i
        refine sq7_walk (wy := 2) (kn := 1000) hQ hO.1 hO.2.1 hc (by decide) w0 (by omega) (by decide) (fun s' n' k' u' st' tw' wo' ce' ke' sk' hM => ?_)
        refine sq7_walk (wy := 2) (kn := 1000) hQ2 hO2.1 hO2.2.1 hc2 (by decide) w1 (by omega) (by decide) (fun s2' n2' k2' u2' st2' tw2' wo2' ce2' ke2' sk2' hM2 => ?_)
        have hM : CM9 m.1 1000 (rn2 m i) s' n' k' u' wo' ce' ke' := hM
        have hM2 : CM9 m'.1 1000 (rn2 m' i) s2' n2' k2' u2' wo2' ce2' ke2' := hM2
        have es : inN m.1 - i = inN m.1 - (i + 1) + 1 := by omega
        rw [es] at ef
        refine sq1_isEndless hM.1 s1 (sq1_isEndless hM2.1 s2 ?_)
        rw [endl_eq s1 s2]
        refine ⟨fun e => ?_, fun e => ?_⟩
        · rw [fdG_at (by rw [decide_eq_true_eq]; exact fun q => e q.2)] at ef
          rw [ef] at h
          exact h _ _ _ _ _ _ _ _ _ _ _ _ _ _ _ _ _ _ _ _ _ _ _ _
        rw [hM.2.2.2.1, hM2.2.2.2.1]
        refine sq1_wroteLike hM.2.2.2.2.2.2 hM2.2.2.2.2.2.2 (by have := hp.2.2.2.1; omega) (by have := hp2.2.2.2.1; omega) (fun e' => ⟨fun _ => ?_, fun w => absurd w (by decide)⟩) (fun e' => ⟨fun w => absurd rfl w, fun _ => ?_⟩)
        · rw [fdG_no (by rw [decide_eq_true_eq]; exact fun q => q ⟨e', e⟩)] at ef
          exact ih (i + 1) _ _ _ _ _ _ _ _ _ _ _ _ _ _ _ _ _ _ _ _ _ _ _ _ (by omega) ef
        · rw [fdG_at (by rw [decide_eq_true_eq]; exact fun q => e' q.1)] at ef
          rw [ef] at h
          exact h _ _ _ _ _ _ _ _ _ _ _ _ _ _ _ _ _ _ _ _ _ _ _ _
  rw [hQ.2.2.2.2.2.1]
  refine sq2_icount i1 ?_
  rw [← hQ.2.2.2.2.2.1]
  exact fun f => key f 0 _ _ _ _ _ _ _ _ _ _ _ _ _ _ _ _ _ _ _ _ _ _ _ _ (Nat.zero_le _) rfl
theorem sq7_same1 {Φ : PW2} (hQ : PQ9 m.1 pst pce pgi pln be co to gc le gr ac sq tg fr mi en cl cd) (hQ2 : PQ9 m'.1 pst2 pce2 pgi2 pln2 be2 co2 to2 gc2 le2 gr2 ac2 sq2 tg2 fr2 mi2 en2 cl2 cd2) (hO : MO9 m) (hO2 : MO9 m') (hc : CLs m.1 m.2.1 m.2.2.1 st tw) (hc2 : CLs m'.1 m'.2.1 m'.2.2.1 st2 tw2) (hno : bm 1 = 0 → AWq2 (-2) Φ) (hyes : ¬ bm 1 = 0 → AWq2 (sameM m m') Φ) : wl_X7_same1 st tw bm st2 tw2 pce pgi pln be to gc le gr ac tg fr mi en cd pce2 pgi2 pln2 be2 to2 gc2 le2 gr2 ac2 tg2 fr2 mi2 en2 cd2 cl cl2 pg kp wp ww ws wn wa wb wst wtw wwo wce wke wsk gp gw gs gn ga gb gst gtw gwo gce gke gsk Φ := by
  have i1 := hQ.2.2.2.2.2.2.2.2.2.1.1
  have h64 := inN_64 hO.1
  unfold wl_X7_same1
  refine ⟨fun z => absurd z (by decide), fun _ => ⟨fun z => absurd z (by decide), fun _ => ⟨fun z => absurd z (by decide), fun _ => ⟨fun eb => hno eb _ _ _ _ _ _ _ _ _ _ _ _ _ _ _ _ _ _ _ _ _ _ _ _, fun eb => ?_⟩⟩⟩⟩
  have h := hyes eb
  unfold sameM at h
  refine sq7_cmp hQ hQ2 hO hO2 (fun w => ⟨fun z => absurd rfl z, fun _ => by rw [if_neg w] at h; exact h _ _ _ _ _ _ _ _ _ _ _ _ _ _ _ _ _ _ _ _ _ _ _ _⟩) (fun w => ⟨fun _ => ?_, fun z => absurd z (by decide)⟩)
  rw [if_pos w] at h
  obtain ⟨w0, w1, w2⟩ := w
  have key : ∀ (f i : Nat) (wp : Nat) (ww ws wn wa wb : Int32) (wst wtw wwo wce wke wsk : Nat → Int32) (gp : Nat) (gw gs gn ga gb : Int32) (gst gtw gwo gce gke gsk : Nat → Int32), i ≤ inN m.1 → fdG (fun i => decide (¬ ((rn2 m i).2.2.2.2.2 = (rn2 m' i).2.2.2.2.2 ∧ (rn2 m i).1 = (rn2 m' i).1))) (inN m.1) 0 = fdG (fun i => decide (¬ ((rn2 m i).2.2.2.2.2 = (rn2 m' i).2.2.2.2.2 ∧ (rn2 m i).1 = (rn2 m' i).1))) (inN m.1 - i) i → ll_X7_same1_49 st tw bm st2 tw2 pce pgi pln be to gc le gr ac tg fr mi en cd pce2 pgi2 pln2 be2 to2 gc2 le2 gr2 ac2 tg2 fr2 mi2 en2 cd2 cl cl2 pg kp Φ f wp ww ws wn wa wb wst wtw wwo wce wke wsk gp gw gs gn ga gb gst gtw gwo gce gke gsk (nI (inN m.1)) (nI i) := by
    intro f
    induction f with
    | zero => intros; trivial
    | succ f ih =>
      intro i wp ww ws wn wa wb wst wtw wwo wce wke wsk gp gw gs gn ga gb gst gtw gwo gce gke gsk hi ef
      show bl_X7_same1_49 _ _ _ _ _ _ _ _ _ _ _ _ _ _ _ _ _ _ _ _ _ _ _ _ _ _ _ _ _ _ _ _ _ _ _ _ _ _ _ _ _ _ _ _ _ _ _ _ _ _ _ _ _ _ _ _ _ _ _ _ _ _ _ _ _
      unfold bl_X7_same1_49
      rw [nI_leI (by omega) (by omega), nI_1]
      refine ⟨fun y => ?_, fun y => ?_⟩
      · have e0 : inN m.1 - i = 0 := by omega
        rw [ef, e0] at h
        exact h _ _ _ _ _ _ _ _ _ _ _ _ _ _ _ _ _ _ _ _ _ _ _ _
      · have hp : PMo m.1 2 (rn2 m i) := rn_pmo w0
        have hk : (rn2 m i).2.2.1 ≤ 1000 := rn2_k m i
        have hp2 : PMo m'.1 2 (rn2 m' i) := rn_pmo w1
        have hk2 : (rn2 m' i).2.2.1 ≤ 1000 := rn2_k m' i
        have s1 : (rn2 m i).1 = 1 ∨ (rn2 m i).1 = 2 := rn2_12 m i
        have s2 : (rn2 m' i).1 = 1 ∨ (rn2 m' i).1 = 2 := rn2_12 m' i
        refine sq7_walk (wy := 2) (kn := 1000) hQ hO.1 hO.2.1 hc (by decide) w0 (by omega) (by decide) (fun s' n' k' u' st' tw' wo' ce' ke' sk' hM => ?_)
        refine sq7_walk (wy := 2) (kn := 1000) hQ2 hO2.1 hO2.2.1 hc2 (by decide) w1 (by omega) (by decide) (fun s2' n2' k2' u2' st2' tw2' wo2' ce2' ke2' sk2' hM2 => ?_)
        have hM : CM9 m.1 1000 (rn2 m i) s' n' k' u' wo' ce' ke' := hM
        have hM2 : CM9 m'.1 1000 (rn2 m' i) s2' n2' k2' u2' wo2' ce2' ke2' := hM2
        have es : inN m.1 - i = inN m.1 - (i + 1) + 1 := by omega
        rw [es] at ef
        refine sq1_isEndless hM.1 s1 (sq1_isEndless hM2.1 s2 ?_)
        rw [endl_eq s1 s2]
        refine ⟨fun e => ?_, fun e => ?_⟩
        · rw [fdG_at (by rw [decide_eq_true_eq]; exact fun q => e q.2)] at ef
          rw [ef] at h
          exact h _ _ _ _ _ _ _ _ _ _ _ _ _ _ _ _ _ _ _ _ _ _ _ _
        rw [hM.2.2.2.1, hM2.2.2.2.1]
        refine sq1_wroteLike hM.2.2.2.2.2.2 hM2.2.2.2.2.2.2 (by have := hp.2.2.2.1; omega) (by have := hp2.2.2.2.1; omega) (fun e' => ⟨fun _ => ?_, fun w => absurd w (by decide)⟩) (fun e' => ⟨fun w => absurd rfl w, fun _ => ?_⟩)
        · rw [fdG_no (by rw [decide_eq_true_eq]; exact fun q => q ⟨e', e⟩)] at ef
          exact ih (i + 1) _ _ _ _ _ _ _ _ _ _ _ _ _ _ _ _ _ _ _ _ _ _ _ _ (by omega) ef
        · rw [fdG_at (by rw [decide_eq_true_eq]; exact fun q => e' q.1)] at ef
          rw [ef] at h
          exact h _ _ _ _ _ _ _ _ _ _ _ _ _ _ _ _ _ _ _ _ _ _ _ _
  rw [hQ.2.2.2.2.2.1]
  refine sq2_icount i1 ?_
  rw [← hQ.2.2.2.2.2.1]
  exact fun f => key f 0 _ _ _ _ _ _ _ _ _ _ _ _ _ _ _ _ _ _ _ _ _ _ _ _ (Nat.zero_le _) rfl
theorem sq7_same2 {Φ : PW2} (hQ : PQ9 m.1 pst pce pgi pln be co to gc le gr ac sq tg fr mi en cl cd) (hQ2 : PQ9 m'.1 pst2 pce2 pgi2 pln2 be2 co2 to2 gc2 le2 gr2 ac2 sq2 tg2 fr2 mi2 en2 cl2 cd2) (hO : MO9 m) (hO2 : MO9 m') (hc : CLs m.1 m.2.1 m.2.2.1 st tw) (hc2 : CLs m'.1 m'.2.1 m'.2.2.1 st2 tw2) (hno : bm 2 = 0 → AWq2 (-2) Φ) (hyes : ¬ bm 2 = 0 → AWq2 (sameM m m') Φ) : wl_X7_same2 st tw bm st2 tw2 pce pgi pln be to gc le gr ac tg fr mi en cd pce2 pgi2 pln2 be2 to2 gc2 le2 gr2 ac2 tg2 fr2 mi2 en2 cd2 cl cl2 pg kp wp ww ws wn wa wb wst wtw wwo wce wke wsk gp gw gs gn ga gb gst gtw gwo gce gke gsk Φ := by
  have i1 := hQ.2.2.2.2.2.2.2.2.2.1.1
  have h64 := inN_64 hO.1
  unfold wl_X7_same2
  refine ⟨fun z => absurd z (by decide), fun _ => ⟨fun z => absurd z (by decide), fun _ => ⟨fun z => absurd z (by decide), fun _ => ⟨fun eb => hno eb _ _ _ _ _ _ _ _ _ _ _ _ _ _ _ _ _ _ _ _ _ _ _ _, fun eb => ?_⟩⟩⟩⟩
  have h := hyes eb
  unfold sameM at h
  refine sq7_cmp hQ hQ2 hO hO2 (fun w => ⟨fun z => absurd rfl z, fun _ => by rw [if_neg w] at h; exact h _ _ _ _ _ _ _ _ _ _ _ _ _ _ _ _ _ _ _ _ _ _ _ _⟩) (fun w => ⟨fun _ => ?_, fun z => absurd z (by decide)⟩)
  rw [if_pos w] at h
  obtain ⟨w0, w1, w2⟩ := w
  have key : ∀ (f i : Nat) (wp : Nat) (ww ws wn wa wb : Int32) (wst wtw wwo wce wke wsk : Nat → Int32) (gp : Nat) (gw gs gn ga gb : Int32) (gst gtw gwo gce gke gsk : Nat → Int32), i ≤ inN m.1 → fdG (fun i => decide (¬ ((rn2 m i).2.2.2.2.2 = (rn2 m' i).2.2.2.2.2 ∧ (rn2 m i).1 = (rn2 m' i).1))) (inN m.1) 0 = fdG (fun i => decide (¬ ((rn2 m i).2.2.2.2.2 = (rn2 m' i).2.2.2.2.2 ∧ (rn2 m i).1 = (rn2 m' i).1))) (inN m.1 - i) i → ll_X7_same2_49 st tw bm st2 tw2 pce pgi pln be to gc le gr ac tg fr mi en cd pce2 pgi2 pln2 be2 to2 gc2 le2 gr2 ac2 tg2 fr2 mi2 en2 cd2 cl cl2 pg kp Φ f wp ww ws wn wa wb wst wtw wwo wce wke wsk gp gw gs gn ga gb gst gtw gwo gce gke gsk (nI (inN m.1)) (nI i) := by
    intro f
    induction f with
    | zero => intros; trivial
    | succ f ih =>
      intro i wp ww ws wn wa wb wst wtw wwo wce wke wsk gp gw gs gn ga gb gst gtw gwo gce gke gsk hi ef
      show bl_X7_same2_49 _ _ _ _ _ _ _ _ _ _ _ _ _ _ _ _ _ _ _ _ _ _ _ _ _ _ _ _ _ _ _ _ _ _ _ _ _ _ _ _ _ _ _ _ _ _ _ _ _ _ _ _ _ _ _ _ _ _ _ _ _ _ _ _ _
      unfold bl_X7_same2_49
      rw [nI_leI (by omega) (by omega), nI_1]
      refine ⟨fun y => ?_, fun y => ?_⟩
      · have e0 : inN m.1 - i = 0 := by omega
        rw [ef, e0] at h
        exact h _ _ _ _ _ _ _ _ _ _ _ _ _ _ _ _ _ _ _ _ _ _ _ _
      · have hp : PMo m.1 2 (rn2 m i) := rn_pmo w0
        have hk : (rn2 m i).2.2.1 ≤ 1000 := rn2_k m i
        have hp2 : PMo m'.1 2 (rn2 m' i) := rn_pmo w1
        have hk2 : (rn2 m' i).2.2.1 ≤ 1000 := rn2_k m' i
        have s1 : (rn2 m i).1 = 1 ∨ (rn2 m i).1 = 2 := rn2_12 m i
        have s2 : (rn2 m' i).1 = 1 ∨ (rn2 m' i).1 = 2 := rn2_12 m' i
        refine sq7_walk (wy := 2) (kn := 1000) hQ hO.1 hO.2.1 hc (by decide) w0 (by omega) (by decide) (fun s' n' k' u' st' tw' wo' ce' ke' sk' hM => ?_)
        refine sq7_walk (wy := 2) (kn := 1000) hQ2 hO2.1 hO2.2.1 hc2 (by decide) w1 (by omega) (by decide) (fun s2' n2' k2' u2' st2' tw2' wo2' ce2' ke2' sk2' hM2 => ?_)
        have hM : CM9 m.1 1000 (rn2 m i) s' n' k' u' wo' ce' ke' := hM
        have hM2 : CM9 m'.1 1000 (rn2 m' i) s2' n2' k2' u2' wo2' ce2' ke2' := hM2
        have es : inN m.1 - i = inN m.1 - (i + 1) + 1 := by omega
        rw [es] at ef
        refine sq1_isEndless hM.1 s1 (sq1_isEndless hM2.1 s2 ?_)
        rw [endl_eq s1 s2]
        refine ⟨fun e => ?_, fun e => ?_⟩
        · rw [fdG_at (by rw [decide_eq_true_eq]; exact fun q => e q.2)] at ef
          rw [ef] at h
          exact h _ _ _ _ _ _ _ _ _ _ _ _ _ _ _ _ _ _ _ _ _ _ _ _
        rw [hM.2.2.2.1, hM2.2.2.2.1]
        refine sq1_wroteLike hM.2.2.2.2.2.2 hM2.2.2.2.2.2.2 (by have := hp.2.2.2.1; omega) (by have := hp2.2.2.2.1; omega) (fun e' => ⟨fun _ => ?_, fun w => absurd w (by decide)⟩) (fun e' => ⟨fun w => absurd rfl w, fun _ => ?_⟩)
        · rw [fdG_no (by rw [decide_eq_true_eq]; exact fun q => q ⟨e', e⟩)] at ef
          exact ih (i + 1) _ _ _ _ _ _ _ _ _ _ _ _ _ _ _ _ _ _ _ _ _ _ _ _ (by omega) ef
        · rw [fdG_at (by rw [decide_eq_true_eq]; exact fun q => e' q.1)] at ef
          rw [ef] at h
          exact h _ _ _ _ _ _ _ _ _ _ _ _ _ _ _ _ _ _ _ _ _ _ _ _
  rw [hQ.2.2.2.2.2.1]
  refine sq2_icount i1 ?_
  rw [← hQ.2.2.2.2.2.1]
  exact fun f => key f 0 _ _ _ _ _ _ _ _ _ _ _ _ _ _ _ _ _ _ _ _ _ _ _ _ (Nat.zero_le _) rfl
theorem sq7_same3 {Φ : PW2} (hQ : PQ9 m.1 pst pce pgi pln be co to gc le gr ac sq tg fr mi en cl cd) (hQ2 : PQ9 m'.1 pst2 pce2 pgi2 pln2 be2 co2 to2 gc2 le2 gr2 ac2 sq2 tg2 fr2 mi2 en2 cl2 cd2) (hO : MO9 m) (hO2 : MO9 m') (hc : CLs m.1 m.2.1 m.2.2.1 st tw) (hc2 : CLs m'.1 m'.2.1 m'.2.2.1 st2 tw2) (hno : bm 3 = 0 → AWq2 (-2) Φ) (hyes : ¬ bm 3 = 0 → AWq2 (sameM m m') Φ) : wl_X7_same3 st tw bm st2 tw2 pce pgi pln be to gc le gr ac tg fr mi en cd pce2 pgi2 pln2 be2 to2 gc2 le2 gr2 ac2 tg2 fr2 mi2 en2 cd2 cl cl2 pg kp wp ww ws wn wa wb wst wtw wwo wce wke wsk gp gw gs gn ga gb gst gtw gwo gce gke gsk Φ := by
  have i1 := hQ.2.2.2.2.2.2.2.2.2.1.1
  have h64 := inN_64 hO.1
  unfold wl_X7_same3
  refine ⟨fun z => absurd z (by decide), fun _ => ⟨fun z => absurd z (by decide), fun _ => ⟨fun z => absurd z (by decide), fun _ => ⟨fun eb => hno eb _ _ _ _ _ _ _ _ _ _ _ _ _ _ _ _ _ _ _ _ _ _ _ _, fun eb => ?_⟩⟩⟩⟩
  have h := hyes eb
  unfold sameM at h
  refine sq7_cmp hQ hQ2 hO hO2 (fun w => ⟨fun z => absurd rfl z, fun _ => by rw [if_neg w] at h; exact h _ _ _ _ _ _ _ _ _ _ _ _ _ _ _ _ _ _ _ _ _ _ _ _⟩) (fun w => ⟨fun _ => ?_, fun z => absurd z (by decide)⟩)
  rw [if_pos w] at h
  obtain ⟨w0, w1, w2⟩ := w
  have key : ∀ (f i : Nat) (wp : Nat) (ww ws wn wa wb : Int32) (wst wtw wwo wce wke wsk : Nat → Int32) (gp : Nat) (gw gs gn ga gb : Int32) (gst gtw gwo gce gke gsk : Nat → Int32), i ≤ inN m.1 → fdG (fun i => decide (¬ ((rn2 m i).2.2.2.2.2 = (rn2 m' i).2.2.2.2.2 ∧ (rn2 m i).1 = (rn2 m' i).1))) (inN m.1) 0 = fdG (fun i => decide (¬ ((rn2 m i).2.2.2.2.2 = (rn2 m' i).2.2.2.2.2 ∧ (rn2 m i).1 = (rn2 m' i).1))) (inN m.1 - i) i → ll_X7_same3_49 st tw bm st2 tw2 pce pgi pln be to gc le gr ac tg fr mi en cd pce2 pgi2 pln2 be2 to2 gc2 le2 gr2 ac2 tg2 fr2 mi2 en2 cd2 cl cl2 pg kp Φ f wp ww ws wn wa wb wst wtw wwo wce wke wsk gp gw gs gn ga gb gst gtw gwo gce gke gsk (nI (inN m.1)) (nI i) := by
    intro f
    induction f with
    | zero => intros; trivial
    | succ f ih =>
      intro i wp ww ws wn wa wb wst wtw wwo wce wke wsk gp gw gs gn ga gb gst gtw gwo gce gke gsk hi ef
      show bl_X7_same3_49 _ _ _ _ _ _ _ _ _ _ _ _ _ _ _ _ _ _ _ _ _ _ _ _ _ _ _ _ _ _ _ _ _ _ _ _ _ _ _ _ _ _ _ _ _ _ _ _ _ _ _ _ _ _ _ _ _ _ _ _ _ _ _ _ _
      unfold bl_X7_same3_49
      rw [nI_leI (by omega) (by omega), nI_1]
      refine ⟨fun y => ?_, fun y => ?_⟩
      · have e0 : inN m.1 - i = 0 := by omega
        rw [ef, e0] at h
        exact h _ _ _ _ _ _ _ _ _ _ _ _ _ _ _ _ _ _ _ _ _ _ _ _
      · have hp : PMo m.1 2 (rn2 m i) := rn_pmo w0
        have hk : (rn2 m i).2.2.1 ≤ 1000 := rn2_k m i
        have hp2 : PMo m'.1 2 (rn2 m' i) := rn_pmo w1
        have hk2 : (rn2 m' i).2.2.1 ≤ 1000 := rn2_k m' i
        have s1 : (rn2 m i).1 = 1 ∨ (rn2 m i).1 = 2 := rn2_12 m i
        have s2 : (rn2 m' i).1 = 1 ∨ (rn2 m' i).1 = 2 := rn2_12 m' i
        refine sq7_walk (wy := 2) (kn := 1000) hQ hO.1 hO.2.1 hc (by decide) w0 (by omega) (by decide) (fun s' n' k' u' st' tw' wo' ce' ke' sk' hM => ?_)
        refine sq7_walk (wy := 2) (kn := 1000) hQ2 hO2.1 hO2.2.1 hc2 (by decide) w1 (by omega) (by decide) (fun s2' n2' k2' u2' st2' tw2' wo2' ce2' ke2' sk2' hM2 => ?_)
        have hM : CM9 m.1 1000 (rn2 m i) s' n' k' u' wo' ce' ke' := hM
        have hM2 : CM9 m'.1 1000 (rn2 m' i) s2' n2' k2' u2' wo2' ce2' ke2' := hM2
        have es : inN m.1 - i = inN m.1 - (i + 1) + 1 := by omega
        rw [es] at ef
        refine sq1_isEndless hM.1 s1 (sq1_isEndless hM2.1 s2 ?_)
        rw [endl_eq s1 s2]
        refine ⟨fun e => ?_, fun e => ?_⟩
        · rw [fdG_at (by rw [decide_eq_true_eq]; exact fun q => e q.2)] at ef
          rw [ef] at h
          exact h _ _ _ _ _ _ _ _ _ _ _ _ _ _ _ _ _ _ _ _ _ _ _ _
        rw [hM.2.2.2.1, hM2.2.2.2.1]
        refine sq1_wroteLike hM.2.2.2.2.2.2 hM2.2.2.2.2.2.2 (by have := hp.2.2.2.1; omega) (by have := hp2.2.2.2.1; omega) (fun e' => ⟨fun _ => ?_, fun w => absurd w (by decide)⟩) (fun e' => ⟨fun w => absurd rfl w, fun _ => ?_⟩)
        · rw [fdG_no (by rw [decide_eq_true_eq]; exact fun q => q ⟨e', e⟩)] at ef
          exact ih (i + 1) _ _ _ _ _ _ _ _ _ _ _ _ _ _ _ _ _ _ _ _ _ _ _ _ (by omega) ef
        · rw [fdG_at (by rw [decide_eq_true_eq]; exact fun q => e' q.1)] at ef
          rw [ef] at h
          exact h _ _ _ _ _ _ _ _ _ _ _ _ _ _ _ _ _ _ _ _ _ _ _ _
  rw [hQ.2.2.2.2.2.1]
  refine sq2_icount i1 ?_
  rw [← hQ.2.2.2.2.2.1]
  exact fun f => key f 0 _ _ _ _ _ _ _ _ _ _ _ _ _ _ _ _ _ _ _ _ _ _ _ _ (Nat.zero_le _) rfl
theorem sq7_samex {x : Int32} {Φ : Int32 → Prop} (hx : x < 0 ∨ 4 ≤ x) (h : Φ (-2)) : wl_X7_samex bm x Φ := by
  unfold wl_X7_samex wl_X7_within
  exact ⟨fun _ => ⟨fun _ => h, fun z => absurd rfl z⟩, fun z => ⟨fun _ => ⟨fun _ => h, fun z => absurd rfl z⟩, fun z2 => (hx.elim z z2).elim⟩⟩
end CSM
end
section
section RMK
theorem sq8_keepsRow0 {rl n b : Nat} {mk r : Nat → Int32} {Φ : Int32 → (Nat → Int32) → (Nat → Int32) → Prop} (hn : n ≤ rl) (hrl : rl ≤ 1000) (hb : b + n ≤ 1200) (h : ∀ mk' r' : Nat → Int32, (∀ i, i < n → mk' (b + i) = r i) → (∀ i, i < b ∨ b + n ≤ i → mk' i = mk i) → (∀ i, i < n → r' i = r i) → Φ (nI (b + n)) mk' r') : wl_X8_keepsRow rl (nI n) 0 (nI b) mk r Φ := by
  have key : ∀ (m l : Nat) (mk' r' : Nat → Int32), l ≤ n → (∀ i, i < l → mk' (b + i) = r i) → (∀ i, i < b ∨ b + l ≤ i → mk' i = mk i) → (∀ i, r' i = r i) → ll_X8_keepsRow_3 rl (nI n) 0 Φ m (nI (b + l)) mk' r' (nI l) := by
    intro m
    induction m with
    | zero => intros; trivial
    | succ m ih =>
      intro l mk' r' hl h1 h2 h3
      show bl_X8_keepsRow_3 _ _ _ _ _ _ _ _ _
      unfold bl_X8_keepsRow_3
      rw [nI_leI (by omega) (by omega), nI_clamp (n := l) (by omega)]
      refine ⟨fun z => ?_, fun z _ => ⟨fun _ _ => ?_, fun z2 => absurd rfl z2⟩⟩
      · have e : l = n := by omega
        subst e
        exact h mk' r' h1 h2 (fun i _ => h3 i)
      · intro _
        rw [nI_1, nI_1, nI_clamp (n := b + l) (by omega)]
        refine ih (l + 1) _ _ (by omega) (fun i hi => ?_) (fun i hi => ?_) (fun i => ?_)
        · by_cases e : i = l
          · rw [e, pk_us]; exact h3 l
          · rw [pk_un (by omega)]; exact h1 i (by omega)
        · rw [pk_un (by omega)]; exact h2 i (by omega)
        · by_cases e : i = l
          · rw [e, pk_us]; exact h3 l
          · rw [pk_un e]; exact h3 i
  exact fun m => key m 0 mk r (Nat.zero_le _) (fun i hi => absurd hi (Nat.not_lt_zero _)) (fun _ _ => rfl) (fun _ => rfl)
theorem sq8_keepsRow1 {rl n b : Nat} {y : Int32} {mk r : Nat → Int32} {Φ : Int32 → (Nat → Int32) → (Nat → Int32) → Prop} (hy : ¬ y = 0) (hn : n ≤ rl) (hrl : rl ≤ 1000) (hb : b + n ≤ 1200) (h : ∀ r' : Nat → Int32, (∀ i, i < n → r' i = mk (b + i)) → Φ (nI (b + n)) mk r') : wl_X8_keepsRow rl (nI n) y (nI b) mk r Φ := by
  have key : ∀ (m l : Nat) (r' : Nat → Int32), l ≤ n → (∀ i, i < l → r' i = mk (b + i)) → ll_X8_keepsRow_3 rl (nI n) y Φ m (nI (b + l)) mk r' (nI l) := by
    intro m
    induction m with
    | zero => intros; trivial
    | succ m ih =>
      intro l r' hl h1
      show bl_X8_keepsRow_3 _ _ _ _ _ _ _ _ _
      unfold bl_X8_keepsRow_3
      rw [nI_leI (by omega) (by omega), nI_clamp (n := l) (by omega)]
      refine ⟨fun z => ?_, fun z _ => ⟨fun z2 => absurd z2 hy, fun _ _ => ?_⟩⟩
      · have e : l = n := by omega
        subst e
        exact h r' h1
      · intro _
        rw [nI_1, nI_1, nI_clamp (n := b + l) (by omega)]
        refine ih (l + 1) _ (by omega) (fun i hi => ?_)
        by_cases e : i = l
        · rw [e, pk_us]
        · rw [pk_un e]; exact h1 i (by omega)
  exact fun m => key m 0 r (Nat.zero_le _) (fun i hi => absurd hi (Nat.not_lt_zero _))
/-- what a laid mark keeps of the machine -/
def MB (k : Nat) (mk : Nat → Int32) (g : PGr) (x : PM) : Prop := RH9 g x (mk (300 * k)) (mk (300 * k + 1)) (mk (300 * k + 2)) (mk (300 * k + 3)) (fun i => mk (300 * k + 4 + i)) (fun i => mk (300 * k + 10 + i)) (fun i => mk (300 * k + 26 + i))
theorem RH9.cpy {g : PGr} {x : PM} {s n k u : Int32} {hc wo hs hc' wo' hs' : Nat → Int32} (h : RH9 g x s n k u hc wo hs) (h6 : nC g ≤ 6) (a : ∀ i, i < 6 → hc' i = hc i) (b : ∀ i, i < 16 → wo' i = wo i) (c : ∀ i, i < 200 → hs' i = hs i) : RH9 g x s n k u hc' wo' hs' := ⟨h.1, h.2.1, fun z => ⟨(h.2.2.1 z).1, (h.2.2.1 z).2.1, fun i hi => (a i (by omega)).trans ((h.2.2.1 z).2.2.1 i hi), fun i y hy hi => (c i hi).trans ((h.2.2.1 z).2.2.2 i y hy hi)⟩, fun i hi => (b i hi).trans (h.2.2.2 i hi)⟩
theorem MB.keep {k j : Nat} {mk mk' : Nat → Int32} {g : PGr} {x : PM} (h : MB k mk g x) (hG : GK9 g) (hne : ¬ k = j) (hm : ∀ i, i < 300 * j ∨ 300 * j + 226 ≤ i → mk' i = mk i) : MB k mk' g x := by
  have h6 : nC g ≤ 6 := hG.2.2.1
  have e0 : mk' (300 * k) = mk (300 * k) := hm _ (by omega)
  have e1 : mk' (300 * k + 1) = mk (300 * k + 1) := hm _ (by omega)
  have e2 : mk' (300 * k + 2) = mk (300 * k + 2) := hm _ (by omega)
  have e3 : mk' (300 * k + 3) = mk (300 * k + 3) := hm _ (by omega)
  unfold MB at h ⊢
  rw [e0, e1, e2, e3]
  exact h.cpy h6 (fun i hi => hm _ (by omega)) (fun i hi => hm _ (by omega)) (fun i hi => hm _ (by omega))
/-- the reference's hand and marks -/
def RVm (hd : MS) (ms : Nat → MS) (s n k u : Int32) (st ce ip ln be co ca ic il im ac aC ls tw lf lt cd hc wo hs mk : Nat → Int32) : Prop := RPY 0 hd st ce ip ln be co ca ic il im ac aC ls tw lf lt cd ∧ MO9 hd ∧ RH9 hd.1 hd.2.2.2 s n k u hc wo hs ∧ ∀ j, j < 4 → RPY (2 + j) (ms j) st ce ip ln be co ca ic il im ac aC ls tw lf lt cd ∧ MO9 (ms j) ∧ MB j mk (ms j).1 (ms j).2.2.2
def updS (f : Nat → MS) (k : Nat) (x : MS) : Nat → MS := fun i => cond (Nat.beq i k) x (f i)
theorem updS_s {f : Nat → MS} {k : Nat} {x : MS} : updS f k x k = x := by unfold updS; rw [Nat.beq_refl]; rfl
theorem updS_n {f : Nat → MS} {k i : Nat} {x : MS} (h : ¬ i = k) : updS f k x i = f i := by
  unfold updS
  cases e : Nat.beq i k with
  | true => exact absurd (Nat.eq_of_beq_eq_true e) h
  | false => rfl
theorem sq8_keeps0 {b : Nat} {v : Int32} {mk : Nat → Int32} {Φ : Int32 → Int32 → (Nat → Int32) → Prop} (hb : b < 1200) (h : Φ v (nI (b + 1)) (upd mk b v)) : wl_X8_keeps v 0 (nI b) mk Φ := by
  unfold wl_X8_keeps
  rw [nI_clamp (n := b) (by omega), nI_1]
  exact ⟨fun _ _ => h, fun z => absurd rfl z⟩
theorem sq8_keeps1 {b : Nat} {v y : Int32} {mk : Nat → Int32} {Φ : Int32 → Int32 → (Nat → Int32) → Prop} (hy : ¬ y = 0) (hb : b < 1200) (h : Φ (mk b) (nI (b + 1)) mk) : wl_X8_keeps v y (nI b) mk Φ := by
  unfold wl_X8_keeps
  rw [nI_clamp (n := b) (by omega), nI_1]
  exact ⟨fun z => absurd z hy, fun _ _ => h⟩
variable {hd : MS} {ms : Nat → MS} {s n k u ma th : Int32} {st ce ip ln be co ca ic il im ac aC ls tw lf lt cd hc wo hs mk isl : Nat → Int32}
theorem sq8_mark59 {x y : Int32} {j : Nat} {Φ : PMk} (hj : j < 4) (ex : x = nI j) (h6 : nC hd.1 ≤ 6)
    (h0 : y = 0 → ∀ (ma' : Int32) (hc' wo' hs' mk' : Nat → Int32), (∀ i, i < 6 → hc' i = hc i) → (∀ i, i < 16 → wo' i = wo i) → (∀ i, i < 200 → hs' i = hs i) → (∀ (g' : PGr) (x' : PM), nC g' ≤ 6 → RH9 g' x' s n k u hc wo hs → MB j mk' g' x') → (∀ i, i < 300 * j ∨ 300 * j + 226 ≤ i → mk' i = mk i) → Φ 1 th s n k u ma' st ce ip ln be co ca ic il im ac aC ls tw lf lt cd hc' wo' hs' isl mk')
    (h1 : ¬ y = 0 → ∀ (ma' s' n' k' u' : Int32) (hc' wo' hs' : Nat → Int32), (∀ (g' : PGr) (x' : PM), nC g' ≤ 6 → MB j mk g' x' → RH9 g' x' s' n' k' u' hc' wo' hs') → Φ 1 th s' n' k' u' ma' st ce ip ln be co ca ic il im ac aC ls tw lf lt cd hc' wo' hs' isl mk) : kl_X8_mark_59 x y Φ th s n k u ma st ce ip ln be co ca ic il im ac aC ls tw lf lt cd hc wo hs isl mk := by
  unfold kl_X8_mark_59
  have e3 : (300 : Int32) * x = nI (300 * j) := by rw [ex, show (300 : Int32) = nI 300 from rfl, pk_mul]
  rw [e3]
  by_cases hy : y = 0
  · subst hy
    refine sq8_keeps0 (by omega) (sq8_keeps0 (by omega) (sq8_keeps0 (by omega) (sq8_keeps0 (by omega) ?_)))
    refine sq8_keepsRow0 (n := 6) (by decide) (by decide) (by omega) (fun m1 r1 a1 a2 a3 => ?_)
    refine sq8_keepsRow0 (n := 16) (by decide) (by decide) (by omega) (fun m2 r2 b1 b2 b3 => ?_)
    refine sq8_keepsRow0 (n := 200) (by decide) (by decide) (by omega) (fun m3 r3 c1 c2 c3 => ?_)
    have ch : ∀ i, i < 300 * j + 4 → m3 i = (upd (upd (upd (upd mk (300 * j) s) (300 * j + 1) n) (300 * j + 1 + 1) k) (300 * j + 1 + 1 + 1) u) i := fun i hi => (c2 i (by omega)).trans ((b2 i (by omega)).trans (a2 i (by omega)))
    refine h0 rfl _ r1 r2 r3 m3 a3 b3 c3 (fun g' x' g6 hr => ?_) (fun i hi => ?_)
    · have e0 : m3 (300 * j) = s := by rw [ch _ (by omega), pk_un (by omega), pk_un (by omega), pk_un (by omega), pk_us]
      have e1 : m3 (300 * j + 1) = n := by rw [ch _ (by omega), pk_un (by omega), pk_un (by omega), pk_us]
      have e2 : m3 (300 * j + 2) = k := by rw [ch _ (by omega), pk_un (by omega), pk_us]
      have e4 : m3 (300 * j + 3) = u := by rw [ch _ (by omega), pk_us]
      unfold MB
      rw [e0, e1, e2, e4]
      exact hr.cpy g6 (fun i hi => (c2 _ (by omega)).trans ((b2 _ (by omega)).trans (a1 i hi))) (fun i hi => (c2 _ (by omega)).trans (b1 i hi)) (fun i hi => c1 i hi)
    · rw [c2 i (by omega), b2 i (by omega), a2 i (by omega), pk_un (by omega), pk_un (by omega), pk_un (by omega), pk_un (by omega)]
  · refine sq8_keeps1 hy (by omega) (sq8_keeps1 hy (by omega) (sq8_keeps1 hy (by omega) (sq8_keeps1 hy (by omega) ?_)))
    refine sq8_keepsRow1 (n := 6) hy (by decide) (by decide) (by omega) (fun r1 a1 => ?_)
    refine sq8_keepsRow1 (n := 16) hy (by decide) (by decide) (by omega) (fun r2 b1 => ?_)
    refine sq8_keepsRow1 (n := 200) hy (by decide) (by decide) (by omega) (fun r3 c1 => ?_)
    exact h1 hy _ _ _ _ _ r1 r2 r3 (fun g' x' g6 hr => RH9.cpy hr g6 a1 b1 c1)
theorem sq8_mark {x y f0 : Int32} {Φ : PMk} (hV : RVm hd ms s n k u st ce ip ln be co ca ic il im ac aC ls tw lf lt cd hc wo hs mk)
    (h0 : (x < 0 ∨ 3 < x ∨ (¬ y = 0 ∧ isl x.toNatClampNeg = 0)) → Φ 0 0 s n k u ma st ce ip ln be co ca ic il im ac aC ls tw lf lt cd hc wo hs isl mk)
    (h1 : ∀ (j : Nat) (s' n' k' u' ma' : Int32) (st' ce' ip' ln' be' co' ca' ic' il' im' ac' aC' ls' tw' lf' lt' cd' hc' wo' hs' mk' : Nat → Int32), j < 4 → x = nI j → (y = 0 ∨ ¬ isl j = 0) → RVm (if y = 0 then hd else ms j) (if y = 0 then updS ms j hd else ms) s' n' k' u' st' ce' ip' ln' be' co' ca' ic' il' im' ac' aC' ls' tw' lf' lt' cd' hc' wo' hs' mk' → Φ 1 0 s' n' k' u' ma' st' ce' ip' ln' be' co' ca' ic' il' im' ac' aC' ls' tw' lf' lt' cd' hc' wo' hs' (upd isl j (vp_nar .boolean 1)) mk') : wl_X8_mark x y f0 s n k u ma st ce ip ln be co ca ic il im ac aC ls tw lf lt cd hc wo hs isl mk Φ := by
  obtain ⟨v1, v2, v3, v4⟩ := hV
  have h6 : nC hd.1 ≤ 6 := v2.1.2.2.1
  have h16 : nL hd.1 ≤ 16 := v2.1.2.2.2.2.2.2.2.2.1
  unfold wl_X8_mark
  refine sq8_wi (m := 3) (by decide) (fun e2 => ⟨fun _ => h0 ?_, fun z => absurd rfl z⟩) (fun j hj ej _ => ⟨fun z => absurd z (by decide), fun _ => ?_⟩)
  · by_cases a : x < 0
    · exact Or.inl a
    · by_cases b : 3 < x
      · exact Or.inr (Or.inl b)
      · exfalso
        obtain ⟨i, hi, ei⟩ := nI_of2 (M := 3) (n := 3) (by decide) a (Int32.not_lt.mp b)
        exact ixO_no (by decide) e2 ⟨i, by omega, ei⟩
  have ecl : x.toNatClampNeg = j := by rw [ej, nI_clamp (by omega)]
  rw [ecl] at h0 ⊢
  have e2 : (2 : Int32) + x = nI (2 + j) := by rw [ej, show (2 : Int32) = nI 2 from rfl, nI_add]
  have go : (y = 0 ∨ ¬ isl j = 0) → kl_X8_mark_29 x y Φ 0 s n k u ma st ce ip ln be co ca ic il im ac aC ls tw lf lt cd hc wo hs isl mk := by
    intro hor
    unfold kl_X8_mark_29
    rw [e2, ecl]
    refine fun _ => ⟨fun ey => ?_, fun ey => ?_⟩
    · refine sq8_lays (f := 0) (g := 2 + j) (by decide) (by omega) (by omega) (fun st' ce' ip' ln' be' co' ca' ic' il' im' ac' aC' ls' tw' lf' lt' cd' hly => ?_)
      refine sq8_mark59 (hd := hd) hj ej h6 (fun _ ma' hc' wo' hs' mk' a b c d e => ?_) (fun z => absurd ey z)
      refine h1 j s n k u ma' st' ce' ip' ln' be' co' ca' ic' il' im' ac' aC' ls' tw' lf' lt' cd' hc' wo' hs' mk' hj ej hor ?_
      rw [if_pos ey, if_pos ey]
      refine ⟨⟨hly.2.1 0 _ (by decide) (by omega) v2.1 v1.1, hly.2.2.2 0 _ _ _ (by decide) (by omega) h16 v1.2⟩, v2, v3.cpy h6 a b c, fun i hi => ?_⟩
      by_cases ei : i = j
      · subst ei
        rw [updS_s]
        exact ⟨⟨hly.1 _ v2.1 v1.1, hly.2.2.1 _ _ _ h16 v1.2⟩, v2, d _ _ h6 v3⟩
      · rw [updS_n ei]
        obtain ⟨w1, w2, w3⟩ := v4 i hi
        have hl : nL (ms i).1 ≤ 16 := w2.1.2.2.2.2.2.2.2.2.1
        exact ⟨⟨hly.2.1 _ _ (by omega) (by omega) w2.1 w1.1, hly.2.2.2 _ _ _ _ (by omega) (by omega) hl w1.2⟩, w2, w3.keep w2.1 ei e⟩
    · obtain ⟨u1, u2, u3⟩ := v4 j hj
      have g16 : nL (ms j).1 ≤ 16 := u2.1.2.2.2.2.2.2.2.2.1
      refine sq8_lays (f := 2 + j) (g := 0) (by omega) (by decide) (by omega) (fun st' ce' ip' ln' be' co' ca' ic' il' im' ac' aC' ls' tw' lf' lt' cd' hly => ?_)
      refine sq8_mark59 (hd := hd) hj ej h6 (fun z => absurd z ey) (fun _ ma' s' n' k' u' hc' wo' hs' d => ?_)
      refine h1 j s' n' k' u' ma' st' ce' ip' ln' be' co' ca' ic' il' im' ac' aC' ls' tw' lf' lt' cd' hc' wo' hs' mk hj ej hor ?_
      rw [if_neg ey, if_neg ey]
      refine ⟨⟨hly.1 _ u2.1 u1.1, hly.2.2.1 _ _ _ g16 u1.2⟩, u2, d _ _ u2.1.2.2.1 u3, fun i hi => ?_⟩
      obtain ⟨w1, w2, w3⟩ := v4 i hi
      have hl : nL (ms i).1 ≤ 16 := w2.1.2.2.2.2.2.2.2.2.1
      exact ⟨⟨hly.2.1 _ _ (by omega) (by omega) w2.1 w1.1, hly.2.2.2 _ _ _ _ (by omega) (by omega) hl w1.2⟩, w2, w3⟩
  exact ⟨fun ey => go (Or.inl ey), fun ey _ => ⟨fun eb => go (Or.inr eb), fun eb => h0 (Or.inr (Or.inr ⟨ey, eb⟩))⟩⟩
end RMK
end
section
/-- a programme as told: one twin each, nothing begun, nothing worn -/
def tdG (g : PGr) : MS := (g, (fun i => (g.2.2.2.getD i (0, 0, 0, ([], []), ([], []))).2.1), (fun _ => 1), 0, 0, 0, (fun _ => 0), (fun _ => 0), [])
def e0g : PGr := ([], [], [], [])
theorem told_at {g : PGr} {l : Nat} (h : l < nL g) : (tdG g).2.1 l = (lnG g l).2.1 := by
  have e := lnG_get h
  show (g.2.2.2.getD l (0, 0, 0, ([], []), ([], []))).2.1 = _
  rw [List.getD_eq_getElem?_getD, e]
  rfl
theorem MO9.tdZ {g : PGr} (hG : GK9 g) : MO9 (tdG g) := ⟨hG, fun l hl => ⟨by rw [told_at (g := g) hl]; exact (lnG_ok hG hl).2.1, Nat.le_refl 1, (by show 1 ≤ 4; decide)⟩, Nat.zero_le 4, Nat.zero_le _, fun h => (by have h : (0 : Nat) = 1 ∨ (0 : Nat) = 3 ∨ (0 : Nat) = 4 := h; omega), Nat.le_refl 0, Nat.zero_le _, fun _ => ⟨rfl, rfl, rfl⟩⟩
section VWC
variable {m m' : MS} {g : PGr} {cl : Nat} {pst pce pgi pln : Int32} {be co to gc le gr ac sq tg fr mi en cd : Nat → Int32}
theorem CMV.mkZ {w s n k u : Int32} {st tw wo ce ke : Nat → Int32} (e1 : m'.1 = m.1) (hw : w = 0) (ho : MO9 m') (hc : CLs m.1 m'.2.1 m'.2.2.1 st tw) (hm : CH9 m.1 m'.2.2.2 s n k u wo ce ke) : CMV m' w s n k u st tw wo ce ke := ⟨hw, ho, by rw [e1]; exact hc, by rw [e1]; exact hm⟩
theorem CMV.tdZ {w : Int32} {st tw wo ce ke : Nat → Int32} (hG : GK9 g) (hQ : PQ9 g pst pce pgi pln be co to gc le gr ac sq tg fr mi en cl cd) (hw : w = 0) (a : ∀ j, j < 16 → st j = sq j) (b : ∀ j, j < 16 → tw j = 1) (c : ∀ j, j < 16 → wo j = 0) : CMV (tdG g) w 0 0 0 0 st tw wo ce ke := by
  have h16 : nL g ≤ 16 := hQ.2.2.1
  have hA : LA9 g.2.2.2 ac sq tg fr mi en := hQ.2.2.2.2.2.2.2.2.2.2.1
  refine ⟨hw, MO9.tdZ hG, fun l hl => ⟨?_, b l (by have hl : l < nL g := hl; omega)⟩, rfl, rfl, rfl, rfl, fun j hj => c j hj, fun z => absurd rfl z, KE9.nil⟩
  have hl : l < nL g := hl
  rw [a l (by omega), told_at hl]
  exact (hA.atZ hl).2.1
theorem s_begin_e (m : MS) (x : Int32) : (s_begin m x).1 = m.1 ∧ (s_begin m x).2.1 = m.2.1 ∧ (s_begin m x).2.2.1 = m.2.2.1 := by
  unfold s_begin
  split <;> exact ⟨rfl, rfl, rfl⟩
theorem s_run_e (m : MS) (x : Int32) : (s_run m x).1 = m.1 ∧ (s_run m x).2.1 = m.2.1 ∧ (s_run m x).2.2.1 = m.2.2.1 := by
  unfold s_run
  split <;> exact ⟨rfl, rfl, rfl⟩
theorem s_lay_e (m : MS) (x y z : Int32) : (s_lay m x y z).1 = m.1 := by
  unfold s_lay
  split <;> rfl
theorem CMV.beginZ {x w s n k u s' n' k' u' : Int32} {st tw wo ce ke ce' : Nat → Int32} (h : CMV m w s n k u st tw wo ce ke) (hm : CH9 m.1 (s_begin m x).2.2.2 s' n' k' u' wo ce' ke) : CMV (s_begin m x) w s' n' k' u' st tw wo ce' ke := by
  obtain ⟨e1, e2, e3⟩ := s_begin_e m x
  exact CMV.mkZ e1 h.1 h.2.1.beginZ (by rw [e2, e3]; exact h.2.2.1) hm
theorem CMV.runZ {x w s n k u s' n' k' u' : Int32} {st tw wo ce ke wo' ce' ke' : Nat → Int32} (h : CMV m w s n k u st tw wo ce ke) (hm : CH9 m.1 (s_run m x).2.2.2 s' n' k' u' wo' ce' ke') : CMV (s_run m x) w s' n' k' u' st tw wo' ce' ke' := by
  obtain ⟨e1, e2, e3⟩ := s_run_e m x
  exact CMV.mkZ e1 h.1 h.2.1.runZ (by rw [e2, e3]; exact h.2.2.1) hm
theorem CMV.layZ {x y z w s n k u : Int32} {st tw wo ce ke st' tw' wo' : Nat → Int32} (h : CMV m w s n k u st tw wo ce ke) (hc : CLs m.1 (s_lay m x y z).2.1 (s_lay m x y z).2.2.1 st' tw') (hm : CH9 m.1 (s_lay m x y z).2.2.2 s n k u wo' ce ke) : CMV (s_lay m x y z) w s n k u st' tw' wo' ce ke := CMV.mkZ (s_lay_e m x y z) h.1 h.2.1.layZ hc hm
theorem CMV.freshZ {w s n k u : Int32} {st tw wo ce ke wo' : Nat → Int32} (h : CMV m w s n k u st tw wo ce ke) (hm : CH9 m.1 (s_fresh m).2.2.2 s n k u wo' ce ke) : CMV (s_fresh m) w s n k u st tw wo' ce ke := ⟨h.1, h.2.1, h.2.2.1, hm⟩
end VWC
section VWR
variable {hd hd' : MS} {ms : Nat → MS} {g : PGr} {s n k u s' n' k' u' : Int32} {st ce ip ln be co ca ic il im ac aC ls tw lf lt cd hc wo hs mk st' ce' ip' ln' be' co' ca' ic' il' im' ac' aC' ls' tw' lf' lt' cd' hc' wo' hs' : Nat → Int32}
theorem RVm.mkZ (h : RVm hd ms s n k u st ce ip ln be co ca ic il im ac aC ls tw lf lt cd hc wo hs mk) (e1 : hd'.1 = hd.1) (ho : MO9 hd') (hy : YB 0 (nL hd.1) hd'.2.1 hd'.2.2.1 ls' tw') (hk : KY0 ls tw ls' tw') (hr : RH9 hd.1 hd'.2.2.2 s' n' k' u' hc' wo' hs') : RVm hd' ms s' n' k' u' st ce ip ln be co ca ic il im ac aC ls' tw' lf lt cd hc' wo' hs' mk := by
  obtain ⟨v1, v2, v3, v4⟩ := h
  refine ⟨⟨by rw [e1]; exact v1.1, by rw [e1]; exact hy⟩, ho, by rw [e1]; exact hr, fun j hj => ?_⟩
  obtain ⟨w1, w2, w3⟩ := v4 j hj
  have hl : nL (ms j).1 ≤ 16 := w2.1.2.2.2.2.2.2.2.2.1
  exact ⟨⟨w1.1, hk _ _ _ _ (by omega) (by omega) hl w1.2⟩, w2, w3⟩
theorem RVm.beginZ {x : Int32} (h : RVm hd ms s n k u st ce ip ln be co ca ic il im ac aC ls tw lf lt cd hc wo hs mk) (hr : RH9 hd.1 (s_begin hd x).2.2.2 s' n' k' u' hc' wo' hs') : RVm (s_begin hd x) ms s' n' k' u' st ce ip ln be co ca ic il im ac aC ls tw lf lt cd hc' wo' hs' mk := by
  obtain ⟨e1, e2, e3⟩ := s_begin_e hd x
  exact h.mkZ e1 h.2.1.beginZ (by rw [e2, e3]; exact h.1.2) KY0.rf hr
theorem RVm.runZ {x : Int32} (h : RVm hd ms s n k u st ce ip ln be co ca ic il im ac aC ls tw lf lt cd hc wo hs mk) (hr : RH9 hd.1 (s_run hd x).2.2.2 s' n' k' u' hc' wo' hs') : RVm (s_run hd x) ms s' n' k' u' st ce ip ln be co ca ic il im ac aC ls tw lf lt cd hc' wo' hs' mk := by
  obtain ⟨e1, e2, e3⟩ := s_run_e hd x
  exact h.mkZ e1 h.2.1.runZ (by rw [e2, e3]; exact h.1.2) KY0.rf hr
theorem RVm.layZ {x y z : Int32} (h : RVm hd ms s n k u st ce ip ln be co ca ic il im ac aC ls tw lf lt cd hc wo hs mk) (hy : YB 0 (nL hd.1) (s_lay hd x y z).2.1 (s_lay hd x y z).2.2.1 ls' tw') (hk : KY0 ls tw ls' tw') (hr : RH9 hd.1 (s_lay hd x y z).2.2.2 s n k u hc wo' hs) : RVm (s_lay hd x y z) ms s n k u st ce ip ln be co ca ic il im ac aC ls' tw' lf lt cd hc wo' hs mk := h.mkZ (s_lay_e hd x y z) h.2.1.layZ hy hk hr
theorem RVm.freshZ (h : RVm hd ms s n k u st ce ip ln be co ca ic il im ac aC ls tw lf lt cd hc wo hs mk) (hr : RH9 hd.1 (s_fresh hd).2.2.2 s n k u hc wo' hs) : RVm (s_fresh hd) ms s n k u st ce ip ln be co ca ic il im ac aC ls tw lf lt cd hc wo' hs mk := h.mkZ rfl h.2.1 h.1.2 KY0.rf hr
theorem RVm.badZ (h : RVm hd ms s n k u st ce ip ln be co ca ic il im ac aC ls tw lf lt cd hc wo hs mk) (hf : FB8 st ce ip ln be co ca ic il im ac aC ls tw lf lt cd st' ce' ip' ln' be' co' ca' ic' il' im' ac' aC' ls' tw' lf' lt' cd') : RVm hd ms s n k u st' ce' ip' ln' be' co' ca' ic' il' im' ac' aC' ls' tw' lf' lt' cd' hc wo hs mk := by
  obtain ⟨v1, v2, v3, v4⟩ := h
  refine ⟨⟨hf.1 0 _ (by decide) (by decide) v2.1 v1.1, hf.2 0 _ _ _ (by decide) (by decide) v2.1.2.2.2.2.2.2.2.2.1 v1.2⟩, v2, v3, fun j hj => ?_⟩
  obtain ⟨w1, w2, w3⟩ := v4 j hj
  exact ⟨⟨hf.1 _ _ (by omega) (by omega) w2.1 w1.1, hf.2 _ _ _ _ (by omega) (by omega) w2.1.2.2.2.2.2.2.2.2.1 w1.2⟩, w2, w3⟩
theorem RVm.toldZ (h : RVm hd ms s n k u st ce ip ln be co ca ic il im ac aC ls tw lf lt cd hc wo hs mk) (hG : GK9 g) (hf : FG8 g st ce ip ln be co ca ic il im ac aC ls tw lf lt cd st' ce' ip' ln' be' co' ca' ic' il' im' ac' aC' ls' tw' lf' lt' cd') (hz : ∀ j, j < 16 → wo' j = 0) : RVm (tdG g) ms 0 n k u st' ce' ip' ln' be' co' ca' ic' il' im' ac' aC' ls' tw' lf' lt' cd' hc wo' hs mk := by
  obtain ⟨v1, v2, v3, v4⟩ := h
  refine ⟨⟨hf.2.2.1, hf.2.2.2⟩, MO9.tdZ hG, ⟨rfl, fun z => (by have z : (0 : Nat) = 1 ∨ (0 : Nat) = 3 ∨ (0 : Nat) = 4 := z; omega), fun z => absurd rfl z, fun j hj => hz j hj⟩, fun j hj => ?_⟩
  obtain ⟨w1, w2, w3⟩ := v4 j hj
  exact ⟨⟨hf.1 _ _ (by omega) (by omega) (by omega) w2.1 w1.1, hf.2.1 _ _ _ _ (by omega) (by omega) (by omega) w2.1.2.2.2.2.2.2.2.2.1 w1.2⟩, w2, w3⟩
theorem RPY.zero (p : Nat) : RPY p (tdG e0g) (fun _ => 0) (fun _ => 0) (fun _ => 0) (fun _ => 0) (fun _ => 0) (fun _ => 0) (fun _ => 0) (fun _ => 0) (fun _ => 0) (fun _ => 0) (fun _ => 0) (fun _ => 0) (fun _ => 0) (fun _ => 0) (fun _ => 0) (fun _ => 0) (fun _ => 0) := ⟨⟨⟨rfl, fun i y h => by cases h⟩, ⟨rfl, fun i y h => by cases h⟩, ⟨rfl, fun i y h => by cases h⟩, ⟨rfl, fun i y h => by cases h⟩⟩, fun i hi => absurd hi (Nat.not_lt_zero _)⟩
theorem RH9.zero {n k u : Int32} {hc hs : Nat → Int32} : RH9 e0g (tdG e0g).2.2.2 0 n k u hc (fun _ => 0) hs := ⟨rfl, fun z => (by have z : (0 : Nat) = 1 ∨ (0 : Nat) = 3 ∨ (0 : Nat) = 4 := z; omega), fun z => absurd rfl z, fun j hj => rfl⟩
theorem RVm.zero : RVm (tdG e0g) (fun _ => tdG e0g) 0 0 0 0 (fun _ => 0) (fun _ => 0) (fun _ => 0) (fun _ => 0) (fun _ => 0) (fun _ => 0) (fun _ => 0) (fun _ => 0) (fun _ => 0) (fun _ => 0) (fun _ => 0) (fun _ => 0) (fun _ => 0) (fun _ => 0) (fun _ => 0) (fun _ => 0) (fun _ => 0) (fun _ => 0) (fun _ => 0) (fun _ => 0) (fun _ => 0) := ⟨RPY.zero 0, MO9.tdZ GK9.nil, RH9.zero, fun j hj => ⟨RPY.zero _, MO9.tdZ GK9.nil, RH9.zero⟩⟩
theorem PQ9.zero : PQ9 e0g 0 0 0 0 (fun _ => 0) (fun _ => 0) (fun _ => 0) (fun _ => 0) (fun _ => 0) (fun _ => 0) (fun _ => 0) (fun _ => 0) (fun _ => 0) (fun _ => 0) (fun _ => 0) (fun _ => 0) 0 (fun _ => 0) := ⟨by decide, by decide, by decide, rfl, rfl, rfl, rfl, fun i y h => (by cases h), fun i y h => (by cases h), ⟨⟨by decide, fun y h => (by cases h), fun i y h => by cases h⟩, by decide, fun y h => (by cases h), fun i y h => by cases h⟩, fun i y h => (by cases h), rfl, by decide, fun i c h => by cases h⟩
theorem CMV.zero : CMV (tdG e0g) 0 0 0 0 0 (fun _ => 0) (fun _ => 0) (fun _ => 0) (fun _ => 0) (fun _ => 0) := ⟨rfl, MO9.tdZ GK9.nil, fun l hl => absurd hl (Nat.not_lt_zero _), rfl, rfl, rfl, rfl, fun j hj => rfl, fun z => absurd rfl z, KE9.nil⟩
end VWR
end
section
def f_cell (m : MS) (x : Int32) : Option Int32 := if m.2.2.2.1 = 0 then none else match ixO x (nC m.1) with
  | none => none
  | some c => some (m.2.2.2.2.2.2.2.1 c)
def f_wrote (m : MS) (x : Int32) : Option Int32 := match ixO x (min m.2.2.2.2.2.2.2.2.length 200) with
  | none => none
  | some i => m.2.2.2.2.2.2.2.2[i]?
theorem f_cell_n0 {m : MS} {x : Int32} (h : m.2.2.2.1 = 0) : f_cell m x = none := if_pos h
theorem f_cell_n1 {m : MS} {x : Int32} (h : ixO x (nC m.1) = none) : f_cell m x = none := by
  unfold f_cell
  rw [h]
  split <;> rfl
theorem f_cell_s {m : MS} {x : Int32} {j : Nat} (h0 : ¬ m.2.2.2.1 = 0) (h : ixO x (nC m.1) = some j) : f_cell m x = some (m.2.2.2.2.2.2.2.1 j) := by
  unfold f_cell
  rw [if_neg h0, h]
theorem f_wrote_n {m : MS} {x : Int32} (h : ixO x (min m.2.2.2.2.2.2.2.2.length 200) = none) : f_wrote m x = none := by
  unfold f_wrote
  rw [h]
theorem f_wrote_s {m : MS} {x : Int32} {j : Nat} {ke : Nat → Int32} (h : ixO x (min m.2.2.2.2.2.2.2.2.length 200) = some j) (hj : j < min m.2.2.2.2.2.2.2.2.length 200) (hk : KE9 200 m.2.2.2.2.2.2.2.2 ke) : f_wrote m x = some (ke j) := by
  have hl : j < m.2.2.2.2.2.2.2.2.length := by omega
  have e : m.2.2.2.2.2.2.2.2[j]? = some (m.2.2.2.2.2.2.2.2[j]) := List.getElem?_eq_getElem hl
  unfold f_wrote
  rw [h]
  show m.2.2.2.2.2.2.2.2[j]? = _
  rw [e, hk j _ e (by omega)]
section RCL
variable {m : MS} {st ce ip ln be co ca ic il im ac aC ls tw lf lt cd : Nat → Int32} {s n k u th : Int32} {hc wo hs : Nat → Int32}
theorem sq8_cell {x : Int32} {Φ : Int32 → Int32 → Prop} (hR : RPY 0 m st ce ip ln be co ca ic il im ac aC ls tw lf lt cd) (hO : MO9 m) (hM : RH9 m.1 m.2.2.2 s n k u hc wo hs) (h0 : f_cell m x = none → Φ 0 1) (h1 : ∀ r, f_cell m x = some r → Φ r 0) : wl_X8_cell s ce hc x th Φ := by
  have h6 : nC m.1 ≤ 6 := hO.1.2.2.1
  have h4 : m.2.2.2.1 ≤ 4 := hO.2.2.1
  have q : s ≤ 0 ↔ m.2.2.2.1 ≤ 0 := by rw [hM.1]; exact nI_leI (b := 0) (by omega) (by decide)
  unfold wl_X8_cell
  rw [q]
  have no : f_cell m x = none → kl_X8_cell_21 s ce hc x Φ th 1 := fun e => ⟨fun z => absurd rfl z, fun _ => h0 e⟩
  refine ⟨fun z => no (f_cell_n0 (by omega)), fun z => sq8_isCell (N := nC m.1) hR.1.2.1.1 (by omega) (fun e => ⟨fun _ => no (f_cell_n1 e), fun y => absurd rfl y⟩) (fun j hj ej e => ⟨fun y => absurd y (by decide), fun _ => ⟨fun _ _ => ?_, fun y => absurd y (by decide)⟩⟩)⟩
  rw [ej, nI_clamp (n := j) (by omega), (hM.2.2.1 (by omega)).2.2.1 j hj]
  exact h1 _ (f_cell_s (by omega) e)
theorem sq8_wrote {x : Int32} {Φ : Int32 → Int32 → Prop} (hO : MO9 m) (hM : RH9 m.1 m.2.2.2 s n k u hc wo hs) (h0 : f_wrote m x = none → Φ 0 1) (h1 : ∀ r, f_wrote m x = some r → Φ r 0) : wl_X8_wrote s u hs x th Φ := by
  have h4 : m.2.2.2.1 ≤ 4 := hO.2.2.1
  have hl : m.2.2.2.2.2.2.2.2.length ≤ m.2.2.2.2.2.1 := hO.2.2.2.2.2.1
  have hl2 : m.2.2.2.2.2.1 ≤ 1000000 := hO.2.2.2.2.2.2.1
  have q : s ≤ 0 ↔ m.2.2.2.1 ≤ 0 := by rw [hM.1]; exact nI_leI (b := 0) (by omega) (by decide)
  have no : f_wrote m x = none → kl_X8_wrote_31 s u hs x Φ th 1 := fun e => ⟨fun z => absurd rfl z, fun _ => h0 e⟩
  unfold wl_X8_wrote
  rw [q]
  refine ⟨fun z => no (f_wrote_n ?_), fun z => ?_⟩
  · have e : m.2.2.2.2.2.2.2.2 = [] := (hO.2.2.2.2.2.2.2 (by omega)).2.2
    rw [e]
    show ixO x 0 = none
    by_cases y : x < 0
    · exact ixO_lt y
    · exact ixO_ge (n := 0) (Int32.not_lt.mp y)
  · have eu : (if u < (200 : Int32) then u else (200 : Int32)) = nI (min m.2.2.2.2.2.2.2.2.length 200) := by
      rw [(hM.2.2.1 (by omega)).2.1, show (200 : Int32) = nI 200 from rfl, if_min (by omega) (by decide)]
    rw [eu]
    refine ⟨fun y => no (f_wrote_n (ixO_lt y)), fun y => ⟨fun y2 => no (f_wrote_n (ixO_ge y2)), fun y2 => ⟨fun _ _ => ?_, fun y3 => absurd y3 (by decide)⟩⟩⟩
    obtain ⟨j, hj, ej, e⟩ := ixO_in (by omega) y y2
    have ew := f_wrote_s e hj (hM.2.2.1 (by omega)).2.2.2
    rw [ej, nI_clamp (n := j) (by omega)]
    exact h1 _ ew
end RCL
end
