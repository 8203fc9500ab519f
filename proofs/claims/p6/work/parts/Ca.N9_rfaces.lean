section FR9
variable {m : MS} {st ce ip ln be co ca ic il im ac aC ls tw lf lt cd : Nat → Int32} {s n k u th : Int32} {hc wo hs : Nat → Int32}
theorem z40 (s : Nat) : 4 * 0 + s = s := by omega
theorem z160 (s : Nat) : 16 * 0 + s = s := by omega
theorem sq8_isL {x : Int32} {N : Nat} {r : Nat → Int32} {Φ : Int32 → Prop} (hr : r 0 = nI N) (hn : N < 2 ^ 31) (h0 : ixO x N = none → Φ 0) (h1 : ∀ j, j < N → x = nI j → ixO x N = some j → Φ 1) : (x < 0 → Φ 0) ∧ (¬ x < 0 → ((r 0 ≤ x → Φ 0) ∧ (¬ r 0 ≤ x → Φ 1))) := by
  rw [hr]
  exact ⟨fun z => h0 (ixO_lt z), fun z => ⟨fun y => h0 (ixO_ge y), fun y => by
    obtain ⟨j, a, b, c⟩ := ixO_in hn z y
    exact h1 j a b c⟩⟩
theorem sq8_isLine {x : Int32} {N : Nat} {r : Nat → Int32} {Φ : Int32 → Prop} (hr : r 0 = nI N) (hn : N < 2 ^ 31) (h0 : ixO x N = none → Φ 0) (h1 : ∀ j, j < N → x = nI j → ixO x N = some j → Φ 1) : wl_X8_isLine r x Φ := sq8_isL hr hn h0 h1
theorem sq8_isStuff {x : Int32} {N : Nat} {r : Nat → Int32} {Φ : Int32 → Prop} (hr : r 0 = nI N) (hn : N < 2 ^ 31) (h0 : ixO x N = none → Φ 0) (h1 : ∀ j, j < N → x = nI j → ixO x N = some j → Φ 1) : wl_X8_isStuff r x Φ := sq8_isL hr hn h0 h1
theorem sq8_isCell {x : Int32} {N : Nat} {r : Nat → Int32} {Φ : Int32 → Prop} (hr : r 0 = nI N) (hn : N < 2 ^ 31) (h0 : ixO x N = none → Φ 0) (h1 : ∀ j, j < N → x = nI j → ixO x N = some j → Φ 1) : wl_X8_isCell r x Φ := sq8_isL hr hn h0 h1
theorem sq8_stuff {x y : Int32} {Φ : Int32 → Int32 → Prop} (hR : RP8 0 m.1 st ce ip ln be co ca ic il im ac aC lf lt cd) (hO : MO9 m) (h : Φ (f_stuff m x y) 0) : wl_X8_stuff st be co x y th Φ := by
  have h4 : nS m.1 ≤ 4 := hO.1.1
  have hst : st 0 = nI (nS m.1) := hR.1.1
  unfold f_stuff at h
  unfold wl_X8_stuff
  refine sq8_isStuff hst (by omega) (fun e => ⟨fun _ => by rw [e] at h; exact h, fun z => absurd rfl z⟩) (fun j hj ex e => ⟨fun z => absurd z (by decide), fun _ => ?_⟩)
  rw [e] at h
  have h : Φ (if y = 0 then nI (beS m.1 j) else if y = 1 then nI (coS m.1 j) else -1) 0 := h
  obtain ⟨b1, b2⟩ := hR.1.beZ hj
  rw [z40] at b1 b2
  rw [ex, nI_clamp (n := j) (by omega), b1, b2]
  refine sq8_wi (m := 1) (by decide) (fun e2 => ⟨fun z => absurd rfl z, fun _ => ?_⟩) (fun i hi ey _ => ⟨fun _ => ⟨fun z _ => ?_, fun z _ => ?_⟩, fun z => absurd z (by decide)⟩)
  · have q := fun i hi => ixO_no (n := 2) (by decide) e2 ∘ fun (z : y = nI i) => ⟨i, hi, z⟩
    rw [if_neg (show ¬ y = 0 from q 0 (by decide)), if_neg (show ¬ y = 1 from q 1 (by decide))] at h
    exact h
  · have : i = 1 := by
      have : ¬ i = 0 := fun q => z (by rw [ey, q]; rfl)
      omega
    subst this
    rw [if_neg z, if_pos (by rw [ey]; rfl)] at h; exact h
  · rw [if_pos z] at h; exact h
theorem bear0_eq {l : Nat} (hR : RP8 0 m.1 st ce ip ln be co ca ic il im ac aC lf lt cd) (hO : MO9 m) (hY : YB 0 (nL m.1) m.2.1 m.2.2.1 ls tw) (hl : l < nL m.1) : be (ls l).toNatClampNeg * tw l = brG m.1 m.2.1 m.2.2.1 l := by
  have h4 : nS m.1 ≤ 4 := hO.1.1
  obtain ⟨h1, h2, h3⟩ := hO.2.1 l hl
  obtain ⟨y1, y2⟩ := hY l hl
  rw [z160] at y1 y2
  obtain ⟨b1, b2⟩ := hR.1.beZ h1
  rw [z40] at b1
  rw [y1, y2, nI_clamp (n := m.2.1 l) (by omega), b1]
  rfl
theorem sq8_line {x y : Int32} {Φ : Int32 → Int32 → Prop} (hR : RP8 0 m.1 st ce ip ln be co ca ic il im ac aC lf lt cd) (hO : MO9 m) (hY : YB 0 (nL m.1) m.2.1 m.2.2.1 ls tw) (hM : RH9 m.1 m.2.2.2 s n k u hc wo hs) (h : Φ (f_line m x y) 0) : wl_X8_line ln be ac ls tw wo x y th Φ := by
  have h16 : nL m.1 ≤ 16 := hO.1.2.2.2.2.2.2.2.2.1
  have hln : ln 0 = nI (nL m.1) := hR.2.2.2.1
  unfold f_line at h
  unfold wl_X8_line
  refine sq8_isLine hln (by omega) (fun e => ⟨fun _ => by rw [e] at h; exact h, fun z => absurd rfl z⟩) (fun j hj ex e => ⟨fun z => absurd z (by decide), fun _ => ?_⟩)
  rw [e] at h
  have h : Φ (if y = 0 then nI (lnG m.1 j).1 else if y = 1 then nI (m.2.1 j) else if y = 2 then nI (m.2.2.1 j) else if y = 3 then brG m.1 m.2.1 m.2.2.1 j else if y = 4 then m.2.2.2.2.2.2.1 j else -1) 0 := h
  obtain ⟨y1, y2⟩ := hY j hj
  have l1 := (hR.2.2.2.2 _ _ (lnG_get hj)).1
  rw [z160] at y1 y2 l1
  rw [ex]
  refine sq8_wi (m := 4) (by decide) (fun e2 => ⟨fun z => absurd rfl z, fun _ => ?_⟩) (fun i hi ey _ => ⟨fun _ => ⟨fun z0 => ⟨fun z1 => ⟨fun z2 => ⟨fun z3 _ => ?_, fun z => ?_⟩, fun z _ => ?_⟩, fun z _ => ?_⟩, fun z _ => ?_⟩, fun z => absurd z (by decide)⟩)
  · have q := fun i hi => ixO_no (n := 5) (by decide) e2 ∘ fun (z : y = nI i) => ⟨i, hi, z⟩
    rw [if_neg (show ¬ y = 0 from q 0 (by decide)), if_neg (show ¬ y = 1 from q 1 (by decide)), if_neg (show ¬ y = 2 from q 2 (by decide)), if_neg (show ¬ y = 3 from q 3 (by decide)), if_neg (show ¬ y = 4 from q 4 (by decide))] at h
    exact h
  · have : i = 4 := by
      have q0 : ¬ i = 0 := fun q => z0 (by rw [ey, q]; rfl)
      have q1 : ¬ i = 1 := fun q => z1 (by rw [ey, q]; rfl)
      have q2 : ¬ i = 2 := fun q => z2 (by rw [ey, q]; rfl)
      have q3 : ¬ i = 3 := fun q => z3 (by rw [ey, q]; rfl)
      omega
    subst this
    rw [if_neg z0, if_neg z1, if_neg z2, if_neg z3, if_pos (by rw [ey]; rfl)] at h
    rw [nI_clamp (n := j) (by omega), hM.2.2.2 j (by omega)]
    exact h
  · rw [z, if_neg (by decide), if_neg (by decide), if_neg (by decide), if_pos rfl] at h
    unfold wl_X8_bearsOf
    rw [nI_clamp (n := j) (by omega), bear0_eq hR hO hY hj]
    exact fun _ _ _ => h
  · rw [z, if_neg (by decide), if_neg (by decide), if_pos rfl] at h
    rw [nI_clamp (n := j) (by omega), y2]; exact h
  · rw [z, if_neg (by decide), if_pos rfl] at h
    rw [nI_clamp (n := j) (by omega), y1]; exact h
  · rw [if_pos z] at h
    rw [nI_clamp (n := j) (by omega), l1]; exact h
theorem YB.layZ {p N : Nat} {sf tf : Nat → Nat} {l s t : Nat} (h : YB p N sf tf ls tw) : YB p N (updN sf l s) (updN tf l t) (upd ls (16 * p + l) (nI s)) (upd tw (16 * p + l) (nI t)) := by
  intro i hi
  unfold updN
  by_cases e : i = l
  · rw [e, pk_us, pk_us, if_pos rfl, if_pos rfl]; exact ⟨rfl, rfl⟩
  · rw [pk_un (by omega), pk_un (by omega), if_neg e, if_neg e]; exact h i hi
theorem RH9.woZ {wo2 : Nat → Int32} {g : PGr} {x : PM} {O2 : Nat → Int32} (h : RH9 g x s n k u hc wo hs) (h2 : AGn 16 O2 wo2) : RH9 g (x.1, x.2.1, x.2.2.1, O2, x.2.2.2.2) s n k u hc wo2 hs := ⟨h.1, h.2.1, h.2.2.1, h2⟩
/-- laying a line touches no other programme's laying -/
def KY0 (ls tw ls' tw' : Nat → Int32) : Prop := ∀ p N sf tf, 1 ≤ p → p < 6 → N ≤ 16 → YB p N sf tf ls tw → YB p N sf tf ls' tw'
theorem KY0.rf : KY0 ls tw ls tw := fun _ _ _ _ _ _ _ h => h
theorem KY0.lay {l : Nat} {a b : Int32} (hl : l < 16) : KY0 ls tw (upd ls l a) (upd tw l b) := by
  intro p N sf tf hp _ hN h i hi
  rw [pk_un (by omega), pk_un (by omega)]
  exact h i hi
theorem sq8_lay {x y z : Int32} {Φ : Int32 → Int32 → (Nat → Int32) → (Nat → Int32) → (Nat → Int32) → Prop} (hR : RP8 0 m.1 st ce ip ln be co ca ic il im ac aC lf lt cd) (hO : MO9 m) (hY : YB 0 (nL m.1) m.2.1 m.2.2.1 ls tw) (hM : RH9 m.1 m.2.2.2 s n k u hc wo hs) (h : ∀ ls' tw' wo', YB 0 (nL m.1) (s_lay m x y z).2.1 (s_lay m x y z).2.2.1 ls' tw' → KY0 ls tw ls' tw' → RH9 m.1 (s_lay m x y z).2.2.2 s n k u hc wo' hs → Φ (f_lay m x y z) 0 ls' tw' wo') : wl_X8_lay st ln x y z th ls tw wo Φ := by
  have h16 : nL m.1 ≤ 16 := hO.1.2.2.2.2.2.2.2.2.1
  have h4 : nS m.1 ≤ 4 := hO.1.1
  have hst : st 0 = nI (nS m.1) := hR.1.1
  have hln : ln 0 = nI (nL m.1) := hR.2.2.2.1
  have no : layO m x y z = none → Φ 0 0 ls tw wo := fun e => by
    unfold s_lay f_lay at h
    rw [e] at h
    exact h ls tw wo hY KY0.rf hM
  unfold wl_X8_lay
  refine sq8_isLine hln (by omega) (fun e => ⟨fun _ => no ?_, fun q => absurd rfl q⟩) (fun l hl el e1 => ⟨fun q => absurd q (by decide), fun _ => sq8_isStuff hst (by omega) (fun e => ⟨fun _ => no ?_, fun q => absurd rfl q⟩) (fun s hs es e2 => ⟨fun q => absurd q (by decide), fun _ => ?_⟩)⟩)
  · unfold layO; rw [e]
  · unfold layO; rw [e1, e]
  have hz : (∃ t, 1 ≤ t ∧ t ≤ 4 ∧ z = nI t ∧ layO m x y z = some (l, s, t)) ∨ layO m x y z = none := by
    unfold layO
    rw [e1, e2]
    cases e3 : ixO z 5 with
    | none => exact Or.inr rfl
    | some t =>
      obtain ⟨h5, et⟩ := ixO_some (by decide) e3
      by_cases t0 : t = 0
      · refine Or.inr ?_
        show (if t = 0 then none else some (l, s, t)) = none
        rw [if_pos t0]
      · refine Or.inl ⟨t, by omega, by omega, et, ?_⟩
        show (if t = 0 then none else some (l, s, t)) = _
        rw [if_neg t0]
  have lo : z < 1 → layO m x y z = none := fun q => hz.resolve_left (fun ⟨t, a, b, c, d⟩ => by
    rw [c] at q
    have := (nI_ltI (b := 1) (by omega) (by decide)).mp q
    omega)
  have hi' : 4 < z → layO m x y z = none := fun q => hz.resolve_left (fun ⟨t, a, b, c, d⟩ => by
    rw [c] at q
    have := (nI_ltI (a := 4) (by decide) (by omega)).mp q
    omega)
  refine ⟨fun q => ⟨fun q2 => absurd rfl q2, fun _ => no (lo q)⟩, fun q => ⟨fun q2 => ⟨fun q3 => absurd rfl q3, fun _ => no (hi' q2)⟩, fun q2 => ⟨fun _ => ?_, fun q3 => absurd q3 (by decide)⟩⟩⟩
  obtain ⟨t, ht, et⟩ := nI_of2 (M := 4) (n := 4) (by decide) (fun q3 => q (Int32.lt_of_lt_of_le q3 (by decide))) (Int32.not_lt.mp q2)
  have t0 : ¬ t = 0 := fun e => by rw [et, e] at q; exact q (by decide)
  have e3 : ixO z 5 = some t := by rw [et]; exact ixO_nI (by decide) (by omega)
  have el2 : layO m x y z = some (l, s, t) := by unfold layO; rw [e1, e2, e3]; exact if_neg t0
  unfold s_lay f_lay at h
  rw [el2] at h
  rw [el, es, et, nI_clamp (n := l) (by omega)]
  have hy := hY.layZ (l := l) (s := s) (t := t)
  rw [z160] at hy
  exact fun _ _ _ => h _ _ _ hy (KY0.lay (by omega)) (hM.woZ hM.2.2.2.updZ)
theorem sq8_cost {Φ : Int32 → Int32 → Prop} (hR : RP8 0 m.1 st ce ip ln be co ca ic il im ac aC lf lt cd) (hO : MO9 m) (hY : YB 0 (nL m.1) m.2.1 m.2.2.1 ls tw) (h : Φ (f_cost m) 0) : wl_X8_cost ln co ls tw th Φ := by
  have h16 : nL m.1 ≤ 16 := hO.1.2.2.2.2.2.2.2.2.1
  have h4 : nS m.1 ≤ 4 := hO.1.1
  have hln : ln 0 = nI (nL m.1) := hR.2.2.2.1
  have key : ∀ (f l : Nat), l ≤ nL m.1 → ll_X8_cost_9 ln co ls tw Φ f 0 (csG m.1 m.2.1 m.2.2.1 l) (nI l) := by
    intro f
    induction f with
    | zero => intros; trivial
    | succ f ih =>
      intro l hl
      show bl_X8_cost_9 _ _ _ _ _ _ _ _ _
      unfold bl_X8_cost_9
      rw [hln, nI_leI (by omega) (by omega), nI_clamp (n := l) (by omega), nI_1]
      refine ⟨fun z => ?_, fun z _ _ _ => ?_⟩
      · have : l = nL m.1 := by omega
        subst this
        exact h
      · have hlt : l < nL m.1 := by omega
        obtain ⟨hs, _, _⟩ := hO.2.1 l hlt
        obtain ⟨y1, y2⟩ := hY l hlt
        rw [z160] at y1 y2
        obtain ⟨b1, b2⟩ := hR.1.beZ hs
        rw [z40] at b2
        rw [y1, y2, nI_clamp (n := m.2.1 l) (by omega), b2]
        exact ih (l + 1) (by omega)
  exact fun f => key f 0 (Nat.zero_le _)
theorem sq8_inputs {Φ : Int32 → Int32 → Prop} (hR : RP8 0 m.1 st ce ip ln be co ca ic il im ac aC lf lt cd) (hO : MO9 m) (h : Φ (f_inputs m) 0) : wl_X8_inputs ip il im th Φ := sq8_inputsOf (p := 0) hR.2.2.1 hO.1 (by decide) h
theorem sq8_input {x y : Int32} {Φ : Int32 → Int32 → Prop} (hR : RP8 0 m.1 st ce ip ln be co ca ic il im ac aC lf lt cd) (hO : MO9 m) (h : Φ (f_input m x y) 0) : wl_X8_input ce ip ca ic il im x y th Φ := by
  have h64 := inN_64 hO.1
  have h6 : nC m.1 ≤ 6 := hO.1.2.2.1
  have hce : ce 0 = nI (nC m.1) := hR.2.1.1
  unfold f_input at h
  unfold wl_X8_input
  refine ⟨fun z => by rw [ixO_lt z] at h; exact h, fun z => sq8_inputsOf (p := 0) hR.2.2.1 hO.1 (by decide) ⟨fun z2 => by rw [ixO_ge z2] at h; exact h, fun z2 => ?_⟩⟩
  obtain ⟨i, hi, ei, e1⟩ := ixO_in (by omega) z z2
  refine sq8_isCell hce (by omega) (fun e => ⟨fun _ => by rw [e1, e] at h; exact h, fun q => absurd rfl q⟩) (fun c hc ec e2 => ⟨fun q => absurd q (by decide), fun _ => ?_⟩)
  rw [e1, e2] at h
  rw [ei, ec]
  exact sq8_beginsWith (p := 0) hR.2.1 hR.2.2.1 hO.1 (by decide) hi hc h
theorem sq8_begin {x : Int32} {Φ : Int32 → Int32 → Int32 → Int32 → Int32 → Int32 → (Nat → Int32) → Prop} (hR : RP8 0 m.1 st ce ip ln be co ca ic il im ac aC lf lt cd) (hO : MO9 m) (hM : RH9 m.1 m.2.2.2 s n k u hc wo hs) (h : ∀ s' n' k' u' hc', RH9 m.1 (s_begin m x).2.2.2 s' n' k' u' hc' wo hs → Φ (f_begin m x) 0 s' n' k' u' hc') : wl_X8_begin ce ip ln ca ic il im x th s n k u hc Φ := by
  have h16 : nL m.1 ≤ 16 := hO.1.2.2.2.2.2.2.2.2.1
  have h64 := inN_64 hO.1
  have h6 : nC m.1 ≤ 6 := hO.1.2.2.1
  have hce : ce 0 = nI (nC m.1) := hR.2.1.1
  have hln : ln 0 = nI (nL m.1) := hR.2.2.2.1
  have q0 : ln 0 = 0 ↔ nL m.1 = 0 := by rw [hln]; exact nI_eq (b := 0) (by omega) (by decide)
  have no : inQ m.1 x = none → Φ 0 0 s n k u hc := fun e => by
    unfold s_begin f_begin at h
    rw [e] at h
    exact h _ _ _ _ _ hM
  unfold wl_X8_begin
  rw [q0]
  refine ⟨fun z => no (by unfold inQ; rw [if_neg (by omega)]), fun z => ⟨fun z2 => no (by unfold inQ; rw [if_pos (by omega), ixO_lt z2]), fun z2 => sq8_inputsOf (p := 0) hR.2.2.1 hO.1 (by decide) ⟨fun z3 => ?_, fun z3 => no (by unfold inQ; rw [if_pos (by omega), ixO_ge (Int32.not_lt.mp z3)])⟩⟩⟩
  obtain ⟨i, hi, ei, e1⟩ := ixO_in (n := inN m.1) (by omega) z2 (Int32.not_le.mpr z3)
  have eo : inQ m.1 x = some i := by unfold inQ; rw [if_pos (by omega), e1]
  unfold s_begin f_begin at h
  rw [eo] at h
  have key : ∀ (f c : Nat) (he : Nat → Int32), c ≤ 6 → (∀ j, j < c → j < nC m.1 → he j = nI (inpG m.1 i j)) → ll_X8_begin_51 ce ip ln ca ic il im x Φ f 0 1 0 0 0 he (nI c) := by
    intro f
    induction f with
    | zero => intros; trivial
    | succ f ih =>
      intro c he hc ha
      show bl_X8_begin_51 _ _ _ _ _ _ _ _ _ _ _ _ _ _ _ _ _
      unfold bl_X8_begin_51
      have q6 : (6 : Int32) ≤ nI c ↔ 6 ≤ c := nI_leI (a := 6) (by decide) (by omega)
      rw [q6, hce, nI_leI (by omega) (by omega), nI_clamp (n := c) (by omega), nI_1, ei]
      refine ⟨fun z => h _ _ _ _ _ ⟨rfl, fun _ => rfl, fun _ => ⟨rfl, rfl, fun j hj => ha j (by omega) hj, KE9.nil⟩, hM.2.2.2⟩, fun z => ⟨fun y _ => ?_, fun y => sq8_beginsWith (p := 0) hR.2.1 hR.2.2.1 hO.1 (by decide) hi (by omega) (fun _ => ?_)⟩⟩
      · rw [← ei]
        refine ih (c + 1) _ (by omega) (fun j hj hj2 => ?_)
        rw [pk_un (by omega)]; exact ha j (by omega) hj2
      · rw [← ei]
        refine ih (c + 1) _ (by omega) (fun j hj hj2 => ?_)
        by_cases e : j = c
        · rw [e, pk_us]
        · rw [pk_un e]; exact ha j (by omega) hj2
  exact fun f => key f 0 hc (Nat.zero_le _) (fun j hj => absurd hj (Nat.not_lt_zero _))
theorem sq8_runM {x at_ way nx e f wr : Int32} {k1 k2 k3 k4 k5 k6 k7 k8 k9 vo he we sr : Nat → Int32} {Φ : PRn} (hR : RP8 0 m.1 st ce ip ln be co ca ic il im ac aC lf lt cd) (hO : MO9 m) (hY : YB 0 (nL m.1) m.2.1 m.2.2.1 ls tw) (hM : RH9 m.1 m.2.2.2 s n k u hc wo hs) (h : ∀ at_ way nx e f wr s' n' k' u' k1 k2 k3 k4 k5 k6 k7 k8 k9 vo he we sr hc' wo' hs', RH9 m.1 (s_run m x).2.2.2 s' n' k' u' hc' wo' hs' → Φ (f_run m x) 0 at_ way nx e f wr s' n' k' u' k1 k2 k3 k4 k5 k6 k7 k8 k9 vo he we sr hc' wo' hs') : wl_X8_run ln be ac aC ls tw lf lt cd x th at_ way nx e f wr s n k u k1 k2 k3 k4 k5 k6 k7 k8 k9 vo he we sr hc wo hs Φ := by
  unfold s_run f_run at h
  refine sq8_run hO.1 hR hY hO.2.1 hO.2.2 hM (fun z => ?_) (fun j hj ex => ?_)
  · have e : ixO x 1000001 = none := by
      cases e : ixO x 1000001 with
      | none => rfl
      | some j =>
        obtain ⟨a, b⟩ := ixO_some (by decide) e
        exact absurd ⟨j, by omega, b⟩ z
    rw [e] at h
    intros
    exact h _ _ _ _ _ _ _ _ _ _ _ _ _ _ _ _ _ _ _ _ _ _ _ _ _ _ hM
  · have e : ixO x 1000001 = some j := by rw [ex]; exact ixO_nI (by decide) (by omega)
    rw [e] at h
    intro at_ way nx e f wr s' n' k' u' k1 k2 k3 k4 k5 k6 k7 k8 k9 vo he we sr hc' wo' hs' hM'
    exact h _ _ _ _ _ _ _ _ _ _ _ _ _ _ _ _ _ _ _ _ _ _ _ _ _ _ hM'
theorem sq8_state {y : Int32} {Φ : Int32 → Int32 → Prop} (hO : MO9 m) (hM : RH9 m.1 m.2.2.2 s n k u hc wo hs) (h : Φ (f_state m y) 0) : wl_X8_state s n k u y th Φ := by
  have h4 := hO.2.2.1
  obtain ⟨m1, m2, m3, m4⟩ := hM
  unfold f_state at h
  unfold wl_X8_state
  have q0 : s = 0 ↔ m.2.2.2.1 = 0 := by rw [m1]; exact nI_eq (b := 0) (by omega) (by decide)
  have q2 : s = 2 ↔ m.2.2.2.1 = 2 := by rw [m1]; exact nI_eq (b := 2) (by omega) (by decide)
  rw [q0, q2]
  refine sq8_wi (m := 3) (by decide) (fun e2 => ⟨fun z => absurd rfl z, fun _ => ?_⟩) (fun i hi ey _ => ⟨fun _ => ⟨fun z0 => ⟨fun z1 => ⟨fun y0 => ⟨fun z2 => ?_, fun z2 => ?_⟩, fun y0 => ?_⟩, fun z1 => ⟨fun y0 => ?_, fun y0 => ⟨fun y2 => ?_, fun y2 => ?_⟩⟩⟩, fun z => ?_⟩, fun z => absurd z (by decide)⟩)
  · have q := fun i hi => ixO_no (n := 4) (by decide) e2 ∘ fun (z : y = nI i) => ⟨i, hi, z⟩
    rw [if_neg (show ¬ y = 0 from q 0 (by decide)), if_neg (show ¬ y = 1 from q 1 (by decide)), if_neg (show ¬ y = 2 from q 2 (by decide)), if_neg (show ¬ y = 3 from q 3 (by decide))] at h
    exact h
  · have : i = 3 := by
      have q0 : ¬ i = 0 := fun q => z0 (by rw [ey, q]; rfl)
      have q1 : ¬ i = 1 := fun q => z1 (by rw [ey, q]; rfl)
      have q2 : ¬ i = 2 := fun q => z2 (by rw [ey, q]; rfl)
      omega
    subst this
    rw [if_neg z0, if_neg z1, if_neg z2, if_pos (by rw [ey]; rfl)] at h
    rw [(m3 y0).2.1]; exact h
  · rw [if_neg z0, if_neg z1, if_pos z2] at h
    rw [(m3 y0).1]; exact h
  · obtain ⟨a, b, c⟩ := hO.2.2.2.2.2.2.2 y0
    rw [if_neg z0, if_neg z1, b, c] at h
    by_cases q2 : y = 2
    · rw [if_pos q2] at h; exact h
    · have : i = 3 := by
        have q0 : ¬ i = 0 := fun q => z0 (by rw [ey, q]; rfl)
        have q1 : ¬ i = 1 := fun q => z1 (by rw [ey, q]; rfl)
        have q2 : ¬ i = 2 := fun q => q2 (by rw [ey, q]; rfl)
        omega
      subst this
      rw [if_neg q2, if_pos (by rw [ey]; rfl)] at h
      exact h
  · rw [if_neg z0, if_pos z1, if_pos (Or.inl y0)] at h; exact h
  · rw [if_neg z0, if_pos z1, if_neg (fun q => q.elim y0 y2)] at h
    rw [m2 (by omega)]; exact h
  · rw [if_neg z0, if_pos z1, if_pos (Or.inr y2)] at h; exact h
  · rw [if_pos z] at h; rw [m1]; exact h
theorem sq8_fresh {Φ : Int32 → Int32 → (Nat → Int32) → Prop} (hM : RH9 m.1 m.2.2.2 s n k u hc wo hs) (h : ∀ wo', RH9 m.1 (s_fresh m).2.2.2 s n k u hc wo' hs → Φ 1 0 wo') : wl_X8_fresh th wo Φ := by
  have key : ∀ (f c : Nat) (w : Nat → Int32), c ≤ 16 → (∀ j, j < c → w j = 0) → ll_X8_fresh_7 Φ f 0 w (nI c) := by
    intro f
    induction f with
    | zero => intros; trivial
    | succ f ih =>
      intro c w hc h0
      show bl_X8_fresh_7 _ _ _ _ _
      unfold bl_X8_fresh_7
      have q : (16 : Int32) ≤ nI c ↔ 16 ≤ c := nI_leI (a := 16) (by decide) (by omega)
      rw [q, nI_clamp (n := c) (by omega), nI_1]
      refine ⟨fun z => h w (hM.woZ (fun j hj => h0 j (by omega))), fun z _ => ih (c + 1) _ (by omega) (fun j hj => ?_)⟩
      by_cases e : j = c
      · rw [e, pk_us]
      · rw [pk_un e]; exact h0 j (by omega)
  exact fun f => key f 0 wo (Nat.zero_le _) (fun j hj => absurd hj (Nat.not_lt_zero _))
theorem sq8_count {l : Nat} {y : Int32} {Φ : Int32 → Int32 → Prop} (hR : RP8 0 m.1 st ce ip ln be co ca ic il im ac aC lf lt cd) (h : Φ (f_count l m y) 0) : wl_X8_count (nI l) st ce ip ln y th Φ := by
  have e1 : st 0 = nI (nS m.1) := hR.1.1
  have e2 : ce 0 = nI (nC m.1) := hR.2.1.1
  have e3 : ip 0 = nI m.1.2.2.1.length := hR.2.2.1.1
  have e4 : ln 0 = nI (nL m.1) := hR.2.2.2.1
  unfold f_count at h
  unfold wl_X8_count
  rw [e1, e2, e3, e4]
  refine sq8_wi (m := 4) (by decide) (fun e2 => ⟨fun z => absurd rfl z, fun _ => ?_⟩) (fun i hi ey _ => ⟨fun _ => ⟨fun z0 => ⟨fun z1 => ⟨fun z2 => ⟨fun z3 => ?_, fun z => ?_⟩, fun z => ?_⟩, fun z => ?_⟩, fun z => ?_⟩, fun z => absurd z (by decide)⟩)
  · have q := fun i hi => ixO_no (n := 5) (by decide) e2 ∘ fun (z : y = nI i) => ⟨i, hi, z⟩
    rw [if_neg (show ¬ y = 0 from q 0 (by decide)), if_neg (show ¬ y = 1 from q 1 (by decide)), if_neg (show ¬ y = 2 from q 2 (by decide)), if_neg (show ¬ y = 3 from q 3 (by decide)), if_neg (show ¬ y = 4 from q 4 (by decide))] at h
    exact h
  · have : i = 4 := by
      have q0 : ¬ i = 0 := fun q => z0 (by rw [ey, q]; rfl)
      have q1 : ¬ i = 1 := fun q => z1 (by rw [ey, q]; rfl)
      have q2 : ¬ i = 2 := fun q => z2 (by rw [ey, q]; rfl)
      have q3 : ¬ i = 3 := fun q => z3 (by rw [ey, q]; rfl)
      omega
    subst this
    rw [if_neg z0, if_neg z1, if_neg z2, if_neg z3, if_pos (by rw [ey]; rfl)] at h
    exact h
  · rw [if_neg z0, if_neg z1, if_neg z2, if_pos z] at h; exact h
  · rw [if_neg z0, if_neg z1, if_pos z] at h; exact h
  · rw [if_neg z0, if_pos z] at h; exact h
  · rw [if_pos z] at h; exact h
end FR9
