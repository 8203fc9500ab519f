section ALIKE
variable {st ce ip ln be ca ic le mo ta ac ls tw lf lt cd : Nat → Int32}
abbrev PAl : Type := Int32 → Int32 → Int32 → Int32 → Int32 → Int32 → Int32 → Int32 → (Nat → Int32) → (Nat → Int32) → (Nat → Int32) → (Nat → Int32) → (Nat → Int32) → (Nat → Int32) → (Nat → Int32) → (Nat → Int32) → (Nat → Int32) → (Nat → Int32) → (Nat → Int32) → (Nat → Int32) → (Nat → Int32) → (Nat → Int32) → (Nat → Int32) → (Nat → Int32) → Prop
def AH (Φ : PAl) : Prop := ∀ r a w x isE isF u md k1 k2 k3 k4 k5 k6 k7 k8 k9 vo he we sr go pk ot, (r = 0 ∨ r = 1) → Φ r a w x isE isF u md k1 k2 k3 k4 k5 k6 k7 k8 k9 vo he we sr go pk ot
theorem sp_wa87 {Φ : PAl} {x0 x1 x2 x3 x4 x5 : Int32} {u : Nat} (hu : u ≤ 1000) (hΦ : AH Φ) {f1 f2 f3 f4 f5 f6 f7 : Int32} {k1 k2 k3 k4 k5 k6 k7 k8 k9 vo he we sr go pk ot : Nat → Int32} : ∀ m k : Nat, m = u - k → k ≤ u → lf_X8_writeAlike_87 ce ip ln be ca ic le mo ta ac ls tw lf lt cd x0 x1 x2 x3 x4 x5 Φ (m + 1) f1 f2 f3 f4 f5 f6 f7 k1 k2 k3 k4 k5 k6 k7 k8 k9 vo he we sr go pk ot (nI u) (nI k) := by
  intro m
  induction m with
  | zero =>
    intro k hm hk
    show lb_X8_writeAlike_87 _ _ _ _ _ _ _ _ _ _ _ _ _ _ _ _ _ _ _ _ _ _ _ _ _ _ _ _ _ _ _ _ _ _ _ _ _ _ _ _ _ _ _ _ _ _ _ _
    unfold lb_X8_writeAlike_87
    exact ⟨fun _ => hΦ _ _ _ _ _ _ _ _ _ _ _ _ _ _ _ _ _ _ _ _ _ _ _ _ (Or.inr rfl), fun z => absurd (nI_le (by omega) (by omega)) z⟩
  | succ m ih =>
    intro k hm hk
    show lb_X8_writeAlike_87 _ _ _ _ _ _ _ _ _ _ _ _ _ _ _ _ _ _ _ _ _ _ _ _ _ _ _ _ _ _ _ _ _ _ _ _ _ _ _ _ _ _ _ _ _ _ _ _
    unfold lb_X8_writeAlike_87
    rw [nI_1]
    have ik : vp_in (nI k) 1001 := pk_in k 1001 (by omega)
    exact ⟨fun _ => hΦ _ _ _ _ _ _ _ _ _ _ _ _ _ _ _ _ _ _ _ _ _ _ _ _ (Or.inr rfl), fun _ => ⟨ik, ik, fun _ => ih (k + 1) (by omega) (by omega), fun _ => hΦ _ _ _ _ _ _ _ _ _ _ _ _ _ _ _ _ _ _ _ _ _ _ _ _ (Or.inl rfl)⟩⟩
theorem sp_wa23 {Φ : PAl} {p2 l2 : Nat} {x0 x1 x3 x4 x5 l8 : Int32} {u : Nat} (h2 : RP p2 l2 ip ln le mo ta ac ls lf lt cd) (hl2 : 0 < l2) (hu : u ≤ 1000) (hΦ : AH Φ) {f1 f2 f3 f4 f5 f6 f7 : Int32} {k1 k2 k3 k4 k5 k6 k7 k8 k9 vo he we sr go pk : Nat → Int32} : ∀ (m k : Nat) (ot : Nat → Int32), m = u - k → k ≤ u → lf_X8_writeAlike_23 ce ip ln be ca ic le mo ta ac ls tw lf lt cd x0 x1 (nI p2) x3 x4 x5 Φ (m + 1) f1 f2 f3 f4 f5 f6 f7 k1 k2 k3 k4 k5 k6 k7 k8 k9 vo he we sr go pk ot (nI u) l8 (nI k) := by
  have fin : ∀ ot : Nat → Int32, wp_X8_tries ce ip ln be ca ic le mo ta ac ls tw lf lt cd (nI p2) x4 x3 f1 f2 f3 f4 f5 f6 f7 k1 k2 k3 k4 k5 k6 k7 k8 k9 vo he we sr go pk (fun g1 g2 g3 g4 g5 g6 g7 a1 a2 a3 a4 a5 a6 a7 a8 a9 a10 a11 a12 a13 a14 a15 => (¬ g6 = nI u → Φ 0 g1 g2 g3 g4 g5 g6 g7 a1 a2 a3 a4 a5 a6 a7 a8 a9 a10 a11 a12 a13 a14 a15 ot) ∧ (g6 = nI u → (x5 = 0 → (∃ n_, lf_X8_writeAlike_87 ce ip ln be ca ic le mo ta ac ls tw lf lt cd x0 x1 (nI p2) x3 x4 x5 Φ n_ g1 g2 g3 g4 g5 g6 g7 a1 a2 a3 a4 a5 a6 a7 a8 a9 a10 a11 a12 a13 a14 a15 ot (nI u) 0)) ∧ (¬ x5 = 0 → (l8 = g4 → (∃ n_, lf_X8_writeAlike_87 ce ip ln be ca ic le mo ta ac ls tw lf lt cd x0 x1 (nI p2) x3 x4 x5 Φ n_ g1 g2 g3 g4 g5 g6 g7 a1 a2 a3 a4 a5 a6 a7 a8 a9 a10 a11 a12 a13 a14 a15 ot (nI u) 0)) ∧ (¬ l8 = g4 → Φ 0 g1 g2 g3 g4 g5 g6 g7 a1 a2 a3 a4 a5 a6 a7 a8 a9 a10 a11 a12 a13 a14 a15 ot)))) := by
    intro ot
    exact sp_X8_tries h2 hl2 (fun _ _ _ _ _ _ _ _ _ _ _ _ _ _ _ _ _ _ _ _ _ _ _ => ⟨fun _ => hΦ _ _ _ _ _ _ _ _ _ _ _ _ _ _ _ _ _ _ _ _ _ _ _ _ (Or.inl rfl), fun _ => ⟨fun _ => ⟨u - 0 + 1, sp_wa87 hu hΦ (u - 0) 0 rfl (Nat.zero_le _)⟩, fun _ => ⟨fun _ => ⟨u - 0 + 1, sp_wa87 hu hΦ (u - 0) 0 rfl (Nat.zero_le _)⟩, fun _ => hΦ _ _ _ _ _ _ _ _ _ _ _ _ _ _ _ _ _ _ _ _ _ _ _ _ (Or.inl rfl)⟩⟩⟩)
  intro m
  induction m with
  | zero =>
    intro k ot hm hk
    show lb_X8_writeAlike_23 _ _ _ _ _ _ _ _ _ _ _ _ _ _ _ _ _ _ _ _ _ _ _ _ _ _ _ _ _ _ _ _ _ _ _ _ _ _ _ _ _ _ _ _ _ _ _ _ _
    unfold lb_X8_writeAlike_23
    exact ⟨fun _ => fin ot, fun z => absurd (nI_le (by omega) (by omega)) z⟩
  | succ m ih =>
    intro k ot hm hk
    show lb_X8_writeAlike_23 _ _ _ _ _ _ _ _ _ _ _ _ _ _ _ _ _ _ _ _ _ _ _ _ _ _ _ _ _ _ _ _ _ _ _ _ _ _ _ _ _ _ _ _ _ _ _ _ _
    unfold lb_X8_writeAlike_23
    rw [nI_1]
    have ik : vp_in (nI k) 1001 := pk_in k 1001 (by omega)
    exact ⟨fun _ => fin ot, fun _ => ⟨ik, ik, ih (k + 1) _ (by omega) (by omega)⟩⟩
theorem sp_X8_writeAlike {Φ : PAl} {p1 p2 l1 l2 : Nat} {x1 x3 x4 x5 f1 f2 f3 f4 f5 f6 f7 : Int32} {k1 k2 k3 k4 k5 k6 k7 k8 k9 vo he we sr go pk ot : Nat → Int32} (h1 : RP p1 l1 ip ln le mo ta ac ls lf lt cd) (hl1 : 0 < l1) (h2 : RP p2 l2 ip ln le mo ta ac ls lf lt cd) (hl2 : 0 < l2) (hΦ : AH Φ) : wp_X8_writeAlike ce ip ln be ca ic le mo ta ac ls tw lf lt cd (nI p1) x1 (nI p2) x3 x4 x5 f1 f2 f3 f4 f5 f6 f7 k1 k2 k3 k4 k5 k6 k7 k8 k9 vo he we sr go pk ot Φ := by
  unfold wp_X8_writeAlike
  exact sp_X8_tries h1 hl1 (fun _ _ _ u _ _ _ _ _ _ _ _ _ _ _ _ _ _ _ _ _ hu _ => ⟨u - 0 + 1, sp_wa23 h2 hl2 (by omega) hΦ (u - 0) 0 ot rfl (Nat.zero_le _)⟩)
abbrev PAm : Type := Int32 → PAl
def AM (Φ : PAm) : Prop := ∀ r a w x isE isF u md k1 k2 k3 k4 k5 k6 k7 k8 k9 vo he we sr go pk ot, Φ r 0 a w x isE isF u md k1 k2 k3 k4 k5 k6 k7 k8 k9 vo he we sr go pk ot
theorem ln_pos {l : Nat} {y : Int32} (h : y = nI l) (h0 : ¬ y = 0) : 0 < l := Nat.pos_of_ne_zero (fun e => h0 (by rw [h, e]; rfl))
theorem sp_X8_apart {Φ : PAm} {f0 f1 f2 f3 f4 f5 f6 f7 : Int32} {k1 k2 k3 k4 k5 k6 k7 k8 k9 vo he we sr go pk ot : Nat → Int32} (h : GM st ce ip ln le mo ta ac ls lf lt cd) (hΦ : AM Φ) : wp_X8_apart ce ip ln be ca ic le mo ta ac ls tw lf lt cd f0 f1 f2 f3 f4 f5 f6 f7 k1 k2 k3 k4 k5 k6 k7 k8 k9 vo he we sr go pk ot Φ := by
  obtain ⟨l, hr⟩ := h.rp (p := 0) (by decide) (by decide)
  obtain ⟨-, -, ⟨i, i2, hi, hx⟩, -⟩ := h 0 (by decide) (by decide)
  unfold wp_X8_apart
  refine ⟨fun hl0 => ?_, fun _ => hΦ _ _ _ _ _ _ _ _ _ _ _ _ _ _ _ _ _ _ _ _ _ _ _ _⟩
  have hl := ln_pos hr.2.1 hl0
  have key : ∀ (m k : Nat) (f1 f2 f3 f4 f5 f6 f7 : Int32) (k1 k2 k3 k4 k5 k6 k7 k8 k9 vo he we sr go pk ot : Nat → Int32), m = 100000000 - k → k ≤ 100000000 → lf_X8_apart_18 ce ip ln be ca ic le mo ta ac ls tw lf lt cd Φ (m + 1) 0 f1 f2 f3 f4 f5 f6 f7 k1 k2 k3 k4 k5 k6 k7 k8 k9 vo he we sr go pk ot (nI k) := by
    intro m
    induction m with
    | zero =>
      intro k f1 f2 f3 f4 f5 f6 f7 k1 k2 k3 k4 k5 k6 k7 k8 k9 vo he we sr go pk ot hm hk
      show lb_X8_apart_18 _ _ _ _ _ _ _ _ _ _ _ _ _ _ _ _ _ _ _ _ _ _ _ _ _ _ _ _ _ _ _ _ _ _ _ _ _ _ _ _ _ _
      unfold lb_X8_apart_18
      exact sp_X8_inputsOf (p := 0) (by decide) hi i2 hx (fun q _ hq => ⟨fun _ => hΦ _ _ _ _ _ _ _ _ _ _ _ _ _ _ _ _ _ _ _ _ _ _ _ _, fun z => absurd (nI_le (by omega) (by omega)) z⟩)
    | succ m ih =>
      intro k f1 f2 f3 f4 f5 f6 f7 k1 k2 k3 k4 k5 k6 k7 k8 k9 vo he we sr go pk ot hm hk
      show lb_X8_apart_18 _ _ _ _ _ _ _ _ _ _ _ _ _ _ _ _ _ _ _ _ _ _ _ _ _ _ _ _ _ _ _ _ _ _ _ _ _ _ _ _ _ _
      unfold lb_X8_apart_18
      rw [nI_1]
      exact sp_X8_inputsOf (p := 0) (by decide) hi i2 hx (fun q _ hq => ⟨fun _ => hΦ _ _ _ _ _ _ _ _ _ _ _ _ _ _ _ _ _ _ _ _ _ _ _ _, fun _ => sp_X8_writeAlike (p1 := 0) (p2 := 0) hr hl hr hl (fun _ _ _ _ _ _ _ _ _ _ _ _ _ _ _ _ _ _ _ _ _ _ _ _ _ => ⟨fun _ => ih (k + 1) _ _ _ _ _ _ _ _ _ _ _ _ _ _ _ _ _ _ _ _ _ _ _ (by omega) (by omega), fun _ => hΦ _ _ _ _ _ _ _ _ _ _ _ _ _ _ _ _ _ _ _ _ _ _ _ _⟩)⟩)
  exact ⟨100000000 - 0 + 1, key (100000000 - 0) 0 _ _ _ _ _ _ _ _ _ _ _ _ _ _ _ _ _ _ _ _ _ _ _ rfl (by decide)⟩
theorem sp_X8_same {Φ : PAm} {il : Nat → Int32} {x0 f0 f1 f2 f3 f4 f5 f6 f7 : Int32} {k1 k2 k3 k4 k5 k6 k7 k8 k9 vo he we sr go pk ot : Nat → Int32} (h : GM st ce ip ln le mo ta ac ls lf lt cd) (hΦ : AM Φ) : wp_X8_same ce ip ln be ca ic le mo ta ac ls tw lf lt cd il x0 f0 f1 f2 f3 f4 f5 f6 f7 k1 k2 k3 k4 k5 k6 k7 k8 k9 vo he we sr go pk ot Φ := by
  unfold wp_X8_same
  refine sp_X8_within (fun a b => ⟨fun _ => hΦ _ _ _ _ _ _ _ _ _ _ _ _ _ _ _ _ _ _ _ _ _ _ _ _, fun _ => ?_⟩) (fun _ => ⟨fun _ => hΦ _ _ _ _ _ _ _ _ _ _ _ _ _ _ _ _ _ _ _ _ _ _ _ _, fun z => absurd rfl z⟩)
  obtain ⟨q, hq, rfl⟩ := nI_of a
  have q4 : q < 4 := Nat.lt_of_not_le (fun z => b (nI_lt (a := 3) (by omega) hq))
  have e2 : (2 : Int32) + nI q = nI (2 + q) := by rw [show (2 : Int32) = nI 2 from rfl, nI_add]
  rw [e2, nI_clamp (n := 2 + q) (by omega)]
  obtain ⟨l, hr⟩ := h.rp (p := 0) (by decide) (by decide)
  obtain ⟨l2, hr2⟩ := h.rp (p := 2 + q) (by omega) (by omega)
  obtain ⟨-, -, ⟨i, i2, hi, hx⟩, -⟩ := h 0 (by decide) (by decide)
  obtain ⟨-, -, ⟨j, j2, hj, hy⟩, -⟩ := h (2 + q) (by omega) (by omega)
  refine ⟨pk_in q 4 q4, fun _ => ⟨fun _ => hΦ _ _ _ _ _ _ _ _ _ _ _ _ _ _ _ _ _ _ _ _ _ _ _ _, fun hl0 => ⟨pk_in (2 + q) 6 (by omega), fun _ => hΦ _ _ _ _ _ _ _ _ _ _ _ _ _ _ _ _ _ _ _ _ _ _ _ _, fun hl1 => ?_⟩⟩, fun _ => hΦ _ _ _ _ _ _ _ _ _ _ _ _ _ _ _ _ _ _ _ _ _ _ _ _⟩
  have hl := ln_pos hr.2.1 hl0
  have hl2 := ln_pos hr2.2.1 hl1
  refine sp_X8_inputsOf (p := 0) (by decide) hi i2 hx (fun _ _ _ => sp_X8_inputsOf (p := 2 + q) (by omega) hj j2 hy (fun _ _ _ => ⟨fun _ => ?_, fun _ => hΦ _ _ _ _ _ _ _ _ _ _ _ _ _ _ _ _ _ _ _ _ _ _ _ _⟩))
  have key : ∀ (m k : Nat) (f1 f2 f3 f4 f5 f6 f7 : Int32) (k1 k2 k3 k4 k5 k6 k7 k8 k9 vo he we sr go pk ot : Nat → Int32), m = 100000000 - k → k ≤ 100000000 → lf_X8_same_66 ce ip ln be ca ic le mo ta ac ls tw lf lt cd il (nI q) Φ (m + 1) 0 f1 f2 f3 f4 f5 f6 f7 k1 k2 k3 k4 k5 k6 k7 k8 k9 vo he we sr go pk ot (nI (2 + q)) (nI k) := by
    intro m
    induction m with
    | zero =>
      intro k f1 f2 f3 f4 f5 f6 f7 k1 k2 k3 k4 k5 k6 k7 k8 k9 vo he we sr go pk ot hm hk
      show lb_X8_same_66 _ _ _ _ _ _ _ _ _ _ _ _ _ _ _ _ _ _ _ _ _ _ _ _ _ _ _ _ _ _ _ _ _ _ _ _ _ _ _ _ _ _ _ _ _
      unfold lb_X8_same_66
      exact sp_X8_inputsOf (p := 0) (by decide) hi i2 hx (fun q _ hq => ⟨fun _ => hΦ _ _ _ _ _ _ _ _ _ _ _ _ _ _ _ _ _ _ _ _ _ _ _ _, fun z => absurd (nI_le (by omega) (by omega)) z⟩)
    | succ m ih =>
      intro k f1 f2 f3 f4 f5 f6 f7 k1 k2 k3 k4 k5 k6 k7 k8 k9 vo he we sr go pk ot hm hk
      show lb_X8_same_66 _ _ _ _ _ _ _ _ _ _ _ _ _ _ _ _ _ _ _ _ _ _ _ _ _ _ _ _ _ _ _ _ _ _ _ _ _ _ _ _ _ _ _ _ _
      unfold lb_X8_same_66
      rw [nI_1 k]
      exact sp_X8_inputsOf (p := 0) (by decide) hi i2 hx (fun q _ hq => ⟨fun _ => hΦ _ _ _ _ _ _ _ _ _ _ _ _ _ _ _ _ _ _ _ _ _ _ _ _, fun _ => sp_X8_writeAlike (p1 := 0) hr hl hr2 hl2 (fun _ _ _ _ _ _ _ _ _ _ _ _ _ _ _ _ _ _ _ _ _ _ _ _ _ => ⟨fun _ => ih (k + 1) _ _ _ _ _ _ _ _ _ _ _ _ _ _ _ _ _ _ _ _ _ _ _ (by omega) (by omega), fun _ => hΦ _ _ _ _ _ _ _ _ _ _ _ _ _ _ _ _ _ _ _ _ _ _ _ _⟩)⟩)
  exact ⟨100000000 - 0 + 1, key (100000000 - 0) 0 _ _ _ _ _ _ _ _ _ _ _ _ _ _ _ _ _ _ _ _ _ _ _ rfl (by decide)⟩
theorem sp_X8_rounds {Φ : PTa} {x0 f0 f1 f2 f3 f4 f5 f6 f7 : Int32} {k1 k2 k3 k4 k5 k6 k7 k8 k9 vo he we sr go pk : Nat → Int32} (h : GM st ce ip ln le mo ta ac ls lf lt cd) (hΦ : ∀ r a w x isE isF u md k1 k2 k3 k4 k5 k6 k7 k8 k9 vo he we sr go pk, Φ r 0 a w x isE isF u md k1 k2 k3 k4 k5 k6 k7 k8 k9 vo he we sr go pk) : wp_X8_rounds ce ip ln be ca ic le mo ta ac ls tw lf lt cd x0 f0 f1 f2 f3 f4 f5 f6 f7 k1 k2 k3 k4 k5 k6 k7 k8 k9 vo he we sr go pk Φ := by
  obtain ⟨l, hr⟩ := h.rp (p := 0) (by decide) (by decide)
  unfold wp_X8_rounds
  refine sp_X8_isInput h ⟨fun z => absurd rfl z, fun _ => hΦ _ _ _ _ _ _ _ _ _ _ _ _ _ _ _ _ _ _ _ _ _ _ _⟩ (fun a b => ⟨fun _ => ?_, fun z => absurd z (by decide)⟩)
  have hl0 := pos_of hr.2.1 a
  obtain ⟨hp, hl, h16, ⟨i, hi2, hi, hx⟩, hLN⟩ := hr
  have key : ∀ (m k : Nat) (f1 f2 f3 f4 f5 f6 f7 : Int32) (k1 k2 k3 k4 k5 k6 k7 k8 k9 vo he we sr go pk : Nat → Int32), m = 100 - k → k ≤ 100 → lf_X8_rounds_21 ce ip ln be ca ic le mo ta ac ls tw lf lt cd x0 Φ (m + 1) 0 f1 f2 f3 f4 f5 f6 f7 k1 k2 k3 k4 k5 k6 k7 k8 k9 vo he we sr go pk (nI k) := by
    intro m
    induction m with
    | zero =>
      intro k f1 f2 f3 f4 f5 f6 f7 k1 k2 k3 k4 k5 k6 k7 k8 k9 vo he we sr go pk hm hk
      have e : k = 100 := by omega
      subst e
      exact ⟨fun _ => hΦ _ _ _ _ _ _ _ _ _ _ _ _ _ _ _ _ _ _ _ _ _ _ _, fun z => absurd (by decide) z⟩
    | succ m ih =>
      intro k f1 f2 f3 f4 f5 f6 f7 k1 k2 k3 k4 k5 k6 k7 k8 k9 vo he we sr go pk hm hk
      show lb_X8_rounds_21 _ _ _ _ _ _ _ _ _ _ _ _ _ _ _ _ _ _ _ _ _ _ _ _ _ _ _ _ _ _ _ _ _ _ _ _ _ _ _ _ _ _
      unfold lb_X8_rounds_21
      rw [nI_1]
      exact ⟨fun _ => hΦ _ _ _ _ _ _ _ _ _ _ _ _ _ _ _ _ _ _ _ _ _ _ _, fun _ => sp_X8_begins (p := 0) hp hi hi2 hx (fun he' => sp_X8_goesOn (p := 0) (x := 0) (u := 0) hp hl h16 (by decide) hLN (Nat.zero_le _) (fun _ => hl0) (fun _ _ _ _ _ _ _ _ _ _ _ _ _ _ _ _ _ _ _ _ _ _ _ => ⟨fun _ => ih (k + 1) _ _ _ _ _ _ _ _ _ _ _ _ _ _ _ _ _ _ _ _ _ _ (by omega) (by omega), fun _ => hΦ _ _ _ _ _ _ _ _ _ _ _ _ _ _ _ _ _ _ _ _ _ _ _⟩))⟩
  exact sp_X8_freshens (fun we' => ⟨100 - 0 + 1, key (100 - 0) 0 _ _ _ _ _ _ _ _ _ _ _ _ _ _ _ _ _ _ _ _ _ _ rfl (by decide)⟩)
theorem sp_X8_better {l : Nat} {Φ : PTa} {sta hn hs hw x0 f0 f1 f2 f3 f4 f5 f6 f7 : Int32} {hc wo k1 k2 k3 k4 k5 k6 k7 k8 k9 vo he we sr go pk : Nat → Int32} (h : GM st ce ip ln le mo ta ac ls lf lt cd) (hl : ln 0 = nI l) (hl6 : l ≤ 16) (hH : HS l sta hn hs hw) (hΦ : ∀ r a w x isE isF u md k1 k2 k3 k4 k5 k6 k7 k8 k9 vo he we sr go pk, Φ r 0 a w x isE isF u md k1 k2 k3 k4 k5 k6 k7 k8 k9 vo he we sr go pk) : wp_X8_better sta hn ln be ta ac ls tw lf lt cd hc wo x0 f0 f1 f2 f3 f4 f5 f6 f7 k1 k2 k3 k4 k5 k6 k7 k8 k9 vo he we sr go pk Φ := by
  obtain ⟨l', hr⟩ := h.rp (p := 0) (by decide) (by decide)
  obtain ⟨hp, hl', h16, -, hLN⟩ := hr
  have e : l = l' := (nI_eq (by omega) (by omega)).mp (hl.symm.trans hl')
  subst e
  have key : ∀ j : Nat, j < l → hn = nI j → ∃ n_, lf_X8_better_39 sta hn ln be ta ac ls tw lf lt cd hc wo x0 Φ n_ 0 f1 f2 f3 f4 f5 f6 f7 k1 k2 k3 k4 k5 k6 k7 k8 k9 vo he we sr go pk (-1) (-1) 0 := by
    intro j hj ej
    subst ej
    have kk : ∀ (m k : Nat) (f1 f2 f3 f4 f5 f6 f7 : Int32) (k1 k2 k3 k4 k5 k6 k7 k8 k9 vo he we sr go pk : Nat → Int32) (l2 l3 : Int32), m = l - k → k ≤ l → lf_X8_better_39 sta (nI j) ln be ta ac ls tw lf lt cd hc wo x0 Φ (m + 1) 0 f1 f2 f3 f4 f5 f6 f7 k1 k2 k3 k4 k5 k6 k7 k8 k9 vo he we sr go pk l2 l3 (nI k) := by
      intro m
      induction m with
      | zero =>
        intro k f1 f2 f3 f4 f5 f6 f7 k1 k2 k3 k4 k5 k6 k7 k8 k9 vo he we sr go pk l2 l3 hm hk
        show lb_X8_better_39 _ _ _ _ _ _ _ _ _ _ _ _ _ _ _ _ _ _ _ _ _ _ _ _ _ _ _ _ _ _ _ _ _ _ _ _ _ _ _ _ _ _
        unfold lb_X8_better_39
        exact ⟨fun _ => ⟨fun _ => hΦ _ _ _ _ _ _ _ _ _ _ _ _ _ _ _ _ _ _ _ _ _ _ _, fun _ => hΦ _ _ _ _ _ _ _ _ _ _ _ _ _ _ _ _ _ _ _ _ _ _ _⟩, fun z => absurd (by rw [hl]; exact nI_le (by omega) (by omega)) z⟩
      | succ m ih =>
        intro k f1 f2 f3 f4 f5 f6 f7 k1 k2 k3 k4 k5 k6 k7 k8 k9 vo he we sr go pk l2 l3 hm hk
        show lb_X8_better_39 _ _ _ _ _ _ _ _ _ _ _ _ _ _ _ _ _ _ _ _ _ _ _ _ _ _ _ _ _ _ _ _ _ _ _ _ _ _ _ _ _ _
        unfold lb_X8_better_39
        rw [nI_1]
        refine ⟨fun _ => ⟨fun _ => hΦ _ _ _ _ _ _ _ _ _ _ _ _ _ _ _ _ _ _ _ _ _ _ _, fun _ => hΦ _ _ _ _ _ _ _ _ _ _ _ _ _ _ _ _ _ _ _ _ _ _ _⟩, fun _ => sp_X8_takesUp (fun he' we' => ⟨pk_in k 16 (by omega), ?_⟩)⟩
        have g := fun f1 f2 f3 f4 f5 f6 f7 k1 k2 k3 k4 k5 k6 k7 k8 k9 vo he we sr go pk l2 l3 => ih (k + 1) f1 f2 f3 f4 f5 f6 f7 k1 k2 k3 k4 k5 k6 k7 k8 k9 vo he we sr go pk l2 l3 (by omega) (by omega)
        exact sp_X8_goesOn (p := 0) (x := j) (u := 0) (isE := 0) hp hl h16 (by decide) hLN (by omega) (fun _ => hj) (fun _ _ _ _ _ _ _ _ _ _ _ _ _ _ _ _ _ _ _ _ _ _ _ => ⟨fun _ => g _ _ _ _ _ _ _ _ _ _ _ _ _ _ _ _ _ _ _ _ _ _ (nI k) _, fun _ => g _ _ _ _ _ _ _ _ _ _ _ _ _ _ _ _ _ _ _ _ _ _ l2 l3⟩)
    exact ⟨l - 0 + 1, kk (l - 0) 0 _ _ _ _ _ _ _ _ _ _ _ _ _ _ _ _ _ _ _ _ _ _ _ _ rfl (Nat.zero_le _)⟩
  unfold wp_X8_better
  refine sp_X8_within (fun _ _ => ⟨fun _ => hΦ _ _ _ _ _ _ _ _ _ _ _ _ _ _ _ _ _ _ _ _ _ _ _, fun _ => ⟨fun e1 => ?_, fun _ => ⟨fun e3 => ?_, fun _ => hΦ _ _ _ _ _ _ _ _ _ _ _ _ _ _ _ _ _ _ _ _ _ _ _⟩⟩⟩) (fun _ => ⟨fun _ => hΦ _ _ _ _ _ _ _ _ _ _ _ _ _ _ _ _ _ _ _ _ _ _ _, fun z => absurd rfl z⟩)
  · obtain ⟨j, hj, ej⟩ := hH.2.2 (Or.inl e1)
    exact key j hj ej
  · obtain ⟨j, hj, ej⟩ := hH.2.2 (Or.inr e3)
    exact key j hj ej
end ALIKE
