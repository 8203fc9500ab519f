theorem sp_X8_takesUp {hn f1 f2 f3 f4 f5 : Int32} {hc wo he we : Nat → Int32} {Φ : Int32 → Int32 → Int32 → Int32 → Int32 → (Nat → Int32) → (Nat → Int32) → Prop} (hΦ : ∀ he' we', Φ 0 0 hn 0 0 he' we') : wp_X8_takesUp hn hc wo f1 f2 f3 f4 f5 he we Φ := by
  have k2 : ∀ (m k : Nat) (he we : Nat → Int32), m = 16 - k → k ≤ 16 → lf_X8_takesUp_56 hn hc wo Φ (m + 1) 0 0 hn 0 0 he we (nI k) := by
    intro m
    induction m with
    | zero =>
      intro k he we hm hk
      have e : k = 16 := by omega
      subst e
      exact ⟨fun _ => hΦ _ _, fun z => absurd (by decide) z⟩
    | succ m ih =>
      intro k he we hm hk
      show lb_X8_takesUp_56 _ _ _ _ _ _ _ _ _ _ _ _ _
      unfold lb_X8_takesUp_56
      rw [nI_1]
      have ik : vp_in (nI k) 16 := pk_in k 16 (by omega)
      exact ⟨fun z => absurd z (nI_ge (b := 16) (by omega) (by decide)), fun _ => ⟨ik, ik, ih (k + 1) _ _ (by omega) (by omega)⟩⟩
  have k1 : ∀ (m k : Nat) (he : Nat → Int32), m = 6 - k → k ≤ 6 → lf_X8_takesUp_30 hn hc wo Φ (m + 1) 0 0 hn 0 0 he we (nI k) := by
    intro m
    induction m with
    | zero =>
      intro k he hm hk
      have e : k = 6 := by omega
      subst e
      exact ⟨fun _ => ⟨16 - 0 + 1, k2 (16 - 0) 0 _ _ rfl (by decide)⟩, fun z => absurd (by decide) z⟩
    | succ m ih =>
      intro k he hm hk
      show lb_X8_takesUp_30 _ _ _ _ _ _ _ _ _ _ _ _ _
      unfold lb_X8_takesUp_30
      rw [nI_1]
      have ik : vp_in (nI k) 6 := pk_in k 6 (by omega)
      exact ⟨fun z => absurd z (nI_ge (b := 6) (by omega) (by decide)), fun _ => ⟨ik, ik, ih (k + 1) _ (by omega) (by omega)⟩⟩
  exact ⟨6 - 0 + 1, k1 (6 - 0) 0 he rfl (by decide)⟩
theorem sp_X8_run {l : Nat} {x0 f0 f1 f2 f3 f4 f5 f6 sta hn hs hw : Int32} {st ce ip ln be le mo ta ac ls tw lf lt cd k1 k2 k3 k4 k5 k6 k7 k8 k9 vo he we sr hc wo hst : Nat → Int32} {Φ : PRn} (h : GM st ce ip ln le mo ta ac ls lf lt cd) (hl : ln 0 = nI l) (hl6 : l ≤ 16) (hH : HS l sta hn hs hw) (hΦ : RH2 l Φ) : wp_X8_run ln be ta ac ls tw lf lt cd x0 f0 f1 f2 f3 f4 f5 f6 sta hn hs hw k1 k2 k3 k4 k5 k6 k7 k8 k9 vo he we sr hc wo hst Φ := by
  obtain ⟨l', hr⟩ := h.rp (p := 0) (by decide) (by decide)
  obtain ⟨-, hl', h16, -, hLN⟩ := hr
  have e : l = l' := by
    have := hl.symm.trans hl'
    exact (nI_eq (by omega) (by omega)).mp this
  subst e
  unfold wp_X8_run
  have hH' := hH
  obtain ⟨h1, ⟨s, u, rfl, rfl, hu, hs⟩, h3⟩ := hH
  refine sp_X8_within (fun _ _ => ⟨fun _ => ⟨fun e1 => ?_, fun _ => hΦ _ _ _ _ _ _ _ _ _ _ _ _ _ _ _ _ _ _ _ _ _ _ _ _ _ _ _ hH'⟩, fun z => absurd z (by decide)⟩) (fun _ => ⟨fun z => absurd rfl z, fun _ => hΦ _ _ _ _ _ _ _ _ _ _ _ _ _ _ _ _ _ _ _ _ _ _ _ _ _ _ _ hH'⟩)
  obtain ⟨j, hj, rfl⟩ := h3 (Or.inl e1)
  exact sp_X8_takesUp (fun he' we' => ⟨1000000 - s + 1, sp_run34 hl' h16 hLN hΦ (1000000 - s) s u j 0 0 _ _ _ _ _ _ _ _ _ _ _ _ _ _ _ _ _ _ rfl hs hu (fun _ => hj)⟩)
theorem sp_X8_state {sta hn hs hw x0 F : Int32} {Φ : Int32 → Int32 → Prop} (hΦ : ∀ r, Φ r 0) : wp_X8_state sta hn hs hw x0 F Φ := by
  unfold wp_X8_state
  have k : ∀ r, (¬ r = (0 : Int32) → (¬ x0 = 0 → (¬ x0 = 1 → (¬ sta = 0 → (¬ x0 = 2 → Φ hw 0) ∧ (x0 = 2 → Φ hs 0)) ∧ (sta = 0 → Φ 0 0)) ∧ (x0 = 1 → (sta = 0 → Φ (-1) 0) ∧ (¬ sta = 0 → (¬ sta = 2 → Φ hn 0) ∧ (sta = 2 → Φ (-1) 0)))) ∧ (x0 = 0 → Φ sta 0)) ∧ (r = 0 → Φ (-1) 0) := fun r => ⟨fun _ => ⟨fun _ => ⟨fun _ => ⟨fun _ => ⟨fun _ => hΦ _, fun _ => hΦ _⟩, fun _ => hΦ _⟩, fun _ => ⟨fun _ => hΦ _, fun _ => ⟨fun _ => hΦ _, fun _ => hΦ _⟩⟩⟩, fun _ => hΦ _⟩, fun _ => hΦ _⟩
  exact sp_X8_within (fun _ _ => k _) (fun _ => k _)
theorem sp_X8_count {ta0 x0 F : Int32} {st ce ip ln : Nat → Int32} {Φ : Int32 → Int32 → Prop} (hΦ : ∀ r, Φ r 0) : wp_X8_count ta0 st ce ip ln x0 F Φ := by
  unfold wp_X8_count
  have k : ∀ r, (¬ r = (0 : Int32) → (¬ x0 = 0 → (¬ x0 = 1 → (¬ x0 = 2 → (¬ x0 = 3 → Φ ta0 0) ∧ (x0 = 3 → Φ (ln 0) 0)) ∧ (x0 = 2 → Φ (ip 0) 0)) ∧ (x0 = 1 → Φ (ce 0) 0)) ∧ (x0 = 0 → Φ (st 0) 0)) ∧ (r = 0 → Φ (-1) 0) := fun r => ⟨fun _ => ⟨fun _ => ⟨fun _ => ⟨fun _ => ⟨fun _ => hΦ _, fun _ => hΦ _⟩, fun _ => hΦ _⟩, fun _ => hΦ _⟩, fun _ => hΦ _⟩, fun _ => hΦ _⟩
  exact sp_X8_within (fun _ _ => k _) (fun _ => k _)
theorem sp_X8_cell {k : Nat} {sta x0 F : Int32} {ce hc : Nat → Int32} {Φ : Int32 → Int32 → Prop} (hk : ce 0 = nI k) (hk6 : k ≤ 6) (h1 : Φ 0 1) (h0 : ∀ r, ¬ sta ≤ 0 → ¬ x0 < 0 → ¬ ce 0 ≤ x0 → Φ r 0) : wp_X8_cell sta ce hc x0 F Φ := by
  unfold wp_X8_cell kf_X8_cell_21
  have f : (¬ (1 : Int32) = 1 → vp_in x0 6 ∧ Φ (hc (x0).toNatClampNeg) 1) ∧ ((1 : Int32) = 1 → Φ 0 1) := ⟨fun z => absurd rfl z, fun _ => h1⟩
  refine ⟨fun _ => f, fun a => sp_X8_isCell (fun b c => ⟨fun z => absurd z (by decide), fun _ => ⟨fun _ => ⟨in_of hk b c hk6 (by decide), h0 _ a b c⟩, fun z => absurd z (by decide)⟩⟩) ⟨fun _ => f, fun z => absurd rfl z⟩⟩
theorem sp_X8_wrote {u : Nat} {sta x0 F hw : Int32} {hst : Nat → Int32} {Φ : Int32 → Int32 → Prop} (hu : hw = nI u) (hu6 : u ≤ 1000000) (h1 : Φ 0 1) (h0 : ∀ r, ¬ sta ≤ 0 → ¬ x0 < 0 → ¬ (if hw < (200 : Int32) then hw else (200 : Int32)) ≤ x0 → Φ r 0) : wp_X8_wrote sta hw hst x0 F Φ := by
  unfold wp_X8_wrote kf_X8_wrote_31
  have f : (¬ (1 : Int32) = 1 → vp_in x0 200 ∧ Φ (hst (x0).toNatClampNeg) 1) ∧ ((1 : Int32) = 1 → Φ 0 1) := ⟨fun z => absurd rfl z, fun _ => h1⟩
  refine ⟨fun _ => f, fun a => ⟨fun _ => f, fun b => ⟨fun _ => f, fun c => ⟨fun _ => ⟨?_, h0 _ a b c⟩, fun z => absurd z (by decide)⟩⟩⟩⟩
  by_cases e : hw < 200
  · rw [if_pos e] at c
    obtain ⟨j, hj, rfl⟩ := nI_of b
    have h2 : ¬ u ≤ j := fun z => c (by rw [hu]; exact nI_le z hj)
    rw [hu] at e
    have h3 : u < 200 := Nat.lt_of_not_le (fun z => Int32.not_lt.mpr (nI_le (a := 200) z (by omega)) e)
    exact pk_in j 200 (by omega)
  · rw [if_neg e] at c
    exact in_of (y := 200) (a := 200) rfl b c (Nat.le_refl _) (by decide)
theorem sp_X8_fresh {F : Int32} {wo : Nat → Int32} {Φ : Int32 → Int32 → (Nat → Int32) → Prop} (hΦ : ∀ wo', Φ 1 0 wo') : wp_X8_fresh F wo Φ := by
  have key : ∀ (m k : Nat) (wo : Nat → Int32), m = 16 - k → k ≤ 16 → lf_X8_fresh_7 Φ (m + 1) 0 wo (nI k) := by
    intro m
    induction m with
    | zero =>
      intro k wo hm hk
      have e : k = 16 := by omega
      subst e
      exact ⟨fun _ => hΦ _, fun z => absurd (by decide) z⟩
    | succ m ih =>
      intro k wo hm hk
      show lb_X8_fresh_7 _ _ _ _ _
      unfold lb_X8_fresh_7
      rw [nI_1]
      have ik : vp_in (nI k) 16 := pk_in k 16 (by omega)
      exact ⟨fun z => absurd z (nI_ge (b := 16) (by omega) (by decide)), fun _ => ⟨ik, ih (k + 1) _ (by omega) (by omega)⟩⟩
  exact ⟨16 - 0 + 1, key (16 - 0) 0 wo rfl (by decide)⟩
section TRY
variable {st ce ip ln be ca ic le mo ta ac ls tw lf lt cd : Nat → Int32}
theorem sp_X8_isInput {x : Int32} {Φ : Int32 → Prop} (h : GM st ce ip ln le mo ta ac ls lf lt cd) (h0 : Φ 0) (h1 : ¬ ln 0 ≤ 0 → ¬ x < 0 → Φ 1) : wp_X8_isInput ip ln le mo x Φ := by
  obtain ⟨-, -, ⟨i, i2, hi, hx⟩, -⟩ := h 0 (by decide) (by decide)
  unfold wp_X8_isInput
  exact ⟨fun _ => h0, fun a => ⟨fun _ => h0, fun b => sp_X8_inputsOf (p := 0) (by decide) hi i2 hx (fun m _ _ => ⟨fun _ => h0, fun _ => h1 a b⟩)⟩⟩
abbrev PTa : Type := Int32 → Int32 → PTr
theorem pos_of {l : Nat} {y : Int32} (hy : y = nI l) (h : ¬ y ≤ 0) : 0 < l := by
  rcases Nat.eq_zero_or_pos l with e | e
  · subst e; subst hy; exact absurd (by decide) h
  · exact e
theorem sp_X8_isEndless {a b : Int32} {Φ : Int32 → Prop} (h1 : Φ 1) (h0 : Φ 0) : wp_X8_isEndless a b Φ := by
  unfold wp_X8_isEndless
  exact ⟨fun _ => h0, fun _ => ⟨fun _ => h0, fun _ => h1⟩⟩
theorem sp_X8_steps {x f0 f1 f2 f3 f4 f5 f6 f7 : Int32} {k1 k2 k3 k4 k5 k6 k7 k8 k9 vo he we sr go pk : Nat → Int32} {Φ : PTa} (h : GM st ce ip ln le mo ta ac ls lf lt cd) (hΦ : ∀ r a w x isE isF u md k1 k2 k3 k4 k5 k6 k7 k8 k9 vo he we sr go pk, Φ r 0 a w x isE isF u md k1 k2 k3 k4 k5 k6 k7 k8 k9 vo he we sr go pk) : wp_X8_steps ce ip ln be ca ic le mo ta ac ls tw lf lt cd x f0 f1 f2 f3 f4 f5 f6 f7 k1 k2 k3 k4 k5 k6 k7 k8 k9 vo he we sr go pk Φ := by
  unfold wp_X8_steps
  obtain ⟨l, hr⟩ := h.rp (p := 0) (by decide) (by decide)
  refine sp_X8_isInput h ⟨fun z => absurd rfl z, fun _ => hΦ _ _ _ _ _ _ _ _ _ _ _ _ _ _ _ _ _ _ _ _ _ _ _⟩ (fun a b => ⟨fun _ => ?_, fun z => absurd z (by decide)⟩)
  exact sp_X8_tries (p := 0) hr (pos_of hr.2.1 a) (fun _ _ _ _ _ _ _ _ _ _ _ _ _ _ _ _ _ _ _ _ _ _ _ => sp_X8_isEndless ⟨fun _ => hΦ _ _ _ _ _ _ _ _ _ _ _ _ _ _ _ _ _ _ _ _ _ _ _, fun _ => hΦ _ _ _ _ _ _ _ _ _ _ _ _ _ _ _ _ _ _ _ _ _ _ _⟩ ⟨fun _ => hΦ _ _ _ _ _ _ _ _ _ _ _ _ _ _ _ _ _ _ _ _ _ _ _, fun _ => hΦ _ _ _ _ _ _ _ _ _ _ _ _ _ _ _ _ _ _ _ _ _ _ _⟩)
theorem sp_X8_falls {x f0 f1 f2 f3 f4 f5 f6 f7 : Int32} {k1 k2 k3 k4 k5 k6 k7 k8 k9 vo he we sr go pk : Nat → Int32} {Φ : PTa} (h : GM st ce ip ln le mo ta ac ls lf lt cd) (hΦ : ∀ r a w x isE isF u md k1 k2 k3 k4 k5 k6 k7 k8 k9 vo he we sr go pk, Φ r 0 a w x isE isF u md k1 k2 k3 k4 k5 k6 k7 k8 k9 vo he we sr go pk) : wp_X8_falls ce ip ln be ca ic le mo ta ac ls tw lf lt cd x f0 f1 f2 f3 f4 f5 f6 f7 k1 k2 k3 k4 k5 k6 k7 k8 k9 vo he we sr go pk Φ := by
  unfold wp_X8_falls
  obtain ⟨l, hr⟩ := h.rp (p := 0) (by decide) (by decide)
  refine sp_X8_isInput h ⟨fun z => absurd rfl z, fun _ => hΦ _ _ _ _ _ _ _ _ _ _ _ _ _ _ _ _ _ _ _ _ _ _ _⟩ (fun a b => ⟨fun _ => ?_, fun z => absurd z (by decide)⟩)
  exact sp_X8_tries (p := 0) hr (pos_of hr.2.1 a) (fun _ _ _ _ _ _ _ _ _ _ _ _ _ _ _ _ _ _ _ _ _ _ _ => ⟨fun _ => hΦ _ _ _ _ _ _ _ _ _ _ _ _ _ _ _ _ _ _ _ _ _ _ _, fun _ => hΦ _ _ _ _ _ _ _ _ _ _ _ _ _ _ _ _ _ _ _ _ _ _ _⟩)
end TRY
