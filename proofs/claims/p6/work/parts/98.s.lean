section WEARS
variable {st ce ip ln be ca ic le mo ta ac ls tw lf lt cd : Nat → Int32}
abbrev PWr : Type := Int32 → Int32 → Int32 → Int32 → Int32 → Int32 → Int32 → Int32 → (Nat → Int32) → (Nat → Int32) → (Nat → Int32) → (Nat → Int32) → (Nat → Int32) → (Nat → Int32) → (Nat → Int32) → (Nat → Int32) → (Nat → Int32) → (Nat → Int32) → (Nat → Int32) → (Nat → Int32) → (Nat → Int32) → (Nat → Int32) → (Nat → Int32) → (Nat → Int32) → (Nat → Int32) → (Nat → Int32) → Prop
def WH (Φ : PWr) : Prop := ∀ r a w x isE isF u md k1 k2 k3 k4 k5 k6 k7 k8 k9 vo he we sr go pk mg mb mp, (r = 0 ∨ r = 1) → Φ r a w x isE isF u md k1 k2 k3 k4 k5 k6 k7 k8 k9 vo he we sr go pk mg mb mp
theorem sp_wears68 {κ : Int32 → Int32 → Int32 → Int32 → Int32 → Int32 → Int32 → (Nat → Int32) → (Nat → Int32) → (Nat → Int32) → (Nat → Int32) → (Nat → Int32) → (Nat → Int32) → (Nat → Int32) → (Nat → Int32) → (Nat → Int32) → (Nat → Int32) → (Nat → Int32) → (Nat → Int32) → (Nat → Int32) → (Nat → Int32) → (Nat → Int32) → (Nat → Int32) → (Nat → Int32) → (Nat → Int32) → Int32 → Prop} {Φ : PWr} {f1 f2 f3 f4 f5 f6 f7 l1 : Int32} {k1 k2 k3 k4 k5 k6 k7 k8 k9 vo he we sr go pk : Nat → Int32} (hκ : ∀ mg mb mp, κ f1 f2 f3 f4 f5 f6 f7 k1 k2 k3 k4 k5 k6 k7 k8 k9 vo he we sr go pk mg mb mp (l1 + 1)) : ∀ (m k : Nat) (mg mb mp : Nat → Int32), m = 16 - k → k ≤ 16 → lf_X8_wears_68 ce ip ln be ca ic le mo ta ac ls tw lf lt cd κ Φ (m + 1) f1 f2 f3 f4 f5 f6 f7 k1 k2 k3 k4 k5 k6 k7 k8 k9 vo he we sr go pk mg mb mp l1 (nI k) := by
  intro m
  induction m with
  | zero =>
    intro k mg mb mp hm hk
    have e : k = 16 := by omega
    subst e
    exact ⟨fun _ => hκ _ _ _, fun z => absurd (by decide) z⟩
  | succ m ih =>
    intro k mg mb mp hm hk
    show lb_X8_wears_68 _ _ _ _ _ _ _ _ _ _ _ _ _ _ _ _ _ _ _ _ _ _ _ _ _ _ _ _ _ _ _ _ _ _ _ _ _ _ _ _ _ _ _ _ _
    unfold lb_X8_wears_68
    rw [nI_1]
    have ik : vp_in (nI k) 16 := pk_in k 16 (by omega)
    exact ⟨fun z => absurd z (nI_ge (b := 16) (by omega) (by decide)), fun _ => ⟨ik, ik, ik, ik, ik, fun _ => ⟨ik, ik, ik, ih (k + 1) _ _ _ (by omega) (by omega)⟩, fun _ => ih (k + 1) _ _ _ (by omega) (by omega)⟩⟩
theorem sp_wears30 {Φ : PWr} (h : GM st ce ip ln le mo ta ac ls lf lt cd) (hΦ : WH Φ) : ∀ (m k : Nat) (f1 f2 f3 f4 f5 f6 f7 : Int32) (k1 k2 k3 k4 k5 k6 k7 k8 k9 vo he we sr go pk mg mb mp : Nat → Int32), m = 100000000 - k → k ≤ 100000000 → lf_X8_wears_30 ce ip ln be ca ic le mo ta ac ls tw lf lt cd Φ (m + 1) f1 f2 f3 f4 f5 f6 f7 k1 k2 k3 k4 k5 k6 k7 k8 k9 vo he we sr go pk mg mb mp (nI k) := by
  obtain ⟨l, hr⟩ := h.rp (p := 0) (by decide) (by decide)
  obtain ⟨-, -, ⟨i, i2, hi, hx⟩, -⟩ := h 0 (by decide) (by decide)
  intro m
  induction m with
  | zero =>
    intro k f1 f2 f3 f4 f5 f6 f7 k1 k2 k3 k4 k5 k6 k7 k8 k9 vo he we sr go pk mg mb mp hm hk
    show lb_X8_wears_30 _ _ _ _ _ _ _ _ _ _ _ _ _ _ _ _ _ _ _ _ _ _ _ _ _ _ _ _ _ _ _ _ _ _ _ _ _ _ _ _ _ _ _
    unfold lb_X8_wears_30
    exact sp_X8_inputsOf (p := 0) (by decide) hi i2 hx (fun q _ hq => ⟨fun _ => hΦ _ _ _ _ _ _ _ _ _ _ _ _ _ _ _ _ _ _ _ _ _ _ _ _ _ _ (Or.inr rfl), fun z => absurd (nI_le (by omega) (by omega)) z⟩)
  | succ m ih =>
    intro k f1 f2 f3 f4 f5 f6 f7 k1 k2 k3 k4 k5 k6 k7 k8 k9 vo he we sr go pk mg mb mp hm hk
    show lb_X8_wears_30 _ _ _ _ _ _ _ _ _ _ _ _ _ _ _ _ _ _ _ _ _ _ _ _ _ _ _ _ _ _ _ _ _ _ _ _ _ _ _ _ _ _ _
    unfold lb_X8_wears_30
    refine sp_X8_inputsOf (p := 0) (by decide) hi i2 hx (fun q _ hq => ⟨fun _ => hΦ _ _ _ _ _ _ _ _ _ _ _ _ _ _ _ _ _ _ _ _ _ _ _ _ _ _ (Or.inr rfl), fun z => ⟨fun hl0 => ?_, fun _ => hΦ _ _ _ _ _ _ _ _ _ _ _ _ _ _ _ _ _ _ _ _ _ _ _ _ _ _ (Or.inl rfl)⟩⟩)
    have hl : 0 < l := Nat.pos_of_ne_zero (fun e => hl0 (by rw [hr.2.1, e]; rfl))
    refine sp_X8_tries (p := 0) hr hl (fun _ _ _ _ _ _ _ _ _ _ _ _ _ _ _ _ _ _ _ _ _ _ _ => sp_X8_isEndless ⟨fun z => absurd z (by decide), fun _ => hΦ _ _ _ _ _ _ _ _ _ _ _ _ _ _ _ _ _ _ _ _ _ _ _ _ _ _ (Or.inl rfl)⟩ ⟨fun _ => ⟨16 - 0 + 1, sp_wears68 (fun mg mb mp => ?_) (16 - 0) 0 _ _ _ rfl (by decide)⟩, fun z => absurd rfl z⟩)
    rw [nI_1]
    exact ih (k + 1) _ _ _ _ _ _ _ _ _ _ _ _ _ _ _ _ _ _ _ _ _ _ _ _ _ (by omega) (by omega)
theorem sp_X8_wears {Φ : PWr} {f1 f2 f3 f4 f5 f6 f7 : Int32} {k1 k2 k3 k4 k5 k6 k7 k8 k9 vo he we sr go pk mg mb mp : Nat → Int32} (h : GM st ce ip ln le mo ta ac ls lf lt cd) (hΦ : WH Φ) : wp_X8_wears ce ip ln be ca ic le mo ta ac ls tw lf lt cd f1 f2 f3 f4 f5 f6 f7 k1 k2 k3 k4 k5 k6 k7 k8 k9 vo he we sr go pk mg mb mp Φ := by
  have key : ∀ (m k : Nat) (mg mp : Nat → Int32), m = 16 - k → k ≤ 16 → lf_X8_wears_2 ce ip ln be ca ic le mo ta ac ls tw lf lt cd Φ (m + 1) f1 f2 f3 f4 f5 f6 f7 k1 k2 k3 k4 k5 k6 k7 k8 k9 vo he we sr go pk mg mb mp (nI k) := by
    intro m
    induction m with
    | zero =>
      intro k mg mp hm hk
      have e : k = 16 := by omega
      subst e
      exact ⟨fun _ => ⟨100000000 - 0 + 1, sp_wears30 h hΦ (100000000 - 0) 0 _ _ _ _ _ _ _ _ _ _ _ _ _ _ _ _ _ _ _ _ _ _ _ _ _ rfl (by decide)⟩, fun z => absurd (by decide) z⟩
    | succ m ih =>
      intro k mg mp hm hk
      show lb_X8_wears_2 _ _ _ _ _ _ _ _ _ _ _ _ _ _ _ _ _ _ _ _ _ _ _ _ _ _ _ _ _ _ _ _ _ _ _ _ _ _ _ _ _ _ _
      unfold lb_X8_wears_2
      rw [nI_1]
      have ik : vp_in (nI k) 16 := pk_in k 16 (by omega)
      exact ⟨fun z => absurd z (nI_ge (b := 16) (by omega) (by decide)), fun _ => ⟨ik, ik, ih (k + 1) _ _ (by omega) (by omega)⟩⟩
  exact ⟨16 - 0 + 1, key (16 - 0) 0 mg mp rfl (by decide)⟩
abbrev PWm : Type := Int32 → PWr
def WM (Φ : PWm) : Prop := ∀ r a w x isE isF u md k1 k2 k3 k4 k5 k6 k7 k8 k9 vo he we sr go pk mg mb mp, Φ r 0 a w x isE isF u md k1 k2 k3 k4 k5 k6 k7 k8 k9 vo he we sr go pk mg mb mp
theorem sp_X8_most {Φ : PWm} {x0 x1 f0 f1 f2 f3 f4 f5 f6 f7 : Int32} {k1 k2 k3 k4 k5 k6 k7 k8 k9 vo he we sr go pk mg mb mp : Nat → Int32} (h : GM st ce ip ln le mo ta ac ls lf lt cd) (hΦ : WM Φ) : wp_X8_most ce ip ln be ca ic le mo ta ac ls tw lf lt cd x0 x1 f0 f1 f2 f3 f4 f5 f6 f7 k1 k2 k3 k4 k5 k6 k7 k8 k9 vo he we sr go pk mg mb mp Φ := by
  obtain ⟨-, -, -, ⟨l, l16, hl, -⟩⟩ := h 0 (by decide) (by decide)
  unfold wp_X8_most
  refine sp_X8_isLine (fun a b => ⟨fun _ => hΦ _ _ _ _ _ _ _ _ _ _ _ _ _ _ _ _ _ _ _ _ _ _ _ _ _ _, fun _ => ?_⟩) ⟨fun _ => hΦ _ _ _ _ _ _ _ _ _ _ _ _ _ _ _ _ _ _ _ _ _ _ _ _ _ _, fun z => absurd rfl z⟩
  have i6 : vp_in x0 16 := in_of hl a b (by omega) (by decide)
  exact sp_X8_within (fun _ _ => ⟨fun _ => hΦ _ _ _ _ _ _ _ _ _ _ _ _ _ _ _ _ _ _ _ _ _ _ _ _ _ _, fun _ => sp_X8_wears h (fun r _ _ _ _ _ _ _ _ _ _ _ _ _ _ _ _ _ _ _ _ _ _ _ _ _ _ => ⟨fun _ => ⟨fun _ => ⟨fun _ => ⟨i6, hΦ _ _ _ _ _ _ _ _ _ _ _ _ _ _ _ _ _ _ _ _ _ _ _ _ _ _⟩, fun _ => ⟨i6, hΦ _ _ _ _ _ _ _ _ _ _ _ _ _ _ _ _ _ _ _ _ _ _ _ _ _ _⟩⟩, fun _ => ⟨i6, hΦ _ _ _ _ _ _ _ _ _ _ _ _ _ _ _ _ _ _ _ _ _ _ _ _ _ _⟩⟩, fun _ => hΦ _ _ _ _ _ _ _ _ _ _ _ _ _ _ _ _ _ _ _ _ _ _ _ _ _ _⟩)⟩) (fun _ => ⟨fun _ => hΦ _ _ _ _ _ _ _ _ _ _ _ _ _ _ _ _ _ _ _ _ _ _ _ _ _ _, fun z => absurd rfl z⟩)
theorem sp_X8_never {Φ : PWm} {f0 f1 f2 f3 f4 f5 f6 f7 : Int32} {k1 k2 k3 k4 k5 k6 k7 k8 k9 vo he we sr go pk mg mb mp : Nat → Int32} (h : GM st ce ip ln le mo ta ac ls lf lt cd) (hΦ : WM Φ) : wp_X8_never ce ip ln be ca ic le mo ta ac ls tw lf lt cd f0 f1 f2 f3 f4 f5 f6 f7 k1 k2 k3 k4 k5 k6 k7 k8 k9 vo he we sr go pk mg mb mp Φ := by
  obtain ⟨-, -, -, ⟨l, l16, hl, -⟩⟩ := h 0 (by decide) (by decide)
  have key : ∀ (m k : Nat) (l1 f1 f2 f3 f4 f5 f6 f7 : Int32) (k1 k2 k3 k4 k5 k6 k7 k8 k9 vo he we sr go pk mg mb mp : Nat → Int32), m = l - k → k ≤ l → lf_X8_never_18 ce ip ln be ca ic le mo ta ac ls tw lf lt cd Φ (m + 1) 0 f1 f2 f3 f4 f5 f6 f7 k1 k2 k3 k4 k5 k6 k7 k8 k9 vo he we sr go pk mg mb mp l1 (nI k) := by
    intro m
    induction m with
    | zero =>
      intro k l1 f1 f2 f3 f4 f5 f6 f7 k1 k2 k3 k4 k5 k6 k7 k8 k9 vo he we sr go pk mg mb mp hm hk
      show lb_X8_never_18 _ _ _ _ _ _ _ _ _ _ _ _ _ _ _ _ _ _ _ _ _ _ _ _ _ _ _ _ _ _ _ _ _ _ _ _ _ _ _ _ _ _ _ _ _
      unfold lb_X8_never_18
      exact ⟨fun _ => hΦ _ _ _ _ _ _ _ _ _ _ _ _ _ _ _ _ _ _ _ _ _ _ _ _ _ _, fun z => absurd (by rw [hl]; exact nI_le (by omega) (by omega)) z⟩
    | succ m ih =>
      intro k l1 f1 f2 f3 f4 f5 f6 f7 k1 k2 k3 k4 k5 k6 k7 k8 k9 vo he we sr go pk mg mb mp hm hk
      show lb_X8_never_18 _ _ _ _ _ _ _ _ _ _ _ _ _ _ _ _ _ _ _ _ _ _ _ _ _ _ _ _ _ _ _ _ _ _ _ _ _ _ _ _ _ _ _ _ _
      unfold lb_X8_never_18
      rw [nI_1]
      have ik : vp_in (nI k) 16 := pk_in k 16 (by omega)
      exact ⟨fun _ => hΦ _ _ _ _ _ _ _ _ _ _ _ _ _ _ _ _ _ _ _ _ _ _ _ _ _ _, fun _ => ⟨ik, fun _ => ih (k + 1) _ _ _ _ _ _ _ _ _ _ _ _ _ _ _ _ _ _ _ _ _ _ _ _ _ _ (by omega) (by omega), fun _ => ih (k + 1) _ _ _ _ _ _ _ _ _ _ _ _ _ _ _ _ _ _ _ _ _ _ _ _ _ _ (by omega) (by omega)⟩⟩
  unfold wp_X8_never
  exact sp_X8_wears h (fun r _ _ _ _ _ _ _ _ _ _ _ _ _ _ _ _ _ _ _ _ _ _ _ _ _ _ => ⟨fun _ => ⟨l - 0 + 1, key (l - 0) 0 _ _ _ _ _ _ _ _ _ _ _ _ _ _ _ _ _ _ _ _ _ _ _ _ _ _ rfl (Nat.zero_le _)⟩, fun _ => hΦ _ _ _ _ _ _ _ _ _ _ _ _ _ _ _ _ _ _ _ _ _ _ _ _ _ _⟩)
theorem sp_first35 {Φ : PTa} {x0 : Int32} (h : GM st ce ip ln le mo ta ac ls lf lt cd) (hl0 : ¬ ln 0 = 0) (hΦ : ∀ r a w x isE isF u md k1 k2 k3 k4 k5 k6 k7 k8 k9 vo he we sr go pk, Φ r 0 a w x isE isF u md k1 k2 k3 k4 k5 k6 k7 k8 k9 vo he we sr go pk) : ∀ (m k : Nat) (f1 f2 f3 f4 f5 f6 f7 : Int32) (k1 k2 k3 k4 k5 k6 k7 k8 k9 vo he we sr go pk : Nat → Int32) (l2 l3 l4 : Int32), m = 100000000 - k → k ≤ 100000000 → lf_X8_first_35 ce ip ln be ca ic le mo ta ac ls tw lf lt cd x0 Φ (m + 1) 0 f1 f2 f3 f4 f5 f6 f7 k1 k2 k3 k4 k5 k6 k7 k8 k9 vo he we sr go pk l2 l3 l4 (nI k) := by
  obtain ⟨l, hr⟩ := h.rp (p := 0) (by decide) (by decide)
  obtain ⟨-, -, ⟨i, i2, hi, hx⟩, -⟩ := h 0 (by decide) (by decide)
  have hl : 0 < l := Nat.pos_of_ne_zero (fun e => hl0 (by rw [hr.2.1, e]; rfl))
  intro m
  induction m with
  | zero =>
    intro k f1 f2 f3 f4 f5 f6 f7 k1 k2 k3 k4 k5 k6 k7 k8 k9 vo he we sr go pk l2 l3 l4 hm hk
    show lb_X8_first_35 _ _ _ _ _ _ _ _ _ _ _ _ _ _ _ _ _ _ _ _ _ _ _ _ _ _ _ _ _ _ _ _ _ _ _ _ _ _ _ _ _ _ _ _ _
    unfold lb_X8_first_35
    exact sp_X8_inputsOf (p := 0) (by decide) hi i2 hx (fun q _ hq => ⟨fun _ => ⟨fun _ => ⟨fun _ => ⟨fun _ => hΦ _ _ _ _ _ _ _ _ _ _ _ _ _ _ _ _ _ _ _ _ _ _ _, fun _ => hΦ _ _ _ _ _ _ _ _ _ _ _ _ _ _ _ _ _ _ _ _ _ _ _⟩, fun _ => hΦ _ _ _ _ _ _ _ _ _ _ _ _ _ _ _ _ _ _ _ _ _ _ _⟩, fun _ => hΦ _ _ _ _ _ _ _ _ _ _ _ _ _ _ _ _ _ _ _ _ _ _ _⟩, fun z => absurd (nI_le (by omega) (by omega)) z⟩)
  | succ m ih =>
    intro k f1 f2 f3 f4 f5 f6 f7 k1 k2 k3 k4 k5 k6 k7 k8 k9 vo he we sr go pk l2 l3 l4 hm hk
    show lb_X8_first_35 _ _ _ _ _ _ _ _ _ _ _ _ _ _ _ _ _ _ _ _ _ _ _ _ _ _ _ _ _ _ _ _ _ _ _ _ _ _ _ _ _ _ _ _ _
    unfold lb_X8_first_35 kf_X8_first_75
    rw [nI_1]
    refine sp_X8_inputsOf (p := 0) (by decide) hi i2 hx (fun q _ hq => ⟨fun _ => ⟨fun _ => ⟨fun _ => ⟨fun _ => hΦ _ _ _ _ _ _ _ _ _ _ _ _ _ _ _ _ _ _ _ _ _ _ _, fun _ => hΦ _ _ _ _ _ _ _ _ _ _ _ _ _ _ _ _ _ _ _ _ _ _ _⟩, fun _ => hΦ _ _ _ _ _ _ _ _ _ _ _ _ _ _ _ _ _ _ _ _ _ _ _⟩, fun _ => hΦ _ _ _ _ _ _ _ _ _ _ _ _ _ _ _ _ _ _ _ _ _ _ _⟩, fun _ => ?_⟩)
    have g := fun f1 f2 f3 f4 f5 f6 f7 k1 k2 k3 k4 k5 k6 k7 k8 k9 vo he we sr go pk l2 l3 l4 => ih (k + 1) f1 f2 f3 f4 f5 f6 f7 k1 k2 k3 k4 k5 k6 k7 k8 k9 vo he we sr go pk l2 l3 l4 (by omega) (by omega)
    exact sp_X8_tries (p := 0) hr hl (fun _ _ _ _ _ _ _ _ _ _ _ _ _ _ _ _ _ _ _ _ _ _ _ => ⟨fun _ => g _ _ _ _ _ _ _ _ _ _ _ _ _ _ _ _ _ _ _ _ _ _ _ _ _, fun _ => ⟨fun _ => g _ _ _ _ _ _ _ _ _ _ _ _ _ _ _ _ _ _ _ _ _ _ _ _ _, fun _ => ⟨fun _ => g _ _ _ _ _ _ _ _ _ _ _ _ _ _ _ _ _ _ _ _ _ _ _ _ _, fun _ => g _ _ _ _ _ _ _ _ _ _ _ _ _ _ _ _ _ _ _ _ _ _ _ _ _⟩⟩⟩)
theorem sp_X8_first {Φ : PTa} {x0 f0 f1 f2 f3 f4 f5 f6 f7 : Int32} {k1 k2 k3 k4 k5 k6 k7 k8 k9 vo he we sr go pk : Nat → Int32} (h : GM st ce ip ln le mo ta ac ls lf lt cd) (hΦ : ∀ r a w x isE isF u md k1 k2 k3 k4 k5 k6 k7 k8 k9 vo he we sr go pk, Φ r 0 a w x isE isF u md k1 k2 k3 k4 k5 k6 k7 k8 k9 vo he we sr go pk) : wp_X8_first ce ip ln be ca ic le mo ta ac ls tw lf lt cd x0 f0 f1 f2 f3 f4 f5 f6 f7 k1 k2 k3 k4 k5 k6 k7 k8 k9 vo he we sr go pk Φ := by
  unfold wp_X8_first
  exact sp_X8_within (fun _ _ => ⟨fun _ => hΦ _ _ _ _ _ _ _ _ _ _ _ _ _ _ _ _ _ _ _ _ _ _ _, fun _ => ⟨fun hl0 => ⟨100000000 - 0 + 1, sp_first35 h hl0 hΦ (100000000 - 0) 0 _ _ _ _ _ _ _ _ _ _ _ _ _ _ _ _ _ _ _ _ _ _ _ _ _ rfl (by decide)⟩, fun _ => hΦ _ _ _ _ _ _ _ _ _ _ _ _ _ _ _ _ _ _ _ _ _ _ _⟩⟩) (fun _ => ⟨fun _ => hΦ _ _ _ _ _ _ _ _ _ _ _ _ _ _ _ _ _ _ _ _ _ _ _, fun z => absurd rfl z⟩)
end WEARS
