/-- the hand's state: which of 0 .. 4, where next, the counts -/
def HS (l : Nat) (sta hn hs hw : Int32) : Prop := (sta = 0 ∨ sta = 1 ∨ sta = 2 ∨ sta = 3 ∨ sta = 4) ∧ (∃ s u : Nat, hs = nI s ∧ hw = nI u ∧ u ≤ s ∧ s ≤ 1000000) ∧ ((sta = 1 ∨ sta = 3) → ∃ j : Nat, j < l ∧ hn = nI j)
abbrev PRn : Type := Int32 → Int32 → Int32 → Int32 → Int32 → Int32 → Int32 → Int32 → Int32 → Int32 → Int32 → Int32 → (Nat → Int32) → (Nat → Int32) → (Nat → Int32) → (Nat → Int32) → (Nat → Int32) → (Nat → Int32) → (Nat → Int32) → (Nat → Int32) → (Nat → Int32) → (Nat → Int32) → (Nat → Int32) → (Nat → Int32) → (Nat → Int32) → (Nat → Int32) → (Nat → Int32) → (Nat → Int32) → Prop
section RUN
variable {l : Nat} {x0 : Int32} {ln be ta ac ls tw lf lt cd : Nat → Int32} {Φ : PRn}
def RH2 (l : Nat) (Φ : PRn) : Prop := ∀ r at0 wy nx isE isF wr sta hn hs hw k1 k2 k3 k4 k5 k6 k7 k8 k9 vo he we sr hc wo hst, HS l sta hn hs hw → Φ r 0 at0 wy nx isE isF wr sta hn hs hw k1 k2 k3 k4 k5 k6 k7 k8 k9 vo he we sr hc wo hst
theorem sp_run220 (hΦ : RH2 l Φ) {at0 wy nx isE isF wr sta hn hs hw l2 : Int32} {k1 k2 k3 k4 k5 k6 k7 k8 k9 vo he we sr hc hst : Nat → Int32} (hH : HS l sta hn hs hw) : ∀ (m k : Nat) (wo : Nat → Int32), m = 16 - k → k ≤ 16 → lf_X8_run_220 ln be ta ac ls tw lf lt cd x0 Φ (m + 1) 0 at0 wy nx isE isF wr sta hn hs hw k1 k2 k3 k4 k5 k6 k7 k8 k9 vo he we sr hc wo hst l2 (nI k) := by
  intro m
  induction m with
  | zero =>
    intro k wo hm hk
    have e : k = 16 := by omega
    subst e
    exact ⟨fun _ => hΦ _ _ _ _ _ _ _ _ _ _ _ _ _ _ _ _ _ _ _ _ _ _ _ _ _ _ _ hH, fun z => absurd (by decide) z⟩
  | succ m ih =>
    intro k wo hm hk
    show lb_X8_run_220 _ _ _ _ _ _ _ _ _ _ _ _ _ _ _ _ _ _ _ _ _ _ _ _ _ _ _ _ _ _ _ _ _ _ _ _ _ _ _ _ _
    unfold lb_X8_run_220
    rw [nI_1]
    have ik : vp_in (nI k) 16 := pk_in k 16 (by omega)
    exact ⟨fun z => absurd z (nI_ge (b := 16) (by omega) (by decide)), fun _ => ⟨ik, ik, ih (k + 1) _ (by omega) (by omega)⟩⟩
theorem sp_run194 (hΦ : RH2 l Φ) {at0 wy nx isE isF wr sta hn hs hw l2 : Int32} {k1 k2 k3 k4 k5 k6 k7 k8 k9 vo he we sr wo hst : Nat → Int32} (hH : HS l sta hn hs hw) : ∀ (m k : Nat) (hc : Nat → Int32), m = 6 - k → k ≤ 6 → lf_X8_run_194 ln be ta ac ls tw lf lt cd x0 Φ (m + 1) 0 at0 wy nx isE isF wr sta hn hs hw k1 k2 k3 k4 k5 k6 k7 k8 k9 vo he we sr hc wo hst l2 (nI k) := by
  intro m
  induction m with
  | zero =>
    intro k hc hm hk
    have e : k = 6 := by omega
    subst e
    exact ⟨fun _ => ⟨16 - 0 + 1, sp_run220 hΦ hH (16 - 0) 0 _ rfl (by decide)⟩, fun z => absurd (by decide) z⟩
  | succ m ih =>
    intro k hc hm hk
    show lb_X8_run_194 _ _ _ _ _ _ _ _ _ _ _ _ _ _ _ _ _ _ _ _ _ _ _ _ _ _ _ _ _ _ _ _ _ _ _ _ _ _ _ _ _
    unfold lb_X8_run_194
    rw [nI_1]
    have ik : vp_in (nI k) 6 := pk_in k 6 (by omega)
    exact ⟨fun z => absurd z (nI_ge (b := 6) (by omega) (by decide)), fun _ => ⟨ik, ik, ih (k + 1) _ (by omega) (by omega)⟩⟩
theorem sp_run143 (hΦ : RH2 l Φ) {x s u : Nat} {at0 wy isE isF wr sta hn l2 : Int32} {k1 k2 k3 k4 k5 k6 k7 k8 k9 vo he we sr hc wo hst : Nat → Int32} (hs : s ≤ 1000000) (hu : u ≤ s) (hx : isE = 0 → x < l) : kf_X8_run_143 ln be ta ac ls tw lf lt cd x0 Φ 0 at0 wy (nI x) isE isF wr sta hn (nI s) (nI u) k1 k2 k3 k4 k5 k6 k7 k8 k9 vo he we sr hc wo hst l2 := by
  unfold kf_X8_run_143
  have g : ∀ t : Int32, (t = 0 ∨ t = 1 ∨ t = 2 ∨ t = 3 ∨ t = 4) → ((t = 1 ∨ t = 3) → x < l) → ∃ n_, lf_X8_run_194 ln be ta ac ls tw lf lt cd x0 Φ n_ 0 at0 wy (nI x) isE isF wr t (nI x) (nI s) (nI u) k1 k2 k3 k4 k5 k6 k7 k8 k9 vo he we sr hc wo hst l2 0 := fun t h1 h2 => ⟨6 - 0 + 1, sp_run194 hΦ ⟨h1, ⟨s, u, rfl, rfl, hu, hs⟩, fun z => ⟨x, h2 z, rfl⟩⟩ (6 - 0) 0 _ rfl (by decide)⟩
  exact ⟨fun e => ⟨fun _ => ⟨fun _ => g 1 (by decide) (fun _ => hx e), fun _ => g 4 (by decide) (fun z => absurd z (by decide))⟩, fun _ => g 3 (by decide) (fun _ => hx e)⟩, fun _ => g 2 (by decide) (fun z => absurd z (by decide))⟩
theorem sp_run34 (hl : ln 0 = nI l) (h16 : l ≤ 16) (hLN : ∀ j, j < l → LN 0 j ta ac ls lf lt cd) (hΦ : RH2 l Φ) {sta hn : Int32} : ∀ (m s u x : Nat) (isE isF wr l2 : Int32) (k1 k2 k3 k4 k5 k6 k7 k8 k9 vo he we sr hc wo hst : Nat → Int32), m = 1000000 - s → s ≤ 1000000 → u ≤ s → (isE = 0 → x < l) → lf_X8_run_34 ln be ta ac ls tw lf lt cd x0 Φ (m + 1) 0 0 0 (nI x) isE isF wr sta hn (nI s) (nI u) k1 k2 k3 k4 k5 k6 k7 k8 k9 vo he we sr hc wo hst l2 := by
  intro m
  induction m with
  | zero =>
    intro s u x isE isF wr l2 k1 k2 k3 k4 k5 k6 k7 k8 k9 vo he we sr hc wo hst hm hs hu hx
    show lb_X8_run_34 _ _ _ _ _ _ _ _ _ _ _ _ _ _ _ _ _ _ _ _ _ _ _ _ _ _ _ _ _ _ _ _ _ _ _ _ _ _ _ _
    unfold lb_X8_run_34
    have e : s = 1000000 := by omega
    have d := sp_run143 (ln := ln) (be := be) (ta := ta) (ac := ac) (ls := ls) (tw := tw) (lf := lf) (lt := lt) (cd := cd) (x0 := x0) hΦ (x := x) (s := s) (u := u) (at0 := 0) (wy := 0) (isE := isE) (isF := isF) (wr := wr) (sta := sta) (hn := hn) (l2 := l2) (k1 := k1) (k2 := k2) (k3 := k3) (k4 := k4) (k5 := k5) (k6 := k6) (k7 := k7) (k8 := k8) (k9 := k9) (vo := vo) (he := he) (we := we) (sr := sr) (hc := hc) (wo := wo) (hst := hst) hs hu hx
    exact ⟨fun _ => d, fun _ => ⟨fun _ => d, fun _ => ⟨fun _ => d, fun _ => ⟨fun _ => d, fun z => absurd (by rw [e]; decide) z⟩⟩⟩⟩
  | succ m ih =>
    intro s u x isE isF wr l2 k1 k2 k3 k4 k5 k6 k7 k8 k9 vo he we sr hc wo hst hm hs hu hx
    show lb_X8_run_34 _ _ _ _ _ _ _ _ _ _ _ _ _ _ _ _ _ _ _ _ _ _ _ _ _ _ _ _ _ _ _ _ _ _ _ _ _ _ _ _
    unfold lb_X8_run_34
    have d := sp_run143 (ln := ln) (be := be) (ta := ta) (ac := ac) (ls := ls) (tw := tw) (lf := lf) (lt := lt) (cd := cd) (x0 := x0) hΦ (x := x) (s := s) (u := u) (at0 := 0) (wy := 0) (isE := isE) (isF := isF) (wr := wr) (sta := sta) (hn := hn) (l2 := l2) (k1 := k1) (k2 := k2) (k3 := k3) (k4 := k4) (k5 := k5) (k6 := k6) (k7 := k7) (k8 := k8) (k9 := k9) (vo := vo) (he := he) (we := we) (sr := sr) (hc := hc) (wo := wo) (hst := hst) hs hu hx
    refine ⟨fun _ => d, fun _ => ⟨fun _ => d, fun e0 => ⟨fun _ => d, fun f0 => ⟨fun _ => d, fun _ => ?_⟩⟩⟩⟩
    have hj := hx e0
    subst f0
    rw [nI_1, nI_1]
    refine sp_X8_stepsOn (p := 0) (u := 0) (by decide) hl hj h16 (by decide) (hLN x hj) (fun _ _ _ _ _ _ _ _ _ _ _ _ _ _ => ⟨fun z => absurd z (by decide), fun _ => sp_run143 hΦ hs hu hx⟩) (fun _ x' isE' u' _ _ _ _ _ _ _ _ _ _ _ _ _ hx' hE' hxl' hu' => ⟨fun _ => ⟨fun _ => ⟨fun _ => ?_, fun h2 => ⟨?_, ?_⟩⟩, fun _ => ?_⟩, fun z => absurd rfl z⟩)
    · exact ih (s + 1) (u + 1) x' isE' 0 _ _ _ _ _ _ _ _ _ _ _ _ _ _ _ _ _ _ (by omega) (by omega) (by omega) hxl'
    · have : u < 200 := Nat.lt_of_not_le (fun z => h2 (nI_le (a := 200) z (by omega)))
      exact pk_in u 200 this
    · exact ih (s + 1) (u + 1) x' isE' 0 _ _ _ _ _ _ _ _ _ _ _ _ _ _ _ _ _ _ (by omega) (by omega) (by omega) hxl'
    · exact ih (s + 1) u x' isE' 0 _ _ _ _ _ _ _ _ _ _ _ _ _ _ _ _ _ _ (by omega) (by omega) (by omega) hxl'
end RUN
