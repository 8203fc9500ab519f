abbrev PG : Type := Int32 → Int32 → Int32 → Int32 → Int32 → (Nat → Int32) → (Nat → Int32) → (Nat → Int32) → (Nat → Int32) → (Nat → Int32) → (Nat → Int32) → (Nat → Int32) → (Nat → Int32) → (Nat → Int32) → (Nat → Int32) → (Nat → Int32) → (Nat → Int32) → (Nat → Int32) → (Nat → Int32) → (Nat → Int32) → Prop
section GO
variable {p l u0 : Nat} {w : Int32} {ln be ta ac ls tw lf lt cd : Nat → Int32} {Φ : PG}
def GH (l u0 : Nat) (Φ : PG) : Prop := ∀ x isE isF u md k1 k2 k3 k4 k5 k6 k7 k8 k9 vo he we sr go pk, x ≤ l → u ≤ u0 + 1000 → md ≤ 1000 → Φ (nI x) isE isF (nI u) (nI md) k1 k2 k3 k4 k5 k6 k7 k8 k9 vo he we sr go pk
theorem sp_go33 (hp : p < 6) (hl : ln p = nI l) (h16 : l ≤ 16) (hu0 : u0 ≤ 1000000) (hLN : ∀ j, j < l → LN p j ta ac ls lf lt cd) (hΦ : GH l u0 Φ) : ∀ (m x : Nat) (isE isF : Int32) (u md : Nat) (k1 k2 k3 k4 k5 k6 k7 k8 k9 vo he we sr go pk : Nat → Int32), x ≤ l → (isE = 0 → x < l) → u ≤ u0 + md → md ≤ 1000 → 1001 - md ≤ m → lf_X8_goesOn_33 (nI p) w ln be ta ac ls tw lf lt cd Φ m (nI x) isE isF (nI u) (nI md) k1 k2 k3 k4 k5 k6 k7 k8 k9 vo he we sr go pk := by
  intro m
  induction m with
  | zero => intro x isE isF u md k1 k2 k3 k4 k5 k6 k7 k8 k9 vo he we sr go pk _ _ _ h1 h2; omega
  | succ m ih =>
    intro x isE isF u md k1 k2 k3 k4 k5 k6 k7 k8 k9 vo he we sr go pk hx hxl hu hmd hm
    show lb_X8_goesOn_33 _ _ _ _ _ _ _ _ _ _ _ _ _ _ _ _ _ _ _ _ _ _ _ _ _ _ _ _ _ _ _ _ _
    unfold lb_X8_goesOn_33
    have out := fun (e f : Int32) => hΦ x e f u md k1 k2 k3 k4 k5 k6 k7 k8 k9 vo he we sr go pk hx (by omega) hmd
    refine ⟨fun _ => out _ _, fun e0 => ⟨fun _ => out _ _, fun f0 => ?_⟩⟩
    have hj := hxl e0
    have ix : vp_in (nI x) 16 := pk_in x 16 (by omega)
    subst f0
    have k122 : (md < 1000 ∨ (w = 0 ∧ ¬ we (nI x).toNatClampNeg < be (4 * nI p + ls (16 * nI p + nI x).toNatClampNeg).toNatClampNeg * tw (16 * nI p + nI x).toNatClampNeg)) → kf_X8_goesOn_122 (nI p) w ln be ta ac ls tw lf lt cd (lf_X8_goesOn_33 (nI p) w ln be ta ac ls tw lf lt cd Φ m) Φ (nI x) isE 0 (nI u) (nI md) k1 k2 k3 k4 k5 k6 k7 k8 k9 vo he we sr go pk (nI x) (we (nI x).toNatClampNeg) := by
      intro hor
      unfold kf_X8_goesOn_122
      rw [nI_1]
      refine sp_X8_stepsOn hp hl hj h16 (by omega) (hLN x hj) (fun _ _ _ _ _ _ _ _ _ _ _ _ _ _ => ⟨fun z => absurd z (by decide), fun _ => hΦ x _ _ u md _ _ _ _ _ _ _ _ _ _ _ _ _ _ _ hx (by omega) hmd⟩) (fun hc x' isE' u' _ _ _ _ _ _ _ _ _ _ _ _ _ hx' hE' hxl' hu' => ⟨fun _ => ⟨ix, ix, ix, ix, ?_⟩, fun z => absurd rfl z⟩)
      have hlt : md < 1000 := hor.elim id (fun z => absurd (hc z.1) z.2)
      exact ih x' isE' 0 u' (md + 1) _ _ _ _ _ _ _ _ _ _ _ _ _ _ _ hx' hxl' (by omega) (by omega) (by omega)
    refine ⟨ix, fun hne => k122 (Or.inl (Nat.lt_of_le_of_ne hmd (fun e => hne (by rw [e]; rfl)))), fun _ => ⟨fun _ => out _ _, fun w0 => ?_⟩⟩
    have hq : (16 : Int32) * nI p + nI x = nI (16 * p + x) := by rw [show (16 : Int32) = nI 16 from rfl, pk_mul, nI_add]
    have iq : vp_in ((16 : Int32) * nI p + nI x) 96 := by rw [hq]; exact pk_in (16 * p + x) 96 (by omega)
    obtain ⟨⟨xs, xs4, hxs⟩, -⟩ := hLN x hj
    have i4 : vp_in ((4 : Int32) * nI p + ls ((16 : Int32) * nI p + nI x).toNatClampNeg) 24 := by
      rw [hq, nI_clamp (by omega), hxs, show (4 : Int32) = nI 4 from rfl, pk_mul, nI_add]
      exact pk_in (4 * p + xs) 24 (by omega)
    exact ⟨iq, i4, iq, fun hle => k122 (Or.inr ⟨w0, Int32.not_lt.mpr hle⟩), fun _ => out _ _⟩
theorem sp_X8_goesOn {x u : Nat} {isE isF f0 : Int32} {k1 k2 k3 k4 k5 k6 k7 k8 k9 vo he we sr go pk : Nat → Int32} (hp : p < 6) (hl : ln p = nI l) (h16 : l ≤ 16) (hu0 : u ≤ 1000000) (hLN : ∀ j, j < l → LN p j ta ac ls lf lt cd) (hx : x ≤ l) (hxl : isE = 0 → x < l) (hΦ : GH l u Φ) : wp_X8_goesOn (nI p) w ln be ta ac ls tw lf lt cd (nI x) isE isF (nI u) f0 k1 k2 k3 k4 k5 k6 k7 k8 k9 vo he we sr go pk Φ := by
  have key : ∀ m k (go pk : Nat → Int32), m = 16 - k → k ≤ 16 → lf_X8_goesOn_7 (nI p) w ln be ta ac ls tw lf lt cd Φ (m + 1) (nI x) isE isF (nI u) 0 k1 k2 k3 k4 k5 k6 k7 k8 k9 vo he we sr go pk (nI k) := by
    intro m
    induction m with
    | zero =>
      intro k go pk hm hk
      have e : k = 16 := by omega
      subst e
      exact ⟨fun _ => ⟨1001, sp_go33 hp hl h16 hu0 hLN hΦ 1001 x isE isF u 0 _ _ _ _ _ _ _ _ _ _ _ _ _ _ _ hx hxl (by omega) (by omega) (by omega)⟩, fun z => absurd (by decide) z⟩
    | succ m ih =>
      intro k go pk hm hk
      show lb_X8_goesOn_7 _ _ _ _ _ _ _ _ _ _ _ _ _ _ _ _ _ _ _ _ _ _ _ _ _ _ _ _ _ _ _ _ _ _
      unfold lb_X8_goesOn_7
      rw [nI_1]
      have ik : vp_in (nI k) 16 := pk_in k 16 (by omega)
      exact ⟨fun z => absurd z (nI_ge (b := 16) (by omega) (by decide)), fun _ => ⟨ik, ik, ih (k + 1) _ _ (by omega) (by omega)⟩⟩
  exact ⟨16 - 0 + 1, key (16 - 0) 0 go pk rfl (by decide)⟩
end GO
/-- what a run wants of the programme at p -/
def RP (p l : Nat) (ip ln le mo ta ac ls lf lt cd : Nat → Int32) : Prop := p < 6 ∧ ln p = nI l ∧ l ≤ 16 ∧ (∃ i : Nat, i ≤ 2 ∧ ip p = nI i ∧ ∀ j, j < i → ∃ a m : Nat, le (2 * p + j) = nI a ∧ mo (2 * p + j) = nI m ∧ a ≤ m ∧ m ≤ 9999) ∧ ∀ j, j < l → LN p j ta ac ls lf lt cd
theorem GM.rp {p : Nat} {st ce ip ln le mo ta ac ls lf lt cd : Nat → Int32} (h : GM st ce ip ln le mo ta ac ls lf lt cd) (hp : p < 6) (hp1 : ¬ p = 1) : ∃ l : Nat, RP p l ip ln le mo ta ac ls lf lt cd := by
  obtain ⟨-, -, h3, ⟨l, a1, a2, a3⟩⟩ := h p hp hp1
  exact ⟨l, hp, a2, a1, h3, fun j hj => ⟨(a3 j hj).1, 1000 * p + 1000, by omega, (a3 j hj).2⟩⟩
abbrev PTr : Type := Int32 → Int32 → PG
theorem sp_X8_tries {p l : Nat} {v w f1 f2 f3 f4 f5 f6 f7 : Int32} {ce ip ln be ca ic le mo ta ac ls tw lf lt cd : Nat → Int32} {k1 k2 k3 k4 k5 k6 k7 k8 k9 vo he we sr go pk : Nat → Int32} {Φ : PTr} (h : RP p l ip ln le mo ta ac ls lf lt cd) (hl0 : 0 < l) (hΦ : GH l 0 (Φ (nI p) w)) : wp_X8_tries ce ip ln be ca ic le mo ta ac ls tw lf lt cd (nI p) v w f1 f2 f3 f4 f5 f6 f7 k1 k2 k3 k4 k5 k6 k7 k8 k9 vo he we sr go pk Φ := by
  obtain ⟨hp, hl, h16, ⟨i, hi2, hi, hx⟩, hLN⟩ := h
  unfold wp_X8_tries
  exact sp_X8_freshens (fun we' => sp_X8_begins hp hi hi2 hx (fun he' => sp_X8_goesOn (x := 0) (u := 0) hp hl h16 (by decide) hLN (Nat.zero_le _) (fun _ => hl0) hΦ))
