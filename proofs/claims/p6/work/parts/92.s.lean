abbrev PWk : Type := Int32 → (Nat → Int32) → (Nat → Int32) → (Nat → Int32) → (Nat → Int32) → (Nat → Int32) → (Nat → Int32) → (Nat → Int32) → (Nat → Int32) → (Nat → Int32) → (Nat → Int32) → Prop
/-- a line of the programme at p, as the rows hold it -/
def LN (p j : Nat) (ta ac ls lf lt cd : Nat → Int32) : Prop := (∃ x : Nat, x < 4 ∧ ls (16 * p + j) = nI x) ∧ ∃ hi, hi ≤ 6000 ∧ LW ta ac lf lt cd (16 * p + j) (1000 * p) hi
theorem sp_X8_works {p j l v : Nat} {w : Int32} {ln lf lt cd he we ta ac ls : Nat → Int32} {k1 k2 k3 k4 k5 k6 k7 k8 k9 vo : Nat → Int32} {Φ : PWk} (hp : p < 6) (hl : ln p = nI l) (hj : j < l) (h16 : l ≤ 16) (hv : v < 2) (hLN : LN p j ta ac ls lf lt cd) (hΦ : ∀ r b1 b2 b3 b4 b5 b6 b7 b8 b9 b10, Φ r b1 b2 b3 b4 b5 b6 b7 b8 b9 b10) : wp_X8_works (nI p) w ln lf lt cd he we (nI j) (nI v) k1 k2 k3 k4 k5 k6 k7 k8 k9 vo Φ := by
  obtain ⟨-, hi, hi6, -, hW⟩ := hLN
  obtain ⟨f, e, L, e1, e2, e3, e4, e5, e6⟩ := hW v hv
  have ex : (32 : Int32) * nI p + 2 * nI j + nI v = nI (2 * (16 * p + j) + v) := by
    rw [show (32 : Int32) = nI 32 from rfl, show (2 : Int32) = nI 2 from rfl, pk_mul, pk_mul, nI_add, nI_add]
    congr 1
    omega
  have key : ∀ m k (vo : Nat → Int32), m = 6 - k → k ≤ 6 → lf_X8_works_2 (nI p) w ln lf lt cd he we (nI j) (nI v) Φ (m + 1) k1 k2 k3 k4 k5 k6 k7 k8 k9 vo (nI k) := by
    intro m
    induction m with
    | zero =>
      intro k vo hm hk
      have e : k = 6 := by omega
      subst e
      show lb_X8_works_2 _ _ _ _ _ _ _ _ _ _ _ _ _ _ _ _ _ _ _ _ _ _ _
      unfold lb_X8_works_2
      rw [ex]
      exact ⟨fun _ => sp_X8_worked hp hl (by omega) h16 (by omega) e1 e2 e4 (by omega) e6 (fun _ _ _ _ _ _ _ _ _ _ => hΦ _ _ _ _ _ _ _ _ _ _ _), fun z => absurd (by decide) z⟩
    | succ m ih =>
      intro k vo hm hk
      show lb_X8_works_2 _ _ _ _ _ _ _ _ _ _ _ _ _ _ _ _ _ _ _ _ _ _ _
      unfold lb_X8_works_2
      have e1k : (1 : Int32) + nI k = nI (1 + k) := nI_add 1 k
      refine ⟨fun z => absurd z (nI_ge (b := 6) (by omega) (by decide)), fun _ => ⟨pk_in k 6 (by omega), ?_, ?_⟩⟩
      · rw [e1k]; exact pk_in (1 + k) 20 (by omega)
      · rw [nI_1]; exact ih (k + 1) _ (by omega) (by omega)
  exact ⟨6 - 0 + 1, key (6 - 0) 0 vo rfl (by decide)⟩
abbrev PSt : Type := Int32 → Int32 → Int32 → Int32 → (Nat → Int32) → (Nat → Int32) → (Nat → Int32) → (Nat → Int32) → (Nat → Int32) → (Nat → Int32) → (Nat → Int32) → (Nat → Int32) → (Nat → Int32) → (Nat → Int32) → (Nat → Int32) → (Nat → Int32) → (Nat → Int32) → Prop
theorem sp_X8_stepsOn {p j l u : Nat} {w isE isF : Int32} {ln be ta ac ls tw lf lt cd he we sr : Nat → Int32} {k1 k2 k3 k4 k5 k6 k7 k8 k9 vo : Nat → Int32} {Φ : PSt} (hp : p < 6) (hl : ln p = nI l) (hj : j < l) (h16 : l ≤ 16) (hu : u < 2 ^ 30) (hLN : LN p j ta ac ls lf lt cd)
    (hF : w = 0 → ∀ b1 b2 b3 b4 b5 b6 b7 b8 b9 b10 b11 b12 b13, Φ (nI j) isE 1 (nI u) b1 b2 b3 b4 b5 b6 b7 b8 b9 b10 b11 b12 b13)
    (hS : (w = 0 → we (nI j).toNatClampNeg < be (4 * nI p + ls (16 * nI p + nI j).toNatClampNeg).toNatClampNeg * tw (16 * nI p + nI j).toNatClampNeg) → ∀ x isE' u' b1 b2 b3 b4 b5 b6 b7 b8 b9 b10 b11 b12 b13, x ≤ l → (isE' = 0 ∨ isE' = 1) → (isE' = 0 → x < l) → (u' = u ∨ u' = u + 1) → Φ (nI x) isE' isF (nI u') b1 b2 b3 b4 b5 b6 b7 b8 b9 b10 b11 b12 b13) : wp_X8_stepsOn (nI p) w ln be ta ac ls tw lf lt cd (nI j) isE isF (nI u) k1 k2 k3 k4 k5 k6 k7 k8 k9 vo he we sr Φ := by
  have hq : (16 : Int32) * nI p + nI j = nI (16 * p + j) := by rw [show (16 : Int32) = nI 16 from rfl, pk_mul, nI_add]
  obtain ⟨⟨xs, xs4, hxs⟩, hi, hi6, hac, hW⟩ := hLN
  have hLN : LN p j ta ac ls lf lt cd := ⟨⟨xs, xs4, hxs⟩, hi, hi6, hac, hW⟩
  have ip : vp_in (nI p) 6 := pk_in p 6 hp
  have iq : vp_in (nI (16 * p + j)) 96 := pk_in (16 * p + j) 96 (by omega)
  have ecl : (nI (16 * p + j)).toNatClampNeg = 16 * p + j := nI_clamp (by omega)
  have l0 : 0 < l := by omega
  have ij : vp_in (nI j) 16 := pk_in j 16 (by omega)
  have f62 : (w = 0 → we (nI j).toNatClampNeg < be (4 * nI p + ls (16 * nI p + nI j).toNatClampNeg).toNatClampNeg * tw (16 * nI p + nI j).toNatClampNeg) → kf_X8_stepsOn_62 (nI p) w ln be ta ac ls tw lf lt cd Φ (nI j) isE isF (nI u) k1 k2 k3 k4 k5 k6 k7 k8 k9 vo he we sr (nI j) (nI (16 * p + j)) := by
    intro hcond
    have hS := hS hcond
    have f298 : ∀ (v : Int32) (x u' : Nat) k1 k2 k3 k4 k5 k6 k7 k8 k9 vo he we sr, x ≤ l → (u' = u ∨ u' = u + 1) → kf_X8_stepsOn_298 (nI p) w ln be ta ac ls tw lf lt cd Φ (nI x) isE isF (nI u') k1 k2 k3 k4 k5 k6 k7 k8 k9 vo he we sr v := by
      intro v x u' k1 k2 k3 k4 k5 k6 k7 k8 k9 vo he we sr hx hu'
      unfold kf_X8_stepsOn_298
      rw [nI_clamp (by omega), hl]
      refine ⟨fun _ => hS x 1 u' _ _ _ _ _ _ _ _ _ _ _ _ _ hx (Or.inr rfl) (fun z => absurd z (by decide)) hu', fun _ => ⟨ip, fun hne => hS x 0 u' _ _ _ _ _ _ _ _ _ _ _ _ _ hx (Or.inl rfl) (fun _ => Nat.lt_of_le_of_ne hx (fun e => hne (by rw [e]))) hu', fun _ => hS x 1 u' _ _ _ _ _ _ _ _ _ _ _ _ _ hx (Or.inr rfl) (fun z => absurd z (by decide)) hu'⟩⟩
    have f251 : ∀ (v l4 l5 : Int32) (x u' : Nat) k1 k2 k3 k4 k5 k6 k7 k8 k9 vo he we sr, x ≤ l → (u' = u ∨ u' = u + 1) → kf_X8_stepsOn_251 (nI p) w ln be ta ac ls tw lf lt cd Φ (nI x) isE isF (nI u') k1 k2 k3 k4 k5 k6 k7 k8 k9 vo he we sr v l4 l5 := by
      intro v l4 l5 x u' k1 k2 k3 k4 k5 k6 k7 k8 k9 vo he we sr hx hu'
      unfold kf_X8_stepsOn_251
      have hlt := lnOf_lt l4 l0
      have i16 : vp_in (nI (lnOf l4 l)) 16 := pk_in (lnOf l4 l) 16 (by omega)
      exact ⟨fun _ => f298 _ _ _ _ _ _ _ _ _ _ _ _ _ _ _ _ hx hu', fun _ => ⟨fun _ => f298 _ _ _ _ _ _ _ _ _ _ _ _ _ _ _ _ hx hu', fun _ => ⟨fun _ => f298 _ _ _ _ _ _ _ _ _ _ _ _ _ _ _ _ hx hu', fun _ => sp_X8_lineOf hp hl l0 h16 (sp_X8_lineOf hp hl l0 h16 ⟨i16, i16, f298 _ _ _ _ _ _ _ _ _ _ _ _ _ _ _ _ hx hu'⟩)⟩⟩⟩
    have f222 : ∀ (l4 l5 : Int32) (x u' : Nat) k1 k2 k3 k4 k5 k6 k7 k8 k9 vo he we sr, x ≤ l → (u' = u ∨ u' = u + 1) → kf_X8_stepsOn_222 (nI p) w ln be ta ac ls tw lf lt cd Φ (nI x) isE isF (nI u') k1 k2 k3 k4 k5 k6 k7 k8 k9 vo he we sr (nI j) (nI (16 * p + j)) (ta (16 * p + j)) l4 l5 := by
      intro l4 l5 x u' k1 k2 k3 k4 k5 k6 k7 k8 k9 vo he we sr hx hu'
      unfold kf_X8_stepsOn_222
      have hlt := lnOf_lt l4 l0
      refine ⟨fun _ => f251 _ _ _ _ _ _ _ _ _ _ _ _ _ _ _ _ _ _ hx hu', fun e4 => ⟨iq, ?_, sp_X8_lineOf hp hl l0 h16 (f251 _ _ _ _ _ _ _ _ _ _ _ _ _ _ _ _ _ _ (by omega) hu')⟩⟩
      obtain ⟨y, y6, ey⟩ := hac (Or.inr e4)
      rw [ecl, ey]; exact pk_in y 6 y6
    have f202 : ∀ (l4 l5 : Int32) (x u' : Nat) k1 k2 k3 k4 k5 k6 k7 k8 k9 vo he we sr, x ≤ l → (u' = u ∨ u' = u + 1) → kf_X8_stepsOn_202 (nI p) w ln be ta ac ls tw lf lt cd Φ (nI x) isE isF (nI u') k1 k2 k3 k4 k5 k6 k7 k8 k9 vo he we sr (nI j) (nI (16 * p + j)) (ta (16 * p + j)) l4 l5 := by
      intro l4 l5 x u' k1 k2 k3 k4 k5 k6 k7 k8 k9 vo he we sr hx hu'
      unfold kf_X8_stepsOn_202
      have hlt := lnOf_lt l5 l0
      exact ⟨fun _ => f222 _ _ _ _ _ _ _ _ _ _ _ _ _ _ _ _ _ hx hu', fun _ => ⟨fun _ => f222 _ _ _ _ _ _ _ _ _ _ _ _ _ _ _ _ _ hx hu', fun _ => sp_X8_lineOf hp hl l0 h16 (f222 _ _ _ _ _ _ _ _ _ _ _ _ _ _ _ _ _ (by omega) hu')⟩⟩
    have f187 : ∀ (l4 l5 : Int32) (x u' : Nat) k1 k2 k3 k4 k5 k6 k7 k8 k9 vo he we sr, x ≤ l → (u' = u ∨ u' = u + 1) → kf_X8_stepsOn_187 (nI p) w ln be ta ac ls tw lf lt cd Φ (nI x) isE isF (nI u') k1 k2 k3 k4 k5 k6 k7 k8 k9 vo he we sr (nI j) (nI (16 * p + j)) (ta (16 * p + j)) l4 l5 := by
      intro l4 l5 x u' k1 k2 k3 k4 k5 k6 k7 k8 k9 vo he we sr hx hu'
      unfold kf_X8_stepsOn_187
      have hlt := lnOf_lt l4 l0
      exact ⟨fun _ => f202 _ _ _ _ _ _ _ _ _ _ _ _ _ _ _ _ _ hx hu', fun _ => sp_X8_lineOf hp hl l0 h16 (f202 _ _ _ _ _ _ _ _ _ _ _ _ _ _ _ _ _ (by omega) hu')⟩
    have f151 : ∀ (l4 l5 : Int32) (x : Nat) k1 k2 k3 k4 k5 k6 k7 k8 k9 vo he we sr, x ≤ l → kf_X8_stepsOn_151 (nI p) w ln be ta ac ls tw lf lt cd Φ (nI x) isE isF (nI u) k1 k2 k3 k4 k5 k6 k7 k8 k9 vo he we sr (nI j) (nI (16 * p + j)) (ta (16 * p + j)) l4 l5 := by
      intro l4 l5 x k1 k2 k3 k4 k5 k6 k7 k8 k9 vo he we sr hx
      unfold kf_X8_stepsOn_151
      rw [nI_1]
      refine ⟨fun _ => f187 _ _ _ _ _ _ _ _ _ _ _ _ _ _ _ _ _ hx (Or.inl rfl), fun _ => ⟨fun _ => f187 _ _ _ _ _ _ _ _ _ _ _ _ _ _ _ _ _ hx (Or.inr rfl), fun h1 => ⟨?_, f187 _ _ _ _ _ _ _ _ _ _ _ _ _ _ _ _ _ hx (Or.inr rfl)⟩⟩⟩
      exact pk_in u 1001 (Nat.lt_of_not_le (fun z => h1 (nI_le (a := 1001) z (by omega))))
    have f125 : ∀ (l4 l5 nx : Int32) k1 k2 k3 k4 k5 k6 k7 k8 k9 vo he we sr, kf_X8_stepsOn_125 (nI p) w ln be ta ac ls tw lf lt cd Φ nx isE isF (nI u) k1 k2 k3 k4 k5 k6 k7 k8 k9 vo he we sr (nI j) (nI (16 * p + j)) (ta (16 * p + j)) l4 l5 := by
      intro l4 l5 nx k1 k2 k3 k4 k5 k6 k7 k8 k9 vo he we sr
      unfold kf_X8_stepsOn_125
      rw [nI_1]
      refine ⟨fun _ => f151 _ _ _ _ _ _ _ _ _ _ _ _ _ _ _ _ (by omega), fun e0 => ⟨iq, ?_, f151 _ _ _ _ _ _ _ _ _ _ _ _ _ _ _ _ (by omega)⟩⟩
      obtain ⟨y, y6, ey⟩ := hac (Or.inl e0)
      rw [ecl, ey]; exact pk_in y 6 y6
    have f103 : ∀ (s0 nx : Int32) k1 k2 k3 k4 k5 k6 k7 k8 k9 vo he we sr, kf_X8_stepsOn_103 (nI p) w ln be ta ac ls tw lf lt cd Φ nx isE isF (nI u) k1 k2 k3 k4 k5 k6 k7 k8 k9 vo he we sr (nI j) (nI (16 * p + j)) (ta (16 * p + j)) s0 := by
      intro s0 nx k1 k2 k3 k4 k5 k6 k7 k8 k9 vo he we sr
      unfold kf_X8_stepsOn_103
      exact ⟨fun _ => sp_X8_works (v := 1) hp hl hj h16 (by decide) hLN (fun _ _ _ _ _ _ _ _ _ _ _ => f125 _ _ _ _ _ _ _ _ _ _ _ _ _ _ _ _), fun _ => ⟨fun _ => f125 _ _ _ _ _ _ _ _ _ _ _ _ _ _ _ _, fun _ => sp_X8_works (v := 1) hp hl hj h16 (by decide) hLN (fun _ _ _ _ _ _ _ _ _ _ _ => f125 _ _ _ _ _ _ _ _ _ _ _ _ _ _ _ _)⟩⟩
    have f80 : ∀ (nx : Int32) k1 k2 k3 k4 k5 k6 k7 k8 k9 vo he we sr, kf_X8_stepsOn_80 (nI p) w ln be ta ac ls tw lf lt cd Φ nx isE isF (nI u) k1 k2 k3 k4 k5 k6 k7 k8 k9 vo he we sr (nI j) (nI (16 * p + j)) := by
      intro nx k1 k2 k3 k4 k5 k6 k7 k8 k9 vo he we sr
      unfold kf_X8_stepsOn_80
      rw [ecl]
      exact ⟨iq, fun _ => sp_X8_works (v := 0) hp hl hj h16 (by decide) hLN (fun _ _ _ _ _ _ _ _ _ _ _ => f103 _ _ _ _ _ _ _ _ _ _ _ _ _ _ _), fun _ => f103 _ _ _ _ _ _ _ _ _ _ _ _ _ _ _⟩
    unfold kf_X8_stepsOn_62
    exact ⟨fun _ => f80 _ _ _ _ _ _ _ _ _ _ _ _ _ _, fun _ => ⟨ij, ij, f80 _ _ _ _ _ _ _ _ _ _ _ _ _ _⟩⟩
  unfold wp_X8_stepsOn
  have i4 : vp_in ((4 : Int32) * nI p + ls (nI (16 * p + j)).toNatClampNeg) 24 := by
    rw [ecl, hxs, show (4 : Int32) = nI 4 from rfl, pk_mul, nI_add]
    exact pk_in (4 * p + xs) 24 (by omega)
  rw [hq] at f62 ⊢
  exact ⟨fun n0 => f62 (fun e => absurd e n0), fun e0 => ⟨ij, iq, i4, iq, fun hlt => f62 (fun _ => hlt), fun _ => hF e0 _ _ _ _ _ _ _ _ _ _ _ _ _⟩⟩
