theorem in_of {x : Int32} {a n : Nat} {y : Int32} (hy : y = nI a) (h0 : ¬ x < 0) (h1 : ¬ y ≤ x) (ha : a ≤ n) (hn : n < 2 ^ 31) : vp_in x n := by
  obtain ⟨j, hj, rfl⟩ := nI_of h0
  rw [hy] at h1
  exact vp_in_nI (Nat.lt_of_lt_of_le (Nat.lt_of_not_le (fun z => h1 (nI_le z hj))) ha) hn
theorem sp_X8_isLine {ln : Nat → Int32} {x : Int32} {Φ : Int32 → Prop} (h1 : ¬ x < 0 → ¬ ln 0 ≤ x → Φ 1) (h0 : Φ 0) : wp_X8_isLine ln x Φ := ⟨fun _ => h0, fun a => ⟨fun _ => h0, fun b => h1 a b⟩⟩
theorem sp_X8_isStuff {ln : Nat → Int32} {x : Int32} {Φ : Int32 → Prop} (h1 : ¬ x < 0 → ¬ ln 0 ≤ x → Φ 1) (h0 : Φ 0) : wp_X8_isStuff ln x Φ := ⟨fun _ => h0, fun a => ⟨fun _ => h0, fun b => h1 a b⟩⟩
theorem sp_X8_isCell {ln : Nat → Int32} {x : Int32} {Φ : Int32 → Prop} (h1 : ¬ x < 0 → ¬ ln 0 ≤ x → Φ 1) (h0 : Φ 0) : wp_X8_isCell ln x Φ := ⟨fun _ => h0, fun a => ⟨fun _ => h0, fun b => h1 a b⟩⟩
section PUB
variable {st ce ip ln be co ca ic le mo ta ac ls tw lf lt cd wo hc : Nat → Int32}
theorem sp_X8_stuff {x y F : Int32} {Φ : Int32 → Int32 → Prop} (h : GM st ce ip ln le mo ta ac ls lf lt cd) (hΦ : ∀ r, Φ r 0) : wp_X8_stuff st be co x y F Φ := by
  obtain ⟨⟨s, s4, hs⟩, -⟩ := h 0 (by decide) (by decide)
  unfold wp_X8_stuff
  refine sp_X8_isStuff (fun a b => ⟨fun _ => hΦ _, fun _ => ?_⟩) ⟨fun _ => hΦ _, fun z => absurd rfl z⟩
  have i : vp_in x 24 := in_of hs a b (by omega) (by decide)
  exact sp_X8_within (fun _ _ => ⟨fun _ => ⟨fun _ => ⟨i, hΦ _⟩, fun _ => ⟨i, hΦ _⟩⟩, fun _ => hΦ _⟩) (fun _ => ⟨fun z => absurd rfl z, fun _ => hΦ _⟩)
theorem sp_X8_bearsOf {x : Int32} {Φ : Int32 → Prop} (h : GM st ce ip ln le mo ta ac ls lf lt cd) (h0 : ¬ x < 0) (h1 : ¬ ln 0 ≤ x) (hΦ : ∀ r, Φ r) : wp_X8_bearsOf be ls tw x Φ := by
  obtain ⟨-, -, -, ⟨l, l16, hl, hL⟩⟩ := h 0 (by decide) (by decide)
  obtain ⟨j, hj, rfl⟩ := nI_of h0
  have hjl : j < l := Nat.lt_of_not_le (fun z => h1 (by rw [hl]; exact nI_le z hj))
  obtain ⟨⟨y, y4, ey⟩, -⟩ := hL j hjl
  rw [show 16 * 0 + j = j by omega] at ey
  unfold wp_X8_bearsOf
  rw [nI_clamp (by omega), ey]
  have i : vp_in (nI j) 96 := pk_in j 96 (by omega)
  exact ⟨i, pk_in y 24 (by omega), i, hΦ _⟩
theorem sp_X8_line {x y F : Int32} {Φ : Int32 → Int32 → Prop} (h : GM st ce ip ln le mo ta ac ls lf lt cd) (hΦ : ∀ r, Φ r 0) : wp_X8_line ln be ta ls tw wo x y F Φ := by
  obtain ⟨-, -, -, ⟨l, l16, hl, hL⟩⟩ := h 0 (by decide) (by decide)
  unfold wp_X8_line
  refine sp_X8_isLine (fun a b => ⟨fun _ => hΦ _, fun _ => ?_⟩) ⟨fun _ => hΦ _, fun z => absurd rfl z⟩
  have i : vp_in x 96 := in_of hl a b (by omega) (by decide)
  have i6 : vp_in x 16 := in_of hl a b (by omega) (by decide)
  exact sp_X8_within (fun _ _ => ⟨fun _ => ⟨fun _ => ⟨fun _ => ⟨fun _ => ⟨fun _ => ⟨i6, hΦ _⟩, fun _ => sp_X8_bearsOf h a b (fun r => hΦ r)⟩, fun _ => ⟨i, hΦ _⟩⟩, fun _ => ⟨i, hΦ _⟩⟩, fun _ => ⟨i, hΦ _⟩⟩, fun _ => hΦ _⟩) (fun _ => ⟨fun z => absurd rfl z, fun _ => hΦ _⟩)
theorem GM.lay {x y : Nat} (h : GM st ce ip ln le mo ta ac ls lf lt cd) (hx : x < 16) (hy : y < 4) : GM st ce ip ln le mo ta ac (upd ls x (nI y)) lf lt cd := by
  intro p hp hp1
  obtain ⟨a, b, c, ⟨l, l16, hl, hL⟩⟩ := h p hp hp1
  refine ⟨a, b, c, l, l16, hl, fun j hj => ?_⟩
  obtain ⟨⟨z, z4, ez⟩, w⟩ := hL j hj
  refine ⟨?_, w⟩
  by_cases e : 16 * p + j = x
  · exact ⟨y, hy, by rw [e]; exact pk_us⟩
  · exact ⟨z, z4, by rw [pk_un e]; exact ez⟩
theorem sp_X8_lay {x y z F : Int32} {Φ : Int32 → Int32 → (Nat → Int32) → (Nat → Int32) → (Nat → Int32) → Prop} (h : GM st ce ip ln le mo ta ac ls lf lt cd) (hΦ : ∀ r ls' tw' wo', (r = 0 ∨ r = 1) → GM st ce ip ln le mo ta ac ls' lf lt cd → Φ r 0 ls' tw' wo') : wp_X8_lay st ln x y z F ls tw wo Φ := by
  obtain ⟨⟨s, s4, hs⟩, -, -, ⟨l, l16, hl, hL⟩⟩ := h 0 (by decide) (by decide)
  unfold wp_X8_lay
  have f := hΦ 0 ls tw wo (Or.inl rfl) h
  refine sp_X8_isLine (fun a b => ⟨fun _ => f, fun _ => ?_⟩) ⟨fun _ => f, fun z => absurd rfl z⟩
  refine sp_X8_isStuff (fun a2 b2 => ⟨fun _ => f, fun _ => ?_⟩) ⟨fun _ => f, fun z => absurd rfl z⟩
  have i : vp_in x 96 := in_of hl a b (by omega) (by decide)
  have i6 : vp_in x 16 := in_of hl a b (by omega) (by decide)
  refine sp_X8_within (fun _ _ => ⟨fun _ => ⟨i, i, i6, hΦ 1 _ _ _ (Or.inr rfl) ?_⟩, fun _ => f⟩) (fun _ => ⟨fun z => absurd rfl z, fun _ => f⟩)
  obtain ⟨j, hj, rfl⟩ := nI_of a
  obtain ⟨k, hk, rfl⟩ := nI_of a2
  rw [nI_clamp hj]
  exact h.lay (Nat.lt_of_lt_of_le (Nat.lt_of_not_le (fun z => b (by rw [hl]; exact nI_le z hj))) l16) (Nat.lt_of_lt_of_le (Nat.lt_of_not_le (fun z => b2 (by rw [hs]; exact nI_le z hk))) s4)
theorem sp_X8_cost {F : Int32} {Φ : Int32 → Int32 → Prop} (h : GM st ce ip ln le mo ta ac ls lf lt cd) (hΦ : ∀ r, Φ r 0) : wp_X8_cost ln co ls tw F Φ := by
  obtain ⟨-, -, -, ⟨l, l16, hl, hL⟩⟩ := h 0 (by decide) (by decide)
  have key : ∀ m k (v : Int32), m = l - k → k ≤ l → lf_X8_cost_9 ln co ls tw Φ (m + 1) 0 v (nI k) := by
    intro m
    induction m with
    | zero =>
      intro k v hm hk
      show lb_X8_cost_9 _ _ _ _ _ _ _ _ _
      unfold lb_X8_cost_9
      rw [hl]
      exact ⟨fun _ => hΦ _, fun z => absurd (nI_le (by omega) (by omega)) z⟩
    | succ m ih =>
      intro k v hm hk
      show lb_X8_cost_9 _ _ _ _ _ _ _ _ _
      unfold lb_X8_cost_9
      obtain ⟨⟨y, y4, ey⟩, -⟩ := hL k (by omega)
      rw [show 16 * 0 + k = k by omega] at ey
      rw [hl, nI_clamp (n := k) (by omega), ey, nI_1]
      have i : vp_in (nI k) 96 := pk_in k 96 (by omega)
      exact ⟨fun z => absurd z (nI_ge (by omega) (by omega)), fun _ => ⟨i, pk_in y 24 (by omega), i, ih (k + 1) _ (by omega) (by omega)⟩⟩
  exact ⟨l - 0 + 1, key (l - 0) 0 0 rfl (Nat.zero_le _)⟩
theorem sp_X8_inputs {F : Int32} {Φ : Int32 → Int32 → Prop} (h : GM st ce ip ln le mo ta ac ls lf lt cd) (hΦ : ∀ r, Φ r 0) : wp_X8_inputs ip le mo F Φ := by
  obtain ⟨-, -, ⟨i, i2, hi, hx⟩, -⟩ := h 0 (by decide) (by decide)
  exact sp_X8_inputsOf (p := 0) (by decide) hi i2 hx (fun m _ _ => hΦ _)
theorem sp_X8_input {x y F : Int32} {Φ : Int32 → Int32 → Prop} (h : GM st ce ip ln le mo ta ac ls lf lt cd) (hΦ : ∀ r, Φ r 0) : wp_X8_input ce ip ca ic le mo x y F Φ := by
  obtain ⟨-, ⟨k, k6, hk⟩, ⟨i, i2, hi, hx⟩, -⟩ := h 0 (by decide) (by decide)
  unfold wp_X8_input
  refine ⟨fun _ => hΦ _, fun _ => sp_X8_inputsOf (p := 0) (by decide) hi i2 hx (fun m _ _ => ⟨fun _ => hΦ _, fun _ => sp_X8_isCell (fun a b => ⟨fun _ => hΦ _, fun _ => ?_⟩) ⟨fun _ => hΦ _, fun z => absurd rfl z⟩⟩)⟩
  obtain ⟨j, hj, rfl⟩ := nI_of a
  exact sp_X8_beginsWith (p := 0) (by decide) hi i2 (Nat.lt_of_lt_of_le (Nat.lt_of_not_le (fun z => b (by rw [hk]; exact nI_le z hj))) k6) hx (fun r => hΦ r)
theorem sp_X8_begin {x F sta hn hs hw : Int32} {Φ : Int32 → Int32 → Int32 → Int32 → Int32 → Int32 → (Nat → Int32) → Prop} (h : GM st ce ip ln le mo ta ac ls lf lt cd) (h0 : Φ 0 0 sta hn hs hw hc) (h1 : ∀ hc', ¬ ln 0 = 0 → Φ 1 0 1 0 0 0 hc') : wp_X8_begin ce ip ln ca ic le mo x F sta hn hs hw hc Φ := by
  obtain ⟨-, ⟨k, k6, hk⟩, ⟨i, i2, hi, hx⟩, -⟩ := h 0 (by decide) (by decide)
  unfold wp_X8_begin
  refine ⟨fun _ => h0, fun hl0 => ⟨fun _ => h0, fun _ => sp_X8_inputsOf (p := 0) (by decide) hi i2 hx (fun m _ _ => ⟨fun _ => ?_, fun _ => h0⟩)⟩⟩
  have key : ∀ m k (hc : Nat → Int32), m = 6 - k → k ≤ 6 → lf_X8_begin_51 ce ip ln ca ic le mo x Φ (m + 1) 0 1 0 0 0 hc (nI k) := by
    intro m
    induction m with
    | zero =>
      intro k hc hm hk
      have e : k = 6 := by omega
      subst e
      exact ⟨fun _ => h1 _ hl0, fun z => absurd (by decide) z⟩
    | succ m ih =>
      intro k hc hm hk
      show lb_X8_begin_51 _ _ _ _ _ _ _ _ _ _ _ _ _ _ _ _ _
      unfold lb_X8_begin_51
      rw [nI_1]
      have ik : vp_in (nI k) 6 := pk_in k 6 (by omega)
      exact ⟨fun z => absurd z (nI_ge (b := 6) (by omega) (by decide)), fun _ => ⟨fun _ => ⟨ik, ih (k + 1) _ (by omega) (by omega)⟩, fun _ => sp_X8_beginsWith (p := 0) (by decide) hi i2 (by omega) hx (fun r => ⟨ik, ih (k + 1) _ (by omega) (by omega)⟩)⟩⟩
  exact ⟨6 - 0 + 1, key (6 - 0) 0 hc rfl (by decide)⟩
end PUB
