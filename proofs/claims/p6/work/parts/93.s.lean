/-- how many numbers an input has -/
theorem sp_X8_manyOf {p i k : Nat} {ip le mo : Nat → Int32} {Φ : Int32 → Prop} (hp : p < 6) (hi : ip p = nI i) (hi2 : i ≤ 2) (hk : k < 2) (hx : ∀ j, j < i → ∃ a m : Nat, le (2 * p + j) = nI a ∧ mo (2 * p + j) = nI m ∧ a ≤ m ∧ m ≤ 9999) (h : ∀ m : Nat, 0 < m → m ≤ 10000 → Φ (nI m)) : wp_X8_manyOf ip le mo (nI p) (nI k) Φ := by
  unfold wp_X8_manyOf
  have e2 : (2 : Int32) * nI p + nI k = nI (2 * p + k) := by rw [show (2 : Int32) = nI 2 from rfl, pk_mul, nI_add]
  rw [e2, nI_clamp (n := p) (by omega), hi]
  have hin : vp_in (nI (2 * p + k)) 12 := pk_in (2 * p + k) 12 (by omega)
  refine ⟨pk_in p 6 hp, fun _ => h 1 (by decide) (by decide), fun hlt => ⟨hin, hin, ?_⟩⟩
  have hki : k < i := Nat.lt_of_not_le (fun z => hlt (nI_le z (by omega)))
  obtain ⟨a, m, e1, e3, e4, e5⟩ := hx k hki
  rw [nI_clamp (by omega), e1, e3, pk_sub e4, nI_1]
  exact h (m - a + 1) (by omega) (by omega)
theorem sp_X8_inputsOf {p i : Nat} {ip le mo : Nat → Int32} {Φ : Int32 → Prop} (hp : p < 6) (hi : ip p = nI i) (hi2 : i ≤ 2) (hx : ∀ j, j < i → ∃ a m : Nat, le (2 * p + j) = nI a ∧ mo (2 * p + j) = nI m ∧ a ≤ m ∧ m ≤ 9999) (h : ∀ m : Nat, 0 < m → m ≤ 100000000 → Φ (nI m)) : wp_X8_inputsOf ip le mo (nI p) Φ := by
  unfold wp_X8_inputsOf
  refine sp_X8_manyOf (k := 0) hp hi hi2 (by decide) hx (fun a a0 a1 => sp_X8_manyOf (k := 1) hp hi hi2 (by decide) hx (fun b b0 b1 => ?_))
  rw [pk_mul]
  exact h (a * b) (Nat.mul_pos a0 b0) (Nat.le_trans (Nat.mul_le_mul a1 b1) (by decide))
theorem sp_X8_beginsWith {p i y : Nat} {ip ca ic le mo : Nat → Int32} {v : Int32} {Φ : Int32 → Prop} (hp : p < 6) (hi : ip p = nI i) (hi2 : i ≤ 2) (hy : y < 6) (hx : ∀ j, j < i → ∃ a m : Nat, le (2 * p + j) = nI a ∧ mo (2 * p + j) = nI m ∧ a ≤ m ∧ m ≤ 9999) (h : ∀ r, Φ r) : wp_X8_beginsWith ip ca ic le mo (nI p) v (nI y) Φ := by
  have e6 : (6 : Int32) * nI p + nI y = nI (6 * p + y) := by rw [show (6 : Int32) = nI 6 from rfl, pk_mul, nI_add]
  have key : ∀ m k, m = i - k → k ≤ i → lf_X8_beginsWith_3 ip ca ic le mo (nI p) v (nI y) Φ (m + 1) (nI k) := by
    intro m
    induction m with
    | zero =>
      intro k hm hk
      show lb_X8_beginsWith_3 _ _ _ _ _ _ _ _ _ _ _
      unfold lb_X8_beginsWith_3
      rw [nI_clamp (n := p) (by omega), hi, e6]
      exact ⟨pk_in p 6 hp, fun _ => ⟨pk_in (6 * p + y) 36 (by omega), h _⟩, fun z => absurd (nI_le (by omega) (by omega)) z⟩
    | succ m ih =>
      intro k hm hk
      show lb_X8_beginsWith_3 _ _ _ _ _ _ _ _ _ _ _
      unfold lb_X8_beginsWith_3
      have e2 : (2 : Int32) * nI p + nI k = nI (2 * p + k) := by rw [show (2 : Int32) = nI 2 from rfl, pk_mul, nI_add]
      rw [nI_clamp (n := p) (by omega), hi, e6, e2, nI_1]
      have hin : vp_in (nI (2 * p + k)) 12 := pk_in (2 * p + k) 12 (by omega)
      exact ⟨pk_in p 6 hp, fun z => absurd z (nI_ge (by omega) (by omega)), fun _ => ⟨hin, fun _ => ih (k + 1) (by omega) (by omega), fun _ => ⟨hin, pk_in p 6 hp, fun _ => sp_X8_manyOf (k := 1) hp hi hi2 (by decide) hx (fun m m0 m1 => ⟨nI_ne0 m0 (by omega), h _⟩), fun _ => sp_X8_manyOf hp hi hi2 (by omega) hx (fun m m0 m1 => ⟨nI_ne0 m0 (by omega), h _⟩)⟩⟩⟩
  exact ⟨i - 0 + 1, key (i - 0) 0 rfl (Nat.zero_le _)⟩
theorem sp_X8_begins {p i : Nat} {ce ip ca ic le mo he : Nat → Int32} {v w f1 f2 f3 f4 f5 f6 : Int32} {Φ : Int32 → Int32 → Int32 → Int32 → Int32 → Int32 → (Nat → Int32) → Prop} (hp : p < 6) (hi : ip p = nI i) (hi2 : i ≤ 2) (hx : ∀ j, j < i → ∃ a m : Nat, le (2 * p + j) = nI a ∧ mo (2 * p + j) = nI m ∧ a ≤ m ∧ m ≤ 9999) (h : ∀ he', Φ (nI p) w 0 0 0 0 he') : wp_X8_begins ce ip ca ic le mo (nI p) v w f1 f2 f3 f4 f5 f6 he Φ := by
  have key : ∀ m k (he : Nat → Int32), m = 6 - k → k ≤ 6 → lf_X8_begins_33 ce ip ca ic le mo (nI p) v w Φ (m + 1) (nI p) w 0 0 0 0 he (nI k) := by
    intro m
    induction m with
    | zero =>
      intro k he hm hk
      have e : k = 6 := by omega
      subst e
      exact ⟨fun _ => h _, fun z => absurd (by decide) z⟩
    | succ m ih =>
      intro k he hm hk
      show lb_X8_begins_33 _ _ _ _ _ _ _ _ _ _ _ _ _ _ _ _ _ _ _
      unfold lb_X8_begins_33
      rw [nI_1]
      have ik : vp_in (nI k) 6 := pk_in k 6 (by omega)
      exact ⟨fun z => absurd z (nI_ge (b := 6) (by omega) (by decide)), fun _ => ⟨pk_in p 6 hp, fun _ => ⟨ik, ih (k + 1) _ (by omega) (by omega)⟩, fun _ => sp_X8_beginsWith hp hi hi2 (by omega) hx (fun r => ⟨ik, ih (k + 1) _ (by omega) (by omega)⟩)⟩⟩
  exact ⟨6 - 0 + 1, key (6 - 0) 0 he rfl (by decide)⟩
theorem sp_X8_freshens {we : Nat → Int32} {Φ : (Nat → Int32) → Prop} (h : ∀ we', Φ we') : wp_X8_freshens we Φ := by
  have key : ∀ m k (we : Nat → Int32), m = 16 - k → k ≤ 16 → lf_X8_freshens_2 Φ (m + 1) we (nI k) := by
    intro m
    induction m with
    | zero =>
      intro k we hm hk
      have e : k = 16 := by omega
      subst e
      exact ⟨fun _ => h _, fun z => absurd (by decide) z⟩
    | succ m ih =>
      intro k we hm hk
      show lb_X8_freshens_2 _ _ _ _
      unfold lb_X8_freshens_2
      rw [nI_1]
      exact ⟨fun z => absurd z (nI_ge (b := 16) (by omega) (by decide)), fun _ => ⟨pk_in k 16 (by omega), ih (k + 1) _ (by omega) (by omega)⟩⟩
  exact ⟨16 - 0 + 1, key (16 - 0) 0 we rfl (by decide)⟩
