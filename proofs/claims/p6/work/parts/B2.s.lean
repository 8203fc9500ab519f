/-- the tokens laid down so far -/
def TK (c : Nat) (tk : Nat → Nat) : Prop := c ≤ 1001 ∧ ∀ j, j < c → tk j < 31
abbrev PTk : Type := Int32 → (Nat → Nat) → (Nat → Int32) → (Nat → Int64) → Prop
def TH (c : Nat) (Φ : PTk) : Prop := ∀ (c' : Nat) tk' pl' vl', TK c' tk' → c ≤ c' → c' ≤ c + 1 → Φ (nI c') tk' pl' vl'
theorem sp_X5_isBlank {x : Int32} {Φ : Int32 → Prop} (h1 : Φ 1) (h0 : ¬ x = 10 → ¬ x = 32 → Φ 0) : wp_X5_isBlank x Φ := ⟨fun _ => h1, fun a => ⟨fun b => h0 a b, fun _ => h1⟩⟩
theorem sp_X5_kindOf {x : Int32} {Φ : Int32 → Prop} (h0 : Φ 0) (h1 : Φ 48) (h2 : Φ 97) : wp_X5_kindOf x Φ := by
  unfold wp_X5_kindOf kf_X5_kindOf_15
  have k : (x < 48 → Φ 0) ∧ (¬ x < 48 → (57 < x → Φ 0) ∧ (¬ 57 < x → Φ 48)) := ⟨fun _ => h0, fun _ => ⟨fun _ => h0, fun _ => h1⟩⟩
  exact ⟨fun _ => k, fun _ => ⟨fun _ => k, fun _ => h2⟩⟩
theorem sp_X5_add {t c : Nat} {p : Int32} {v : Int64} {tk : Nat → Nat} {pl : Nat → Int32} {vl : Nat → Int64} {Φ : PTk} (ht : t < 31) (h : TK c tk) (hΦ : TH c Φ) : wp_X5_add t p v (nI c) tk pl vl Φ := by
  unfold wp_X5_add
  have h1 := h.1
  refine ⟨fun _ => hΦ c _ _ _ h (Nat.le_refl _) (by omega), fun z => ?_⟩
  have hlt : c < 1001 := Nat.lt_of_not_le (fun y => z (nI_le (a := 1001) y (by omega)))
  have ic : vp_in (nI c) 1001 := pk_in c 1001 hlt
  rw [nI_1, nI_clamp (n := c) (by omega)]
  refine ⟨ic, ht, ic, ic, hΦ (c + 1) _ _ _ ⟨by omega, fun j hj => ?_⟩ (by omega) (by omega)⟩
  by_cases e : j = c
  · subst e; simp [updN, ht]
  · simp [updN, e]; exact h.2 j (by omega)
theorem sp_X5_spelled {v : Int64} {t : Nat} {Φ : Nat → Prop} (ht : t < 31) (hΦ : ∀ r, r < 31 → Φ r) : wp_X5_spelled v t Φ := by
  have key : ∀ m k : Nat, m = 31 - k → k ≤ 31 → lf_X5_spelled_11 v t Φ (m + 1) 31 (nI k) := by
    intro m
    induction m with
    | zero =>
      intro k hm hk
      have e : k = 31 := by omega
      subst e
      exact ⟨fun _ => hΦ t ht, fun z => absurd (by decide) z⟩
    | succ m ih =>
      intro k hm hk
      show lb_X5_spelled_11 _ _ _ _ _ _
      unfold lb_X5_spelled_11
      rw [nI_1, nI_clamp (n := k) (by omega)]
      exact ⟨fun z => absurd z (nI_ge (b := 31) (by omega) (by decide)), fun _ => ⟨pk_in k 31 (by omega), by omega, fun _ => ih (k + 1) (by omega) (by omega), fun _ => hΦ k (by omega)⟩⟩
  exact ⟨31 - 0 + 1, key (31 - 0) 0 rfl (by decide)⟩
