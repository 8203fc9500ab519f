section SP
variable {sg : Nat → Int32} {a e c l : Nat} {tk : Nat → Nat} {pl : Nat → Int32} {vl : Nat → Int64}
theorem sp_X5_addE {t : Nat} {p : Int32} {v : Int64} {Φ : PTk} (ht : t < 31) (hc : c < 1001) (hΦ : ∀ pl' vl', Φ (nI (c + 1)) (updN tk c t) pl' vl') : wp_X5_add t p v (nI c) tk pl vl Φ := by
  unfold wp_X5_add
  have ic : vp_in (nI c) 1001 := pk_in c 1001 hc
  rw [nI_1, nI_clamp (n := c) (by omega)]
  exact ⟨fun z => absurd z (nI_ge (b := 1001) hc (by decide)), fun _ => ⟨ic, ht, ic, ic, hΦ _ _⟩⟩
theorem sp_X5_splitOne {Φ : Int32 → PTk} (hl : l ≤ 1000) (ha : a < l) (h : TK c tk) (hΦ : ∀ e, a < e → e ≤ l → TH c (Φ (nI e))) : wp_X5_splitOne (nI l) sg (nI a) (nI c) tk pl vl Φ := by
  unfold wp_X5_splitOne
  have out : ∀ (k : Int32) (e : Nat), a < e → e ≤ l → kf_X5_splitOne_53 (nI l) sg (nI a) Φ (nI c) tk pl vl k (nI e) := by
    intro k e h1 h2
    unfold kf_X5_splitOne_53
    exact ⟨fun _ => ⟨fun _ => ⟨pk_in a 1000 (by omega), sp_X5_spelled (by decide) (fun r hr => sp_X5_add hr h (hΦ e h1 h2))⟩, fun _ => sp_X5_addNumber (by omega) (by omega) h (hΦ e h1 h2)⟩, fun _ => sp_X5_addWord (by omega) (by omega) h (hΦ e h1 h2)⟩
  have key : ∀ (k : Int32) (m e : Nat), m = l - e → a < e → e ≤ l → lf_X5_splitOne_17 (nI l) sg (nI a) Φ (m + 1) (nI c) tk pl vl k (nI e) (nI e) := by
    intro k m
    induction m with
    | zero =>
      intro e hm h1 h2
      show lb_X5_splitOne_17 _ _ _ _ _ _ _ _ _ _ _ _
      unfold lb_X5_splitOne_17
      exact ⟨fun _ => out k e h1 h2, fun z => absurd (nI_le (by omega) (by omega)) z⟩
    | succ m ih =>
      intro e hm h1 h2
      show lb_X5_splitOne_17 _ _ _ _ _ _ _ _ _ _ _ _
      unfold lb_X5_splitOne_17
      have k2 : ∀ r : Int32, (¬ r = k → kf_X5_splitOne_53 (nI l) sg (nI a) Φ (nI c) tk pl vl k (nI e)) ∧ (r = k → lf_X5_splitOne_17 (nI l) sg (nI a) Φ (m + 1) (nI c) tk pl vl k (nI e + 1) (nI e + 1)) := fun r => ⟨fun _ => out k e h1 h2, fun _ => by rw [nI_1]; exact ih (e + 1) (by omega) (by omega) (by omega)⟩
      exact ⟨fun _ => out k e h1 h2, fun _ => ⟨fun _ => out k e h1 h2, fun _ => ⟨pk_in e 1000 (by omega), sp_X5_kindOf (k2 _) (k2 _) (k2 _)⟩⟩⟩
  have fin : ∀ k : Int32, ∃ n_, lf_X5_splitOne_17 (nI l) sg (nI a) Φ n_ (nI c) tk pl vl k (nI a + 1) (nI a + 1) := by
    intro k
    rw [nI_1]
    exact ⟨l - (a + 1) + 1, key k (l - (a + 1)) (a + 1) rfl (by omega) (by omega)⟩
  exact ⟨pk_in a 1000 (by omega), sp_X5_kindOf (fin _) (fin _) (fin _)⟩
/-- all tokens that a tape has: the last is the end -/
def TT (c : Nat) (tk : Nat → Nat) : Prop := 1 ≤ c ∧ c ≤ 1001 ∧ (∀ j, j < c → tk j < 31) ∧ tk (c - 1) = 0
theorem sp_X5_split {C : Int32} {Φ : PTk} (hl : l ≤ 1000) (hΦ : ∀ c' tk' pl' vl', TT c' tk' → Φ (nI c') tk' pl' vl') : wp_X5_split (nI l) sg C tk pl vl Φ := by
  have out : ∀ (i c : Nat) (tk : Nat → Nat) (pl : Nat → Int32) (vl : Nat → Int64), i ≤ 1000 → c ≤ i → TK c tk → wp_X5_add 0 (nI l) 0 (nI c) tk pl vl Φ := by
    intro i c tk pl vl hi hc h
    refine sp_X5_addE (by decide) (by omega) (fun pl' vl' => hΦ (c + 1) _ _ _ ⟨by omega, by omega, fun j hj => ?_, ?_⟩)
    · by_cases e : j = c
      · subst e; simp [updN]
      · simp [updN, e]; exact h.2 j (by omega)
    · simp [updN]
  have key : ∀ (m i a c : Nat) (tk : Nat → Nat) (pl : Nat → Int32) (vl : Nat → Int64), m = 1000 - i → i ≤ 1000 → a ≤ l → c ≤ i → TK c tk → lf_X5_split_9 (nI l) sg Φ (m + 1) (nI c) tk pl vl (nI a) (nI i) := by
    intro m
    induction m with
    | zero =>
      intro i a c tk pl vl hm hi ha hc h
      have e : i = 1000 := by omega
      subst e
      show lb_X5_split_9 _ _ _ _ _ _ _ _ _ _
      unfold lb_X5_split_9
      exact ⟨fun _ => out 1000 c tk pl vl (by omega) hc h, fun z => absurd (by decide) z⟩
    | succ m ih =>
      intro i a c tk pl vl hm hi ha hc h
      show lb_X5_split_9 _ _ _ _ _ _ _ _ _ _
      unfold lb_X5_split_9
      refine ⟨fun z => absurd z (nI_ge (b := 1000) (by omega) (by decide)), fun _ => pk_le l a (fun _ => out i c tk pl vl hi hc h) (fun hal => ⟨pk_in a 1000 (by omega), ?_⟩)⟩
      have k0 : ∀ r : Int32, (r = 0 → wp_X5_splitOne (nI l) sg (nI a) (nI c) tk pl vl (fun r_24 Tcnt_20 Ttoks_21 Tplc_22 Tvals_23 => lf_X5_split_9 (nI l) sg Φ (m + 1) Tcnt_20 Ttoks_21 Tplc_22 Tvals_23 r_24 (nI i + 1))) ∧ (¬ r = 0 → lf_X5_split_9 (nI l) sg Φ (m + 1) (nI c) tk pl vl (nI a + 1) (nI i + 1)) := by
        intro r
        rw [nI_1, nI_1]
        exact ⟨fun _ => sp_X5_splitOne hl hal h (fun e h1 h2 c' tk' pl' vl' h3 h4 h5 => ih (i + 1) e c' tk' pl' vl' (by omega) (by omega) h2 (by omega) h3), fun _ => ih (i + 1) (a + 1) c tk pl vl (by omega) (by omega) (by omega) (by omega) h⟩
      exact sp_X5_isBlank (k0 _) (fun _ _ => k0 _)
  exact ⟨1000 - 0 + 1, key (1000 - 0) 0 0 0 tk pl vl rfl (by decide) (by omega) (by decide) ⟨by decide, fun j hj => absurd hj (by omega)⟩⟩
end SP
