section AW
variable {sg : Nat → Int32} {a e c : Nat} {tk : Nat → Nat} {pl : Nat → Int32} {vl : Nat → Int64} {Φ : PTk}
theorem sp_X5_addWord (he : e ≤ 1000) (ha : a ≤ e) (h : TK c tk) (hΦ : TH c Φ) : wp_X5_addWord sg (nI a) (nI e) (nI c) tk pl vl Φ := by
  have key : ∀ (m k : Nat) (v : Int64), m = e - k → k ≤ e → lf_X5_addWord_5 sg (nI a) (nI e) Φ (m + 1) (nI c) tk pl vl v (nI k) := by
    intro m
    induction m with
    | zero =>
      intro k v hm hk
      show lb_X5_addWord_5 _ _ _ _ _ _ _ _ _ _ _
      unfold lb_X5_addWord_5
      exact ⟨fun _ => ⟨fun _ => sp_X5_spelled (by decide) (fun r hr => sp_X5_add hr h hΦ), fun _ => sp_X5_add (by decide) h hΦ⟩, fun z => absurd (nI_le (by omega) (by omega)) z⟩
    | succ m ih =>
      intro k v hm hk
      show lb_X5_addWord_5 _ _ _ _ _ _ _ _ _ _ _
      unfold lb_X5_addWord_5
      rw [nI_1]
      exact ⟨fun z => absurd z (nI_ge (by omega) (by omega)), fun _ => ⟨pk_in k 1000 (by omega), ih (k + 1) _ (by omega) (by omega)⟩⟩
  exact ⟨e - a + 1, key (e - a) a 0 rfl ha⟩
theorem sp_X5_addNumber (he : e ≤ 1000) (ha : a ≤ e) (h : TK c tk) (hΦ : TH c Φ) : wp_X5_addNumber sg (nI a) (nI e) (nI c) tk pl vl Φ := by
  have key : ∀ (m k : Nat) (v : Int64), m = e - k → k ≤ e → lf_X5_addNumber_5 sg (nI a) (nI e) Φ (m + 1) (nI c) tk pl vl v (nI k) := by
    intro m
    induction m with
    | zero =>
      intro k v hm hk
      show lb_X5_addNumber_5 _ _ _ _ _ _ _ _ _ _ _
      unfold lb_X5_addNumber_5
      exact ⟨fun _ => ⟨fun _ => sp_X5_add (by decide) h hΦ, fun _ => sp_X5_add (by decide) h hΦ⟩, fun z => absurd (nI_le (by omega) (by omega)) z⟩
    | succ m ih =>
      intro k v hm hk
      show lb_X5_addNumber_5 _ _ _ _ _ _ _ _ _ _ _
      unfold lb_X5_addNumber_5
      rw [nI_1]
      exact ⟨fun z => absurd z (nI_ge (by omega) (by omega)), fun _ => ⟨pk_in k 1000 (by omega), ih (k + 1) _ (by omega) (by omega)⟩⟩
  exact ⟨e - a + 1, key (e - a) a 0 rfl ha⟩
end AW
