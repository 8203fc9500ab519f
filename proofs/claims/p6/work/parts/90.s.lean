abbrev PP_ : Type := Int32 → Int32 → Int32 → Int32 → Int32 → Int32 → Int32 → Int64 → Int32 → Int32 → Int32 → Int32 → (Nat → Int32) → (Nat → Int32) → (Nat → Int32) → (Nat → Int32) → (Nat → Int64) → (Nat → Int64) → (Nat → Int32) → (Nat → Int32) → (Nat → Int32) → (Nat → Int32) → (Nat → Int32) → (Nat → Int32) → (Nat → Int32) → (Nat → Int32) → (Nat → Int32) → (Nat → Int32) → (Nat → Int32) → (Nat → Int32) → (Nat → Int32) → (Nat → Int32) → (Nat → Int32) → (Nat → Int32) → Prop
theorem sp_X8_programme {t : Nat → Int32} {n : Nat} {Φ : PP_} {F0 F1 F2 F3 F4 : Int32} {F5 : Int64} {F6 F7 F8 sta : Int32} {st ce ip ln be co ca ic le mo ta ac ls tw lf lt cd op cm wo : Nat → Int32} {sn cn : Nat → Int64} (hn : n ≤ 1000) (hG : GM st ce ip ln le mo ta ac ls lf lt cd)
    (hΦ : ∀ r q' b' T' w' td' wr' c' sta' st' ce' ip' ln' sn' cn' be' co' ca' ic' le' mo' ta' ac' ls' tw' lf' lt' cd' op' cm' wo', GM st' ce' ip' ln' le' mo' ta' ac' ls' lf' lt' cd' → ((sta' = 0 ∧ ∀ p, ¬ p = 0 → ¬ p = 1 → p < 6 → ln' p = ln p) ∨ (sta' = sta ∧ ∀ p, ¬ p = 1 → ln' p = ln p)) → (CO co → CO co') → Φ r 0 0 (nI n) q' b' T' w' td' wr' c' sta' st' ce' ip' ln' sn' cn' be' co' ca' ic' le' mo' ta' ac' ls' tw' lf' lt' cd' op' cm' wo') : wp_X8_programme t F0 (nI n) F1 F2 F3 F4 F5 F6 F7 F8 sta st ce ip ln sn cn be co ca ic le mo ta ac ls tw lf lt cd op cm wo Φ := by
  unfold wp_X8_programme
  refine sp_X8_readsAll hn hG (fun r q' b' T' w' td' wr' c' st' ce' ip' ln' sn' cn' be' co' ca' ic' le' mo' ta' ac' ls' tw' lf' lt' cd' op' cm' hr hc' hG' hln hco => ⟨fun _ => ?_, fun _ => hΦ _ _ _ _ _ _ _ _ _ _ _ _ _ _ _ _ _ _ _ _ _ _ _ _ _ _ _ _ _ _ _ hG'.gm (Or.inr ⟨rfl, hln⟩) hco⟩)
  have hg1 := hG' 1 (by decide)
  rw [cp1] at hg1
  refine sp_X8_lays (f := 1) (g := 0) (cap := c') (by decide) (by decide) (by decide) (by omega) hg1 (fun st2 ce2 ip2 ln2 be2 co2 ca2 ic2 le2 mo2 ta2 ac2 ls2 tw2 lf2 lt2 cd2 h0 hp _ hfr hc2 => ?_)
  have hGM : GM st2 ce2 ip2 ln2 le2 mo2 ta2 ac2 ls2 lf2 lt2 cd2 := by
    intro p hp6 hp1
    by_cases e : p = 0
    · subst e; exact h0
    · exact hp p _ hp6 e (Nat.le_refl _) (hG'.gm p hp6 hp1)
  have hl2 : ∀ p, ¬ p = 0 → ¬ p = 1 → p < 6 → ln2 p = ln p := fun p a b d => (hfr p a d).trans (hln p b)
  have key : ∀ m k (wo' : Nat → Int32), m = 16 - k → k ≤ 16 → lf_X8_programme_30 t Φ (m + 1) 0 0 (nI n) q' b' T' w' td' wr' (nI c') 0 st2 ce2 ip2 ln2 sn' cn' be2 co2 ca2 ic2 le2 mo2 ta2 ac2 ls2 tw2 lf2 lt2 cd2 op' cm' wo' (nI k) := by
    intro m
    induction m with
    | zero =>
      intro k wo' hm hk
      have e : k = 16 := by omega
      subst e
      exact ⟨fun _ => hΦ _ _ _ _ _ _ _ _ _ _ _ _ _ _ _ _ _ _ _ _ _ _ _ _ _ _ _ _ _ _ _ hGM (Or.inl ⟨rfl, hl2⟩) (fun z => hc2 (hco z)), fun z => absurd (by decide) z⟩
    | succ m ih =>
      intro k wo' hm hk
      show lb_X8_programme_30 _ _ _ _ _ _ _ _ _ _ _ _ _ _ _ _ _ _ _ _ _ _ _ _ _ _ _ _ _ _ _ _ _ _ _ _ _
      unfold lb_X8_programme_30
      rw [nI_1]
      exact ⟨fun z => absurd z (nI_ge (b := 16) (by omega) (by decide)), fun _ => ⟨pk_in k 16 (by omega), ih (k + 1) _ (by omega) (by omega)⟩⟩
  exact ⟨16 - 0 + 1, key (16 - 0) 0 wo rfl (by decide)⟩
