abbrev K78a : Type := Int32 → Int32 → Int32 → Int32 → Int32 → Int32 → Int32 → (Nat → Int32) → (Nat → Int32) → (Nat → Int32) → (Nat → Int32) → (Nat → Int32) → (Nat → Int32) → (Nat → Int32) → (Nat → Int32) → (Nat → Int32) → (Nat → Int32) → (Nat → Int32) → (Nat → Int32) → (Nat → Int32) → (Nat → Int32) → (Nat → Int32) → (Nat → Int32) → (Nat → Int32) → (Nat → Int32) → (Nat → Int32) → Int32 → Int32 → Int32 → Prop
section IL2
variable {st ce ip ln be co ca ic le mo ta ac ls tw lf lt cd : Nat → Int32} {x0 : Int32} {l s : Nat}
theorem sp_X8_isLasting {Φ : PIl} {f1 f2 f3 f4 f5 f6 f7 : Int32} {k1 k2 k3 k4 k5 k6 k7 k8 k9 vo he we sr go pk mg mb mp de : Nat → Int32} (h : GM st ce ip ln le mo ta ac ls lf lt cd) (hC : CO co) (hs0 : st 0 = nI s) (hs : s ≤ 4) (hl : ln 0 = nI l) (hl6 : l ≤ 16) (hΦ : LH l s x0 be co Φ) : wp_X8_isLasting st ce ip ln be co ca ic le mo ta ac ls tw lf lt cd x0 f1 f2 f3 f4 f5 f6 f7 k1 k2 k3 k4 k5 k6 k7 k8 k9 vo he we sr go pk mg mb mp de Φ := by
  unfold wp_X8_isLasting
  refine sp_X8_within (fun a b => ⟨fun _ => hΦ _ _ _ _ _ _ _ _ _ _ _ _ _ _ _ _ _ _ _ _ _ _ _ _ _ _ _ (Or.inl rfl) (fun z => absurd z (by decide)), fun _ => ?_⟩) (fun _ => ⟨fun _ => hΦ _ _ _ _ _ _ _ _ _ _ _ _ _ _ _ _ _ _ _ _ _ _ _ _ _ _ _ (Or.inl rfl) (fun z => absurd z (by decide)), fun z => absurd rfl z⟩)
  have hx0 : ∃ c0 : Nat, x0 = nI c0 ∧ c0 ≤ 64 := by
    have n0 : ¬ x0 < 0 := fun z => a (Int32.lt_trans z (by decide))
    obtain ⟨c0, hc0, e⟩ := nI_of n0
    refine ⟨c0, e, Nat.le_of_not_lt (fun z => b ?_)⟩
    rw [e]; exact nI_lt (a := 64) z hc0
  obtain ⟨c0, hx, hx6⟩ := hx0
  have key : ∀ (m c : Nat) (f1 f2 f3 f4 f5 f6 f7 : Int32) (k1 k2 k3 k4 k5 k6 k7 k8 k9 vo he we sr go pk mg mb mp de : Nat → Int32), m = 65 - c → c ≤ 65 → (∀ y, y < c → de (65 * l + y) = nI 0) → lf_X8_isLasting_28 st ce ip ln be co ca ic le mo ta ac ls tw lf lt cd x0 Φ (m + 1) f1 f2 f3 f4 f5 f6 f7 k1 k2 k3 k4 k5 k6 k7 k8 k9 vo he we sr go pk mg mb mp de (nI l) (nI c) := by
    have ix : ∀ c : Nat, (65 : Int32) * nI l + nI c = nI (65 * l + c) := fun c => by rw [show (65 : Int32) = nI 65 from rfl, pk_mul, nI_add]
    intro m
    induction m with
    | zero =>
      intro c f1 f2 f3 f4 f5 f6 f7 k1 k2 k3 k4 k5 k6 k7 k8 k9 vo he we sr go pk mg mb mp de hm hc hr
      have e : c = 65 := by omega
      subst e
      refine ⟨fun _ => ?_, fun z => absurd (by decide) z⟩
      rcases Nat.eq_zero_or_pos l with e0 | e0
      · subst e0
        refine ⟨1, ?_⟩
        show lb_X8_isLasting_56 _ _ _ _ _ _ _ _ _ _ _ _ _ _ _ _ _ _ _ _ _ _ _ _ _ _ _ _ _ _ _ _ _ _ _ _ _ _ _ _ _ _ _ _ _ _ _
        unfold lb_X8_isLasting_56
        refine ⟨fun _ => ⟨by rw [hx]; exact pk_in c0 1105 (by omega), fun _ => hΦ _ _ _ _ _ _ _ _ _ _ _ _ _ _ _ _ _ _ _ _ _ _ _ _ _ _ _ (Or.inl rfl) (fun z => absurd z (by decide)), fun z => hΦ _ _ _ _ _ _ _ _ _ _ _ _ _ _ _ _ _ _ _ _ _ _ _ _ _ _ _ (Or.inr rfl) (fun _ => ⟨⟨c0, 0, hx, hx6, by decide, ?_⟩, fun c hc => ⟨0, by decide, hr c (by omega)⟩, fun j c _ hj => absurd hj (Nat.not_lt_zero _)⟩)⟩, fun z => absurd (by decide) z⟩
        have := hr c0 (by omega)
        rw [show 65 * 0 + c0 = c0 by omega] at this
        exact this
      · obtain ⟨l', rfl⟩ : ∃ l', l = l' + 1 := ⟨l - 1, by omega⟩
        rw [nI_pred]
        exact ⟨l' + 2, sp_il56 hC hs0 hs hl6 hx hx6 e0 hΦ l' de (by omega) ⟨fun c hc => ⟨0, by decide, hr c (by omega)⟩, fun j c _ hj hor => by omega⟩⟩
    | succ m ih =>
      intro c f1 f2 f3 f4 f5 f6 f7 k1 k2 k3 k4 k5 k6 k7 k8 k9 vo he we sr go pk mg mb mp de hm hc hr
      show lb_X8_isLasting_28 _ _ _ _ _ _ _ _ _ _ _ _ _ _ _ _ _ _ _ _ _ _ _ _ _ _ _ _ _ _ _ _ _ _ _ _ _ _ _ _ _ _ _ _ _ _ _ _
      unfold lb_X8_isLasting_28
      rw [ix, nI_1, nI_clamp (n := 65 * l + c) (by omega)]
      refine ⟨fun z => absurd z (nI_nlt (b := c) (a := 64) (by omega) (by decide)), fun _ => ⟨pk_in (65 * l + c) 1105 (by omega), ih (c + 1) _ _ _ _ _ _ _ _ _ _ _ _ _ _ _ _ _ _ _ _ _ _ _ _ _ _ (by omega) (by omega) (fun y hy => ?_)⟩⟩
      by_cases e : y = c
      · subst e; exact pk_us
      · rw [pk_un (by omega)]; exact hr y (by omega)
  refine sp_X8_wears h (fun r _ _ _ _ _ _ _ _ _ _ _ _ _ _ _ _ _ _ _ _ _ _ _ _ _ _ => ⟨fun _ => ?_, fun _ => hΦ _ _ _ _ _ _ _ _ _ _ _ _ _ _ _ _ _ _ _ _ _ _ _ _ _ _ _ (Or.inl rfl) (fun z => absurd z (by decide))⟩)
  rw [hl]
  exact ⟨65 - 0 + 1, key (65 - 0) 0 _ _ _ _ _ _ _ _ _ _ _ _ _ _ _ _ _ _ _ _ _ _ _ _ _ _ rfl (by decide) (fun y hy => absurd hy (Nat.not_lt_zero _))⟩
abbrev PIm : Type := Int32 → PIl
def LM (Φ : PIm) : Prop := ∀ r f1 f2 f3 f4 f5 f6 f7 k1 k2 k3 k4 k5 k6 k7 k8 k9 vo he we sr go pk mg mb mp de, Φ r 0 f1 f2 f3 f4 f5 f6 f7 k1 k2 k3 k4 k5 k6 k7 k8 k9 vo he we sr go pk mg mb mp de
theorem sp_X8_lasting {Φ : PIm} {f0 f1 f2 f3 f4 f5 f6 f7 : Int32} {k1 k2 k3 k4 k5 k6 k7 k8 k9 vo he we sr go pk mg mb mp de : Nat → Int32} (h : GM st ce ip ln le mo ta ac ls lf lt cd) (hC : CO co) (hΦ : LM Φ) : wp_X8_lasting st ce ip ln be co ca ic le mo ta ac ls tw lf lt cd x0 f0 f1 f2 f3 f4 f5 f6 f7 k1 k2 k3 k4 k5 k6 k7 k8 k9 vo he we sr go pk mg mb mp de Φ := by
  obtain ⟨⟨s, s4, hs⟩, -, -, ⟨l, l16, hl, -⟩⟩ := h 0 (by decide) (by decide)
  unfold wp_X8_lasting
  refine sp_X8_isLasting h hC hs s4 hl l16 (fun r _ _ _ _ _ _ _ _ _ _ _ _ _ _ _ _ _ _ _ _ _ _ _ _ _ _ hr hg => ⟨fun _ => hΦ _ _ _ _ _ _ _ _ _ _ _ _ _ _ _ _ _ _ _ _ _ _ _ _ _ _ _, fun e => ⟨?_, hΦ _ _ _ _ _ _ _ _ _ _ _ _ _ _ _ _ _ _ _ _ _ _ _ _ _ _ _⟩⟩)
  obtain ⟨⟨c, a, hx, hc, -⟩, -⟩ := hg (hr.resolve_left e)
  rw [hx]
  exact pk_in c 1105 (by omega)
theorem q4 : ∀ k : Fin 16, nI k.val / 4 = nI (k.val / 4) ∧ (1 : Int32) + (nI k.val - nI k.val / 4 * 4) = nI (1 + k.val % 4) := by decide
theorem sp_X8_lasts {Φ : PIm} {x1 x2 f0 f1 f2 f3 f4 f5 f6 f7 : Int32} {k1 k2 k3 k4 k5 k6 k7 k8 k9 vo he we sr go pk mg mb mp de : Nat → Int32} (h : GM st ce ip ln le mo ta ac ls lf lt cd) (hC : CO co) (hΦ : LM Φ) : wp_X8_lasts st ce ip ln be co ca ic le mo ta ac ls tw lf lt cd x0 x1 x2 f0 f1 f2 f3 f4 f5 f6 f7 k1 k2 k3 k4 k5 k6 k7 k8 k9 vo he we sr go pk mg mb mp de Φ := by
  obtain ⟨⟨s, s4, hs⟩, -, -, ⟨l, l16, hl, -⟩⟩ := h 0 (by decide) (by decide)
  unfold wp_X8_lasts
  refine sp_X8_isLine (fun a b => ⟨fun _ => hΦ _ _ _ _ _ _ _ _ _ _ _ _ _ _ _ _ _ _ _ _ _ _ _ _ _ _ _, fun _ => ?_⟩) ⟨fun _ => hΦ _ _ _ _ _ _ _ _ _ _ _ _ _ _ _ _ _ _ _ _ _ _ _ _ _ _ _, fun z => absurd rfl z⟩
  refine sp_X8_within (fun _ _ => ⟨fun _ => hΦ _ _ _ _ _ _ _ _ _ _ _ _ _ _ _ _ _ _ _ _ _ _ _ _ _ _ _, fun _ => ?_⟩) (fun _ => ⟨fun _ => hΦ _ _ _ _ _ _ _ _ _ _ _ _ _ _ _ _ _ _ _ _ _ _ _ _ _ _ _, fun z => absurd rfl z⟩)
  refine sp_X8_isLasting h hC hs s4 hl l16 (fun r f1 f2 f3 f4 f5 f6 f7 k1 k2 k3 k4 k5 k6 k7 k8 k9 vo he we sr go pk mg mb mp de hr hg => ⟨fun e => ?_, fun _ => hΦ _ _ _ _ _ _ _ _ _ _ _ _ _ _ _ _ _ _ _ _ _ _ _ _ _ _ _⟩)
  obtain ⟨⟨c, a, hx, hc, ha, hda⟩, hD⟩ := hg (hr.resolve_left e)
  have k38 : ∀ (m j c a : Nat), m = l - j → j ≤ l → c ≤ 64 → a < 1000000 → de (65 * j + c) = nI a → lf_X8_lasts_38 st ce ip ln be co ca ic le mo ta ac ls tw lf lt cd x0 x1 x2 Φ (m + 1) 0 f1 f2 f3 f4 f5 f6 f7 k1 k2 k3 k4 k5 k6 k7 k8 k9 vo he we sr go pk mg mb mp de (nI c) (nI j) := by
    intro m
    induction m with
    | zero =>
      intro j c a hm hj hc ha hda
      show lb_X8_lasts_38 _ _ _ _ _ _ _ _ _ _ _ _ _ _ _ _ _ _ _ _ _ _ _ _ _ _ _ _ _ _ _ _ _ _ _ _ _ _ _ _ _ _ _ _ _ _ _ _ _ _ _
      unfold lb_X8_lasts_38
      exact ⟨fun _ => hΦ _ _ _ _ _ _ _ _ _ _ _ _ _ _ _ _ _ _ _ _ _ _ _ _ _ _ _, fun z => absurd (by rw [hl]; exact nI_le (by omega) (by omega)) z⟩
    | succ m0 ih' =>
      intro j c a hm hj hc ha hda
      show lb_X8_lasts_38 _ _ _ _ _ _ _ _ _ _ _ _ _ _ _ _ _ _ _ _ _ _ _ _ _ _ _ _ _ _ _ _ _ _ _ _ _ _ _ _ _ _ _ _ _ _ _ _ _ _ _
      unfold lb_X8_lasts_38
      refine ⟨fun _ => hΦ _ _ _ _ _ _ _ _ _ _ _ _ _ _ _ _ _ _ _ _ _ _ _ _ _ _ _, fun _ => ?_⟩
      have hjl : j < l := by omega
      obtain ⟨b, b1, b2⟩ := hD.2 j c hc hjl (by omega)
      have eab : a = b := (nI_eq (by omega) (by have := b2.1; omega)).mp (hda.symm.trans b1)
      subst eab
      obtain ⟨i, t, i1, t1, t4, ev⟩ := b2.2 ha
      have ix : (65 : Int32) * nI j + nI c = nI (65 * j + c) := by rw [show (65 : Int32) = nI 65 from rfl, pk_mul, nI_add]
      have k52 : ∀ m k : Nat, m = 4 * i + (t - 1) - k → k ≤ 4 * i + (t - 1) → lf_X8_lasts_52 st ce ip ln be co ca ic le mo ta ac ls tw lf lt cd x0 x1 x2 (lf_X8_lasts_38 st ce ip ln be co ca ic le mo ta ac ls tw lf lt cd x0 x1 x2 Φ (m0 + 1)) Φ (m + 1) 0 f1 f2 f3 f4 f5 f6 f7 k1 k2 k3 k4 k5 k6 k7 k8 k9 vo he we sr go pk mg mb mp de (nI c) (nI j) (nI k) := by
        have body : ∀ (k : Nat) (κ : Int32 → K78a), k ≤ 4 * i + (t - 1) → (k < 4 * i + (t - 1) → κ 0 f1 f2 f3 f4 f5 f6 f7 k1 k2 k3 k4 k5 k6 k7 k8 k9 vo he we sr go pk mg mb mp de (nI c) (nI j) (nI (k + 1))) → lb_X8_lasts_52 st ce ip ln be co ca ic le mo ta ac ls tw lf lt cd x0 x1 x2 (lf_X8_lasts_38 st ce ip ln be co ca ic le mo ta ac ls tw lf lt cd x0 x1 x2 Φ (m0 + 1)) Φ κ 0 f1 f2 f3 f4 f5 f6 f7 k1 k2 k3 k4 k5 k6 k7 k8 k9 vo he we sr go pk mg mb mp de (nI c) (nI j) (nI k) := by
          intro k κ hk hκ
          unfold lb_X8_lasts_52
          have hq := q4 ⟨k, by omega⟩
          simp only at hq
          rw [hq.2, hq.1, ix, nI_1 k, nI_1 j, nI_clamp (n := 65 * j + c) (by omega)]
          refine sp_X8_lastsBy (by omega) hc (by omega) (by omega) ⟨pk_in (65 * j + c) 1105 (by omega), fun ee => ?_, fun ee => ?_⟩
          · obtain ⟨b', c1, c2, c3⟩ := lbv_nat (be := be) (mp := mp) (de := de) (j := j) (c := c) (i := k / 4) (t := 1 + k % 4) hC (by omega) (fun htc => by
              obtain ⟨y, y1, y2⟩ := hD.next hjl (Nat.zero_le _) (x := c - (1 + k % 4)) (by omega)
              exact ⟨y, y1, by rw [show 65 * (j + 1) + c - (1 + k % 4) = 65 * (j + 1) + (c - (1 + k % 4)) by omega]; exact y2⟩)
            have e3 : b' = a := (nI_eq (by omega) (by omega)).mp (c2.symm.trans (ee.trans hda))
            subst e3
            obtain ⟨w1, y, y1, y2⟩ := c3 ha
            clear c3
            refine ⟨fun _ => ?_, fun _ => ⟨fun _ => hΦ _ _ _ _ _ _ _ _ _ _ _ _ _ _ _ _ _ _ _ _ _ _ _ _ _ _ _, fun _ => hΦ _ _ _ _ _ _ _ _ _ _ _ _ _ _ _ _ _ _ _ _ _ _ _ _ _ _ _⟩⟩
            have es : nI c - nI (1 + k % 4) = nI (c - (1 + k % 4)) := by
              obtain ⟨d, rfl⟩ : ∃ d, c = d + (1 + k % 4) := ⟨c - (1 + k % 4), by omega⟩
              rw [← nI_add d, show d + (1 + k % 4) - (1 + k % 4) = d by omega]
              exact Int32.add_sub_cancel _ _
            rw [es]
            exact ih' (j + 1) (c - (1 + k % 4)) y (by omega) (by omega) (by omega) y1 (by rw [show 65 * (j + 1) + (c - (1 + k % 4)) = 65 * (j + 1) + c - (1 + k % 4) by omega]; exact y2)
          · refine hκ (Nat.lt_of_le_of_ne hk (fun e4 => ee ?_))
            rw [show k / 4 = i by omega, show 1 + k % 4 = t by omega, ev, b1]
        intro m
        induction m with
        | zero => exact fun k hm hk => body k _ hk (fun z => by omega)
        | succ m ihm => exact fun k hm hk => body k _ hk (fun z => ihm (k + 1) (by omega) (by omega))
      exact ⟨4 * i + (t - 1) - 0 + 1, k52 (4 * i + (t - 1) - 0) 0 rfl (Nat.zero_le _)⟩
  have tt := k38 (l - 0) 0 c a rfl (Nat.zero_le _) hc ha (by rw [show 65 * 0 + c = c by omega]; exact hda)
  rw [← hx] at tt
  exact ⟨l - 0 + 1, tt⟩
end IL2
