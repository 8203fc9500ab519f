abbrev K56 : Type := Int32 → Int32 → Int32 → Int32 → Int32 → Int32 → Int32 → (Nat → Int32) → (Nat → Int32) → (Nat → Int32) → (Nat → Int32) → (Nat → Int32) → (Nat → Int32) → (Nat → Int32) → (Nat → Int32) → (Nat → Int32) → (Nat → Int32) → (Nat → Int32) → (Nat → Int32) → (Nat → Int32) → (Nat → Int32) → (Nat → Int32) → (Nat → Int32) → (Nat → Int32) → (Nat → Int32) → (Nat → Int32) → Int32 → Prop
abbrev K63 : Type := Int32 → Int32 → Int32 → Int32 → Int32 → Int32 → Int32 → (Nat → Int32) → (Nat → Int32) → (Nat → Int32) → (Nat → Int32) → (Nat → Int32) → (Nat → Int32) → (Nat → Int32) → (Nat → Int32) → (Nat → Int32) → (Nat → Int32) → (Nat → Int32) → (Nat → Int32) → (Nat → Int32) → (Nat → Int32) → (Nat → Int32) → (Nat → Int32) → (Nat → Int32) → (Nat → Int32) → (Nat → Int32) → Int32 → Int32 → Prop
abbrev K78 : Type := Int32 → Int32 → Int32 → Int32 → Int32 → Int32 → Int32 → (Nat → Int32) → (Nat → Int32) → (Nat → Int32) → (Nat → Int32) → (Nat → Int32) → (Nat → Int32) → (Nat → Int32) → (Nat → Int32) → (Nat → Int32) → (Nat → Int32) → (Nat → Int32) → (Nat → Int32) → (Nat → Int32) → (Nat → Int32) → (Nat → Int32) → (Nat → Int32) → (Nat → Int32) → (Nat → Int32) → (Nat → Int32) → Int32 → Int32 → Int32 → Int32 → Prop
abbrev PIl : Type := Int32 → Int32 → Int32 → Int32 → Int32 → Int32 → Int32 → Int32 → (Nat → Int32) → (Nat → Int32) → (Nat → Int32) → (Nat → Int32) → (Nat → Int32) → (Nat → Int32) → (Nat → Int32) → (Nat → Int32) → (Nat → Int32) → (Nat → Int32) → (Nat → Int32) → (Nat → Int32) → (Nat → Int32) → (Nat → Int32) → (Nat → Int32) → (Nat → Int32) → (Nat → Int32) → (Nat → Int32) → (Nat → Int32) → Prop
section IL
variable {st ce ip ln be co ca ic le mo ta ac ls tw lf lt cd : Nat → Int32} {x0 f1 f2 f3 f4 f5 f6 f7 : Int32} {k1 k2 k3 k4 k5 k6 k7 k8 k9 vo he we sr go pk mg mb mp : Nat → Int32} {l s : Nat} {Φ : PIl}
theorem sp_il92 {κ56 : K56} {κ63 : K63} {κ78 : K78} {de : Nat → Int32} {j c i : Nat} (hC : CO co) (hs : s ≤ 4) (hi : i < s) (hl6 : l ≤ 16) (hj : j < l) (hc : c ≤ 64) (hD : DQ l s be co mp de j c) (hκ : ∀ b : Nat, WB s be co mp de j c b → κ78 f1 f2 f3 f4 f5 f6 f7 k1 k2 k3 k4 k5 k6 k7 k8 k9 vo he we sr go pk mg mb mp de (nI j) (nI c) (nI b) (nI i + 1)) : ∀ m t b : Nat, m = 5 - t → 1 ≤ t → t ≤ 5 → WB s be co mp de j c b → lf_X8_isLasting_92 st ce ip ln be co ca ic le mo ta ac ls tw lf lt cd x0 κ56 κ63 κ78 Φ (m + 1) f1 f2 f3 f4 f5 f6 f7 k1 k2 k3 k4 k5 k6 k7 k8 k9 vo he we sr go pk mg mb mp de (nI j) (nI c) (nI b) (nI i) (nI t) := by
  intro m
  induction m with
  | zero =>
    intro t b hm h1 h5 hb
    have e : t = 5 := by omega
    subst e
    exact ⟨fun _ => hκ b hb, fun z => absurd (by decide) z⟩
  | succ m ih =>
    intro t b hm h1 h5 hb
    show lb_X8_isLasting_92 _ _ _ _ _ _ _ _ _ _ _ _ _ _ _ _ _ _ _ _ _ _ _ _ _ _ _ _ _ _ _ _ _ _ _ _ _ _ _ _ _ _ _ _ _ _ _ _ _ _ _ _ _ _
    unfold lb_X8_isLasting_92
    rw [nI_1 t]
    refine ⟨fun _ => hκ b hb, fun _ => sp_X8_lastsBy (by omega) hc (by omega) (by omega) ?_⟩
    obtain ⟨b', b1, b2, b3⟩ := lbv_nat (be := be) (mp := mp) (j := j) (c := c) (i := i) (t := t) hC (by omega) (fun htc => by
      obtain ⟨a, a1, a2⟩ := hD.next hj (Nat.le_refl _) (x := c - t) (by omega)
      exact ⟨a, a1, by rw [show 65 * (j + 1) + c - t = 65 * (j + 1) + (c - t) by omega]; exact a2⟩)
    have hb1 := hb.1
    clear b3
    rw [b2]
    by_cases w : nI b' < nI b
    · rw [if_pos w]
      exact ih (t + 1) b' (by omega) (by omega) (by omega) ⟨b1, fun _ => ⟨i, t, hi, h1, by omega, b2⟩⟩
    · rw [if_neg w]
      exact ih (t + 1) b (by omega) (by omega) (by omega) hb
theorem sp_il78 {κ56 : K56} {κ63 : K63} {de : Nat → Int32} {j c : Nat} (hC : CO co) (hs0 : st 0 = nI s) (hs : s ≤ 4) (hl6 : l ≤ 16) (hj : j < l) (hc : c ≤ 64) (hD : DQ l s be co mp de j c) (hκ : ∀ b : Nat, WB s be co mp de j c b → κ63 f1 f2 f3 f4 f5 f6 f7 k1 k2 k3 k4 k5 k6 k7 k8 k9 vo he we sr go pk mg mb mp (upd de (65 * j + c) (nI b)) (nI j) (nI c + 1)) : ∀ m i b : Nat, m = s - i → i ≤ s → WB s be co mp de j c b → lf_X8_isLasting_78 st ce ip ln be co ca ic le mo ta ac ls tw lf lt cd x0 κ56 κ63 Φ (m + 1) f1 f2 f3 f4 f5 f6 f7 k1 k2 k3 k4 k5 k6 k7 k8 k9 vo he we sr go pk mg mb mp de (nI j) (nI c) (nI b) (nI i) := by
  have ix : (65 : Int32) * nI j + nI c = nI (65 * j + c) := by rw [show (65 : Int32) = nI 65 from rfl, pk_mul, nI_add]
  intro m
  induction m with
  | zero =>
    intro i b hm hi hb
    show lb_X8_isLasting_78 _ _ _ _ _ _ _ _ _ _ _ _ _ _ _ _ _ _ _ _ _ _ _ _ _ _ _ _ _ _ _ _ _ _ _ _ _ _ _ _ _ _ _ _ _ _ _ _ _ _ _ _
    unfold lb_X8_isLasting_78
    rw [ix, nI_clamp (n := 65 * j + c) (by omega)]
    exact ⟨fun _ => ⟨pk_in (65 * j + c) 1105 (by omega), hκ b hb⟩, fun z => absurd (by rw [hs0]; exact nI_le (by omega) (by omega)) z⟩
  | succ m ih =>
    intro i b hm hi hb
    show lb_X8_isLasting_78 _ _ _ _ _ _ _ _ _ _ _ _ _ _ _ _ _ _ _ _ _ _ _ _ _ _ _ _ _ _ _ _ _ _ _ _ _ _ _ _ _ _ _ _ _ _ _ _ _ _ _ _
    unfold lb_X8_isLasting_78
    rw [ix, nI_clamp (n := 65 * j + c) (by omega)]
    refine ⟨fun _ => ⟨pk_in (65 * j + c) 1105 (by omega), hκ b hb⟩, fun _ => ⟨5 - 1 + 1, sp_il92 hC hs (by omega) hl6 hj hc hD (fun b' hb' => ?_) (5 - 1) 1 b rfl (by decide) (by decide) hb⟩⟩
    rw [nI_1]
    exact ih (i + 1) b' (by omega) (by omega) hb'
theorem sp_il63 {κ56 : K56} {j : Nat} (hC : CO co) (hs0 : st 0 = nI s) (hs : s ≤ 4) (hl6 : l ≤ 16) (hj : j < l) (hκ : ∀ de, DQ l s be co mp de j 65 → κ56 f1 f2 f3 f4 f5 f6 f7 k1 k2 k3 k4 k5 k6 k7 k8 k9 vo he we sr go pk mg mb mp de (nI j + (-1))) : ∀ (m c : Nat) (de : Nat → Int32), m = 65 - c → c ≤ 65 → DQ l s be co mp de j c → lf_X8_isLasting_63 st ce ip ln be co ca ic le mo ta ac ls tw lf lt cd x0 κ56 Φ (m + 1) f1 f2 f3 f4 f5 f6 f7 k1 k2 k3 k4 k5 k6 k7 k8 k9 vo he we sr go pk mg mb mp de (nI j) (nI c) := by
  intro m
  induction m with
  | zero =>
    intro c de hm hc hD
    have e : c = 65 := by omega
    subst e
    exact ⟨fun _ => hκ de hD, fun z => absurd (by decide) z⟩
  | succ m ih =>
    intro c de hm hc hD
    show lb_X8_isLasting_63 _ _ _ _ _ _ _ _ _ _ _ _ _ _ _ _ _ _ _ _ _ _ _ _ _ _ _ _ _ _ _ _ _ _ _ _ _ _ _ _ _ _ _ _ _ _ _ _ _
    unfold lb_X8_isLasting_63
    refine ⟨fun z => absurd z (nI_nlt (b := c) (a := 64) (by omega) (by decide)), fun _ => ⟨s - 0 + 1, sp_il78 hC hs0 hs hl6 hj (by omega) hD (fun b hb => ?_) (s - 0) 0 1000000 rfl (Nat.zero_le _) ⟨Nat.le_refl _, fun z => absurd z (Nat.lt_irrefl _)⟩⟩⟩
    rw [nI_1]
    exact ih (c + 1) _ (by omega) (by omega) (hD.step hj (by omega) hb)
def LH (l s : Nat) (x0 : Int32) (be co : Nat → Int32) (Φ : PIl) : Prop := ∀ r f1 f2 f3 f4 f5 f6 f7 k1 k2 k3 k4 k5 k6 k7 k8 k9 vo he we sr go pk mg mb mp de, (r = 0 ∨ r = 1) → (r = 1 → (∃ c a : Nat, x0 = nI c ∧ c ≤ 64 ∧ a < 1000000 ∧ de c = nI a) ∧ DQ l s be co mp de 0 65) → Φ r f1 f2 f3 f4 f5 f6 f7 k1 k2 k3 k4 k5 k6 k7 k8 k9 vo he we sr go pk mg mb mp de
theorem sp_il56 {c0 : Nat} (hC : CO co) (hs0 : st 0 = nI s) (hs : s ≤ 4) (hl6 : l ≤ 16) (hx : x0 = nI c0) (hx6 : c0 ≤ 64) (hl0 : 0 < l) (hΦ : LH l s x0 be co Φ) : ∀ (m : Nat) (de : Nat → Int32), m < l → DQ l s be co mp de m 0 → lf_X8_isLasting_56 st ce ip ln be co ca ic le mo ta ac ls tw lf lt cd x0 Φ (m + 2) f1 f2 f3 f4 f5 f6 f7 k1 k2 k3 k4 k5 k6 k7 k8 k9 vo he we sr go pk mg mb mp de (nI m) := by
  intro m
  induction m with
  | zero =>
    intro de hm hD
    show lb_X8_isLasting_56 _ _ _ _ _ _ _ _ _ _ _ _ _ _ _ _ _ _ _ _ _ _ _ _ _ _ _ _ _ _ _ _ _ _ _ _ _ _ _ _ _ _ _ _ _ _ _
    unfold lb_X8_isLasting_56
    refine ⟨fun z => absurd z (by decide), fun _ => ⟨65 - 0 + 1, sp_il63 hC hs0 hs hl6 hm (fun de' hD' => ?_) (65 - 0) 0 de rfl (by decide) hD⟩⟩
    show lb_X8_isLasting_56 _ _ _ _ _ _ _ _ _ _ _ _ _ _ _ _ _ _ _ _ _ _ _ _ _ _ _ _ _ _ _ _ _ _ _ _ _ _ _ _ _ _ _ _ _ _ _
    unfold lb_X8_isLasting_56
    refine ⟨fun _ => ⟨by rw [hx]; exact pk_in c0 1105 (by omega), fun _ => hΦ _ _ _ _ _ _ _ _ _ _ _ _ _ _ _ _ _ _ _ _ _ _ _ _ _ _ _ (Or.inl rfl) (fun z => absurd z (by decide)), fun z => hΦ _ _ _ _ _ _ _ _ _ _ _ _ _ _ _ _ _ _ _ _ _ _ _ _ _ _ _ (Or.inr rfl) (fun _ => ⟨?_, hD'⟩)⟩, fun z => absurd (by decide) z⟩
    obtain ⟨b, b1, b2⟩ := hD'.2 0 c0 hx6 hm (by omega)
    rw [show 65 * 0 + c0 = c0 by omega] at b1
    have hb1 := b2.1
    rw [hx, nI_clamp (n := c0) (by omega), b1] at z
    exact ⟨c0, b, hx, hx6, Nat.lt_of_not_le (fun y => z (nI_le (a := 1000000) y (by omega))), b1⟩
  | succ m ih =>
    intro de hm hD
    show lb_X8_isLasting_56 _ _ _ _ _ _ _ _ _ _ _ _ _ _ _ _ _ _ _ _ _ _ _ _ _ _ _ _ _ _ _ _ _ _ _ _ _ _ _ _ _ _ _ _ _ _ _
    unfold lb_X8_isLasting_56
    refine ⟨fun z => absurd z (nI_pos (by omega)), fun _ => ⟨65 - 0 + 1, sp_il63 hC hs0 hs hl6 hm (fun de' hD' => ?_) (65 - 0) 0 de rfl (by decide) hD⟩⟩
    rw [show nI (m + 1) + (-1) = nI m by rw [← Int32.sub_eq_add_neg]; exact nI_pred m]
    exact ih de' (by omega) hD'.wrap
end IL
