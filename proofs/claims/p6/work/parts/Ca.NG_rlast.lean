section RL9
variable {m : MS} {st ce ip ln be co ca ic il im ac aC ls tw lf lt cd : Nat → Int32} {a0 w0 n0 e0 f0 u0 d0 th : Int32} {k1 k2 k3 k4 k5 k6 k7 k8 k9 vo he we sr go pk mg mb mp de : Nat → Int32}
/-- the reference's table -/
def RT9 (g : PGr) (pk : Nat → Int32) (de : Nat → Int32) (l0 : Nat) : Prop := ∀ l, l0 ≤ l → l ≤ nL g → ∀ r, r ≤ 64 → de (65 * l + r) = nI (leG g pk (nL g - l) r)
theorem sq8_lastsBy {g : PGr} {pk : Nat → Int32} {l r s t : Nat} {Φ : Int32 → Prop} (hS : SB 0 g.1 st be co) (hG : GK9 g) (hp : AGn (nL g) pk mp) (hl : l < nL g) (hr : r ≤ 64) (hs : s < nS g) (ht1 : 1 ≤ t) (ht4 : t ≤ 4) (ht : RT9 g pk de (l + 1)) (h : Φ (nI (lbG g (pk l) (leG g pk (nL g - (l + 1))) r s t))) : wl_X8_lastsBy be co mp de (nI l) (nI r) (nI s) (nI t) Φ := by
  have h16 : nL g ≤ 16 := hG.2.2.2.2.2.2.2.2.1
  have h4 : nS g ≤ 4 := hG.1
  obtain ⟨b1, b2⟩ := hS.beZ hs
  rw [z40] at b1 b2
  have hco := coS_le hG hs
  have hm : coS g s * t ≤ 999 * 4 := Nat.mul_le_mul hco ht4
  unfold wl_X8_lastsBy wl_X8_layCost
  rw [nI_leI (by omega) (by omega), nI_1, show (65 : Int32) = nI 65 from rfl, pk_mul, nI_add, nI_clamp (n := s) (by omega), nI_clamp (n := l) (by omega), b1, b2, hp l hl, pk_mul (coS g s) t]
  refine ⟨fun z _ _ => ?_, fun z => ?_⟩
  · have hb := leG_b (pk := pk) hG (nL g - (l + 1)) (by omega) (r - t)
    have hix : nI (65 * (l + 1) + r) - nI t = nI (65 * (l + 1) + (r - t)) := by rw [pk_sub (by omega)]; exact congrArg nI (by omega)
    have hd := ht (l + 1) (Nat.le_refl _) (by omega) (r - t) (by omega)
    have hn := leG_b (pk := pk) hG (nL g - (l + 1)) (by omega) (r - t)
    rw [hix, nI_clamp (n := 65 * (l + 1) + (r - t)) (by omega), hd]
    refine ⟨fun y _ _ => ?_, fun y _ => ?_⟩
    · rw [nI_add, show (1000000 : Int32) = nI 1000000 from rfl]
      have e : lbG g (pk l) (leG g pk (nL g - (l + 1))) r s t = min 1000000 (coS g s * t + leG g pk (nL g - (l + 1)) (r - t)) := by unfold lbG; rw [if_pos ⟨z, y⟩]
      rw [e] at h
      by_cases q : coS g s * t + leG g pk (nL g - (l + 1)) (r - t) < 1000000
      · rw [if_pos ((nI_ltI (by omega) (by decide)).mpr q)]
        rw [Nat.min_eq_right (by omega)] at h
        exact h
      · rw [if_neg (fun p => q ((nI_ltI (by omega) (by decide)).mp p))]
        rw [Nat.min_eq_left (by omega)] at h
        exact h
    · have e : lbG g (pk l) (leG g pk (nL g - (l + 1))) r s t = 1000000 := by unfold lbG; rw [if_neg (fun q => y q.2)]
      rw [e] at h
      rw [show (1000000 : Int32) = nI 1000000 from rfl, nI_add, if_neg (fun p => by have := (nI_ltI (by omega) (by decide)).mp p; omega)]
      exact h
  · have e : lbG g (pk l) (leG g pk (nL g - (l + 1))) r s t = 1000000 := by unfold lbG; rw [if_neg (fun q => z q.1)]
    rw [e] at h
    exact h
def GWl (x : Int32) (m : MS) (Φ : PIl) : Prop := (lsO m.1 x = none → ∀ a w n e f u d k1 k2 k3 k4 k5 k6 k7 k8 k9 vo he we sr go pk mg mb mp de, Φ 0 a w n e f u d k1 k2 k3 k4 k5 k6 k7 k8 k9 vo he we sr go pk mg mb mp de) ∧ (∀ r, lsO m.1 x = some r → x = nI r → r ≤ 64 → 0 < nL m.1 → leG m.1 (pkG m.1) (nL m.1) r < 1000000 → ∀ a w n e f u d k1 k2 k3 k4 k5 k6 k7 k8 k9 vo he we sr go pk mg mb mp de, AGn (nL m.1) (pkG m.1) mp → RT9 m.1 (pkG m.1) de 0 → Φ 1 a w n e f u d k1 k2 k3 k4 k5 k6 k7 k8 k9 vo he we sr go pk mg mb mp de)
theorem sq8_isLasting {x : Int32} {Φ : PIl} (hR : RPY 0 m st ce ip ln be co ca ic il im ac aC ls tw lf lt cd) (hO : MO9 m) (h : GWl x m Φ) : wl_X8_isLasting st ce ip ln be co ca ic il im ac aC ls tw lf lt cd x a0 w0 n0 e0 f0 u0 d0 k1 k2 k3 k4 k5 k6 k7 k8 k9 vo he we sr go pk mg mb mp de Φ := by
  have h16 : nL m.1 ≤ 16 := hO.1.2.2.2.2.2.2.2.2.1
  have h4 : nS m.1 ≤ 4 := hO.1.1
  have hln : ln 0 = nI (nL m.1) := hR.1.2.2.2.1
  have hst : st 0 = nI (nS m.1) := hR.1.1.1
  obtain ⟨h0, h1⟩ := h
  unfold wl_X8_isLasting
  have lo : x < 1 → lsO m.1 x = none := fun z => by
    unfold lsO
    cases e : ixO x 65 with
    | none => rfl
    | some r =>
      obtain ⟨h65, ex⟩ := ixO_some (by decide) e
      rw [ex] at z
      have : r < 1 := (nI_ltI (b := 1) (by omega) (by decide)).mp z
      exact if_neg (fun q => q.1 (by omega))
  have hi : 64 < x → lsO m.1 x = none := fun z => by
    unfold lsO
    cases e : ixO x 65 with
    | none => rfl
    | some r =>
      obtain ⟨h65, ex⟩ := ixO_some (by decide) e
      rw [ex] at z
      have : 64 < r := (nI_ltI (a := 64) (by decide) (by omega)).mp z
      omega
  refine ⟨fun z => ⟨fun _ => h0 (lo z) _ _ _ _ _ _ _ _ _ _ _ _ _ _ _ _ _ _ _ _ _ _ _ _ _ _, fun q => absurd rfl q⟩, fun z => ⟨fun z2 => ⟨fun _ => h0 (hi z2) _ _ _ _ _ _ _ _ _ _ _ _ _ _ _ _ _ _ _ _ _ _ _ _ _ _, fun q => absurd rfl q⟩, fun z2 => ⟨fun q => absurd q (by decide), fun _ => ?_⟩⟩⟩
  obtain ⟨r, hr, ex⟩ := nI_of2 (M := 64) (n := 64) (by decide) (fun q3 => z (Int32.lt_of_lt_of_le q3 (by decide))) (Int32.not_lt.mp z2)
  have r0 : ¬ r = 0 := fun e => by rw [ex, e] at z; exact z (by decide)
  have e65 : ixO x 65 = some r := by rw [ex]; exact ixO_nI (by decide) (by omega)
  have el : lsO m.1 x = if ¬ r = 0 ∧ 0 < nL m.1 ∧ alG m.1 (inN m.1) = true ∧ leG m.1 (pkG m.1) (nL m.1) r < 1000000 then some r else none := by unfold lsO; rw [e65]
  refine sq8_wears hR hO (fun a w n e f u d k1 k2 k3 k4 k5 k6 k7 k8 k9 vo he we sr go pk mg mb mp hs => ?_)
  by_cases ha : 0 < nL m.1 ∧ alG m.1 (inN m.1) = true
  rotate_left
  · rw [if_neg ha]
    rw [if_neg (fun q => ha ⟨q.2.1, q.2.2.1⟩)] at el
    exact ⟨fun z => absurd rfl z, fun _ => h0 el _ _ _ _ _ _ _ _ _ _ _ _ _ _ _ _ _ _ _ _ _ _ _ _ _ _⟩
  rw [if_pos ha] at hs ⊢
  obtain ⟨_, _, s3⟩ := hs (by decide)
  have hmp : AGn (nL m.1) (pkG m.1) mp := fun j hj => by rw [s3 j (by omega), pkG_eq]
  refine ⟨fun _ => ?_, fun z => absurd z (by decide)⟩
  -- a room of a line
  have k92 : ∀ (κ56 : K56) (κ63 : K63) (κ78 : K78) (de : Nat → Int32) (l r' s : Nat), l < nL m.1 → r' ≤ 64 → s < nS m.1 → RT9 m.1 (pkG m.1) de (l + 1) → κ78 a w n e f u d k1 k2 k3 k4 k5 k6 k7 k8 k9 vo he we sr go pk mg mb mp de (nI l) (nI r') (nI (bsF (fG m.1 (pkG m.1 l) (leG m.1 (pkG m.1) (nL m.1 - (l + 1))) r') (4 * (s + 1)))) (nI (s + 1)) → ∀ (fu t : Nat), 1 ≤ t → t ≤ 5 → ll_X8_isLasting_92 st ce ip ln be co ca ic il im ac aC ls tw lf lt cd x κ56 κ63 κ78 Φ fu a w n e f u d k1 k2 k3 k4 k5 k6 k7 k8 k9 vo he we sr go pk mg mb mp de (nI l) (nI r') (nI (bsF (fG m.1 (pkG m.1 l) (leG m.1 (pkG m.1) (nL m.1 - (l + 1))) r') (4 * s + (t - 1)))) (nI s) (nI t) := by
    intro κ56 κ63 κ78 de l r' s hl hr' hs' ht hκ fu
    induction fu with
    | zero => intros; trivial
    | succ fu ih =>
      intro t ht1 ht5
      show bl_X8_isLasting_92 _ _ _ _ _ _ _ _ _ _ _ _ _ _ _ _ _ _ _ _ _ _ _ _ _ _ _ _ _ _ _ _ _ _ _ _ _ _ _ _ _ _ _ _ _ _ _ _ _ _ _ _ _ _
      unfold bl_X8_isLasting_92
      have q5 : (5 : Int32) ≤ nI t ↔ 5 ≤ t := nI_leI (a := 5) (by decide) (by omega)
      have nx := ih (t + 1) (by omega)
      rw [q5, nI_1, nI_1]
      refine ⟨fun z => ?_, fun z => sq8_lastsBy hR.1.1 hO.1 hmp hl hr' hs' ht1 (by omega) ht ?_⟩
      · rw [show 4 * s + (t - 1) = 4 * (s + 1) by omega]; exact hκ
      · have hb := bsF_le (fG m.1 (pkG m.1 l) (leG m.1 (pkG m.1) (nL m.1 - (l + 1))) r') (4 * s + (t - 1))
        have ev : fG m.1 (pkG m.1 l) (leG m.1 (pkG m.1) (nL m.1 - (l + 1))) r' (4 * s + (t - 1)) = lbG m.1 (pkG m.1 l) (leG m.1 (pkG m.1) (nL m.1 - (l + 1))) r' s t := by
          unfold fG
          rw [show (4 * s + (t - 1)) / 4 = s by omega, show 1 + (4 * s + (t - 1)) % 4 = t by omega]
        have hv : lbG m.1 (pkG m.1 l) (leG m.1 (pkG m.1) (nL m.1 - (l + 1))) r' s t ≤ 1000000 := by unfold lbG; split <;> omega
        rw [if_min hv hb]
        rw [show 4 * s + (t + 1 - 1) = 4 * s + (t - 1) + 1 by omega, bsF_s, ev, Nat.min_comm] at nx
        exact nx (by omega)
  have k78 : ∀ (κ56 : K56) (κ63 : K63) (de : Nat → Int32) (l r' : Nat), l < nL m.1 → r' ≤ 64 → RT9 m.1 (pkG m.1) de (l + 1) → (∀ de', RT9 m.1 (pkG m.1) de' (l + 1) → de' (65 * l + r') = nI (leG m.1 (pkG m.1) (nL m.1 - l) r') → (∀ q, q < r' → de' (65 * l + q) = de (65 * l + q)) → κ63 a w n e f u d k1 k2 k3 k4 k5 k6 k7 k8 k9 vo he we sr go pk mg mb mp de' (nI l) (nI (r' + 1))) → ∀ (fu s : Nat), s ≤ nS m.1 → ll_X8_isLasting_78 st ce ip ln be co ca ic il im ac aC ls tw lf lt cd x κ56 κ63 Φ fu a w n e f u d k1 k2 k3 k4 k5 k6 k7 k8 k9 vo he we sr go pk mg mb mp de (nI l) (nI r') (nI (bsF (fG m.1 (pkG m.1 l) (leG m.1 (pkG m.1) (nL m.1 - (l + 1))) r') (4 * s))) (nI s) := by
    intro κ56 κ63 de l r' hl hr' ht hκ fu
    induction fu with
    | zero => intros; trivial
    | succ fu ih =>
      intro s hs'
      show bl_X8_isLasting_78 _ _ _ _ _ _ _ _ _ _ _ _ _ _ _ _ _ _ _ _ _ _ _ _ _ _ _ _ _ _ _ _ _ _ _ _ _ _ _ _ _ _ _ _ _ _ _ _ _ _ _ _
      unfold bl_X8_isLasting_78
      rw [hst, nI_leI (by omega) (by omega), show (65 : Int32) = nI 65 from rfl, pk_mul, nI_add, nI_clamp (n := 65 * l + r') (by omega), nI_1]
      refine ⟨fun z _ => hκ _ (fun l' p q r2 hr2 => ?_) ?_ (fun q hq => pk_un (by omega)), fun z n_ => ?_⟩
      · rw [pk_un (by omega)]; exact ht l' p q r2 hr2
      · have e : s = nS m.1 := by omega
        rw [pk_us, e, leG_s hl]
      · exact k92 κ56 κ63 _ de l r' s hl hr' (by omega) ht (ih (s + 1) (by omega)) n_ 1 (by decide) (by decide)
  have k63 : ∀ (κ56 : K56) (l : Nat), l < nL m.1 → (∀ de', RT9 m.1 (pkG m.1) de' l → κ56 a w n e f u d k1 k2 k3 k4 k5 k6 k7 k8 k9 vo he we sr go pk mg mb mp de' (nI l + (-1))) → ∀ (fu r' : Nat) (de : Nat → Int32), r' ≤ 65 → RT9 m.1 (pkG m.1) de (l + 1) → (∀ q, q < r' → de (65 * l + q) = nI (leG m.1 (pkG m.1) (nL m.1 - l) q)) → ll_X8_isLasting_63 st ce ip ln be co ca ic il im ac aC ls tw lf lt cd x κ56 Φ fu a w n e f u d k1 k2 k3 k4 k5 k6 k7 k8 k9 vo he we sr go pk mg mb mp de (nI l) (nI r') := by
    intro κ56 l hl hκ fu
    induction fu with
    | zero => intros; trivial
    | succ fu ih =>
      intro r' de hr' ht hq
      show bl_X8_isLasting_63 _ _ _ _ _ _ _ _ _ _ _ _ _ _ _ _ _ _ _ _ _ _ _ _ _ _ _ _ _ _ _ _ _ _ _ _ _ _ _ _ _ _ _ _ _ _ _ _ _
      unfold bl_X8_isLasting_63
      have q64 : (64 : Int32) < nI r' ↔ 64 < r' := nI_ltI (a := 64) (by decide) (by omega)
      rw [q64]
      refine ⟨fun z => hκ de (fun l' p q r2 hr2 => ?_), fun z n_ => ?_⟩
      · by_cases el' : l' = l
        · rw [el']; exact hq r2 (by omega)
        · exact ht l' (by omega) q r2 hr2
      · refine k78 κ56 _ de l r' hl (by omega) ht (fun de' g1 g2 g3 => ih (r' + 1) de' (by omega) g1 (fun q hq' => ?_)) n_ 0 (Nat.zero_le _)
        by_cases eq' : q = r'
        · rw [eq']; exact g2
        · rw [g3 q (by omega)]; exact hq q (by omega)
  have k56 : ∀ (fu l : Nat) (de : Nat → Int32), l ≤ nL m.1 → RT9 m.1 (pkG m.1) de l → ll_X8_isLasting_56 st ce ip ln be co ca ic il im ac aC ls tw lf lt cd x Φ fu a w n e f u d k1 k2 k3 k4 k5 k6 k7 k8 k9 vo he we sr go pk mg mb mp de (nI l + (-1)) := by
    intro fu
    induction fu with
    | zero => intros; trivial
    | succ fu ih =>
      intro l de hl ht
      show bl_X8_isLasting_56 _ _ _ _ _ _ _ _ _ _ _ _ _ _ _ _ _ _ _ _ _ _ _ _ _ _ _ _ _ _ _ _ _ _ _ _ _ _ _ _ _ _ _ _ _ _ _
      unfold bl_X8_isLasting_56
      cases l with
      | zero =>
        have hb := leG_b (pk := pkG m.1) hO.1 (nL m.1) h16 r
        have hd := ht 0 (Nat.le_refl _) (Nat.zero_le _) r hr
        rw [Nat.sub_zero, show 65 * 0 + r = r by omega] at hd
        refine ⟨fun _ _ => ?_, fun z => absurd (by decide) z⟩
        rw [ex, nI_clamp (n := r) (by omega), hd]
        have q6 : (1000000 : Int32) ≤ nI (leG m.1 (pkG m.1) (nL m.1) r) ↔ 1000000 ≤ leG m.1 (pkG m.1) (nL m.1) r := nI_leI (a := 1000000) (by decide) (by omega)
        rw [q6]
        refine ⟨fun q => ?_, fun q => ?_⟩
        · rw [if_neg (fun p => by have := p.2.2.2; omega)] at el
          exact h0 el _ _ _ _ _ _ _ _ _ _ _ _ _ _ _ _ _ _ _ _ _ _ _ _ _ _
        · rw [if_pos ⟨r0, ha.1, ha.2, by omega⟩] at el
          exact h1 r el ex hr ha.1 (by omega) _ _ _ _ _ _ _ _ _ _ _ _ _ _ _ _ _ _ _ _ _ _ _ _ _ _ hmp ht
      | succ l =>
        rw [pk_m1]
        exact ⟨fun z => absurd z (nI_pos (by omega)), fun _ n_ => k63 _ l (by omega) (fun de' ht' => ih l de' (by omega) ht') n_ 0 de (by decide) ht (fun q hq => absurd hq (Nat.not_lt_zero _))⟩
  have k28 : ∀ (fu r' : Nat) (de : Nat → Int32), r' ≤ 65 → (∀ q, q < r' → de (65 * nL m.1 + q) = 0) → ll_X8_isLasting_28 st ce ip ln be co ca ic il im ac aC ls tw lf lt cd x Φ fu a w n e f u d k1 k2 k3 k4 k5 k6 k7 k8 k9 vo he we sr go pk mg mb mp de (nI (nL m.1)) (nI r') := by
    intro fu
    induction fu with
    | zero => intros; trivial
    | succ fu ih =>
      intro r' de hr' hq
      show bl_X8_isLasting_28 _ _ _ _ _ _ _ _ _ _ _ _ _ _ _ _ _ _ _ _ _ _ _ _ _ _ _ _ _ _ _ _ _ _ _ _ _ _ _ _ _ _ _ _ _ _ _ _
      unfold bl_X8_isLasting_28
      have q64 : (64 : Int32) < nI r' ↔ 64 < r' := nI_ltI (a := 64) (by decide) (by omega)
      rw [q64, show (65 : Int32) = nI 65 from rfl, pk_mul, nI_add, nI_clamp (n := 65 * nL m.1 + r') (by omega), nI_1, Int32.sub_eq_add_neg]
      refine ⟨fun z n_ => k56 n_ (nL m.1) de (Nat.le_refl _) (fun l' p q r2 hr2 => ?_), fun z _ => ih (r' + 1) _ (by omega) (fun q hq' => ?_)⟩
      · have e9 : l' = nL m.1 := by omega
        rw [e9, Nat.sub_self, hq r2 (by omega)]
        rfl
      · by_cases eq' : q = r'
        · rw [eq', pk_us]
        · rw [pk_un (by omega)]; exact hq q (by omega)
  rw [hln]
  exact fun fu => k28 fu 0 _ (by decide) (fun q hq => absurd hq (Nat.not_lt_zero _))
def FWq (r : Int32) (Φ : PIm) : Prop := ∀ a w n e f u d k1 k2 k3 k4 k5 k6 k7 k8 k9 vo he we sr go pk mg mb mp de, Φ r 0 a w n e f u d k1 k2 k3 k4 k5 k6 k7 k8 k9 vo he we sr go pk mg mb mp de
theorem sq8_lasting {x : Int32} {Φ : PIm} (hR : RPY 0 m st ce ip ln be co ca ic il im ac aC ls tw lf lt cd) (hO : MO9 m) (h : FWq (f_lasting m x) Φ) : wl_X8_lasting st ce ip ln be co ca ic il im ac aC ls tw lf lt cd x th a0 w0 n0 e0 f0 u0 d0 k1 k2 k3 k4 k5 k6 k7 k8 k9 vo he we sr go pk mg mb mp de Φ := by
  unfold wl_X8_lasting
  unfold f_lasting at h
  refine sq8_isLasting hR hO ⟨fun e => ?_, fun r e ex hr hn hb => ?_⟩
  · intro a w n e9 f u d k1 k2 k3 k4 k5 k6 k7 k8 k9 vo he we sr go pk mg mb mp de
    rw [e] at h
    exact ⟨fun _ => h _ _ _ _ _ _ _ _ _ _ _ _ _ _ _ _ _ _ _ _ _ _ _ _ _ _, fun z => absurd rfl z⟩
  · intro a w n e9 f u d k1 k2 k3 k4 k5 k6 k7 k8 k9 vo he we sr go pk mg mb mp de hmp ht
    rw [e] at h
    have hd := ht 0 (Nat.le_refl _) (Nat.zero_le _) r hr
    rw [Nat.sub_zero, show 65 * 0 + r = r by omega] at hd
    rw [ex, nI_clamp (n := r) (by omega), hd]
    exact ⟨fun z => absurd z (by decide), fun _ _ => h _ _ _ _ _ _ _ _ _ _ _ _ _ _ _ _ _ _ _ _ _ _ _ _ _ _⟩
theorem sq8_lasts {x y z : Int32} {Φ : PIm} (hR : RPY 0 m st ce ip ln be co ca ic il im ac aC ls tw lf lt cd) (hO : MO9 m) (h : FWq (f_lasts m x y z) Φ) : wl_X8_lasts st ce ip ln be co ca ic il im ac aC ls tw lf lt cd x y z th a0 w0 n0 e0 f0 u0 d0 k1 k2 k3 k4 k5 k6 k7 k8 k9 vo he we sr go pk mg mb mp de Φ := by
  have h16 : nL m.1 ≤ 16 := hO.1.2.2.2.2.2.2.2.2.1
  have h4 : nS m.1 ≤ 4 := hO.1.1
  have hln : ln 0 = nI (nL m.1) := hR.1.2.2.2.1
  have hno : (lsO m.1 x = none ∨ ixO y (nL m.1) = none ∨ (¬ z = 0 ∧ ¬ z = 1)) → FWq (-1) Φ := by
    intro q
    have e : f_lasts m x y z = -1 := by
      unfold f_lasts
      split
      · rename_i r l e1 e2
        rcases q with q | q | q
        · rw [e1] at q; cases q
        · rw [e2] at q; cases q
        · rw [if_neg q.1, if_neg q.2]
      · rfl
    rw [e] at h
    exact h
  unfold wl_X8_lasts
  refine sq8_isLine hln (by omega) (fun e => ⟨fun _ => hno (Or.inr (Or.inl e)) _ _ _ _ _ _ _ _ _ _ _ _ _ _ _ _ _ _ _ _ _ _ _ _ _ _, fun z => absurd rfl z⟩) (fun l hl ey el => ⟨fun z => absurd z (by decide), fun _ => ?_⟩)
  refine sq8_wi (m := 1) (by decide) (fun e2 => ⟨fun _ => hno (Or.inr (Or.inr ⟨fun q => ixO_no (by decide) e2 ⟨0, by decide, q⟩, fun q => ixO_no (by decide) e2 ⟨1, by decide, q⟩⟩)) _ _ _ _ _ _ _ _ _ _ _ _ _ _ _ _ _ _ _ _ _ _ _ _ _ _, fun z => absurd rfl z⟩) (fun zi hzi ez _ => ⟨fun z => absurd z (by decide), fun _ => ?_⟩)
  refine sq8_isLasting hR hO ⟨fun e => ?_, fun r e ex hr hn hb => ?_⟩
  · intro a w n e9 f u d k1 k2 k3 k4 k5 k6 k7 k8 k9 vo he we sr go pk mg mb mp de
    exact ⟨fun z => absurd rfl z, fun _ => hno (Or.inl e) _ _ _ _ _ _ _ _ _ _ _ _ _ _ _ _ _ _ _ _ _ _ _ _ _ _⟩
  · intro a w n e9 f u d k1 k2 k3 k4 k5 k6 k7 k8 k9 vo he we sr go pk mg mb mp de hmp ht
    unfold f_lasts at h
    rw [e, el] at h
    have h : FWq (if z = 0 then (amI (lsG m.1 (pkG m.1) r l).2).1 else if z = 1 then (amI (lsG m.1 (pkG m.1) r l).2).2 else -1) Φ := h
    refine ⟨fun _ => ?_, fun q => absurd q (by decide)⟩
    rw [ex, ey]
    -- line by line
    have k38 : ∀ (fu i : Nat), i ≤ l → ll_X8_lasts_38 st ce ip ln be co ca ic il im ac aC ls tw lf lt cd (nI r) (nI l) z Φ fu 0 a w n e9 f u d k1 k2 k3 k4 k5 k6 k7 k8 k9 vo he we sr go pk mg mb mp de (nI (lsG m.1 (pkG m.1) r i).1) (nI i) := by
      intro fu
      induction fu with
      | zero => intros; trivial
      | succ fu ih =>
        intro i hi
        show bl_X8_lasts_38 _ _ _ _ _ _ _ _ _ _ _ _ _ _ _ _ _ _ _ _ _ _ _ _ _ _ _ _ _ _ _ _ _ _ _ _ _ _ _ _ _ _ _ _ _ _ _ _ _ _ _
        unfold bl_X8_lasts_38
        rw [hln, nI_leI (by omega) (by omega)]
        refine ⟨fun q => absurd q (by omega), fun _ => ?_⟩
        obtain ⟨a1, a2, j, a3, a4, a5, a6⟩ := lsG_ok hO.1 hb i (by omega)
        have ej := lsG_2 (g := m.1) (pk := pkG m.1) (room := r) i
        rw [a3] at ej
        obtain ⟨c1, c2, c3⟩ := am_some ej.symm
        have nx := ih (i + 1)
        have es : (lsG m.1 (pkG m.1) r (i + 1)).1 = (lsG m.1 (pkG m.1) r i).1 - (1 + j % 4) := by rw [lsG_s, a3]; rfl
        have k52 : ∀ (fu2 t : Nat), t ≤ j → ll_X8_lasts_52 st ce ip ln be co ca ic il im ac aC ls tw lf lt cd (nI r) (nI l) z (ll_X8_lasts_38 st ce ip ln be co ca ic il im ac aC ls tw lf lt cd (nI r) (nI l) z Φ fu) Φ fu2 0 a w n e9 f u d k1 k2 k3 k4 k5 k6 k7 k8 k9 vo he we sr go pk mg mb mp de (nI (lsG m.1 (pkG m.1) r i).1) (nI i) (nI t) := by
          intro fu2
          induction fu2 with
          | zero => intros; trivial
          | succ fu2 ih2 =>
            intro t ht'
            show bl_X8_lasts_52 _ _ _ _ _ _ _ _ _ _ _ _ _ _ _ _ _ _ _ _ _ _ _ _ _ _ _ _ _ _ _ _ _ _ _ _ _ _ _ _ _ _ _ _ _ _ _ _ _ _ _ _ _
            unfold bl_X8_lasts_52
            have e41 : nI t / (4 : Int32) = nI (t / 4) := pk_div (d := 4) (by omega) (by decide) (by decide)
            have e42 : nI t - nI t / (4 : Int32) * 4 = nI (t % 4) := pk_rem (d := 4) (by omega) (by decide) (by decide)
            have e43 : (1 : Int32) + nI (t % 4) = nI (1 + t % 4) := nI_add 1 (t % 4)
            rw [e42, e43, e41, show (65 : Int32) = nI 65 from rfl, pk_mul, nI_add, nI_clamp (n := 65 * i + (lsG m.1 (pkG m.1) r i).1) (by omega), nI_eq (by omega) (by omega), nI_1, nI_1]
            refine sq8_lastsBy hR.1.1 hO.1 hmp (by omega) (by omega) (by omega) (by omega) (by omega) (fun l' p q r2 hr2 => ht l' (Nat.zero_le _) q r2 hr2) (fun _ => ?_)
            rw [ht i (Nat.zero_le _) (by omega) _ (by omega), leG_s (by omega : i < nL m.1), ← c2]
            have hv1 : lbG m.1 (pkG m.1 i) (leG m.1 (pkG m.1) (nL m.1 - (i + 1))) (lsG m.1 (pkG m.1) r i).1 (t / 4) (1 + t % 4) = fG m.1 (pkG m.1 i) (leG m.1 (pkG m.1) (nL m.1 - (i + 1))) (lsG m.1 (pkG m.1) r i).1 t := rfl
            have hle : ∀ t, fG m.1 (pkG m.1 i) (leG m.1 (pkG m.1) (nL m.1 - (i + 1))) (lsG m.1 (pkG m.1) r i).1 t ≤ 1000000 := fun t => by unfold fG lbG; split <;> omega
            have h1t := hle t
            have h1j := hle j
            rw [hv1, nI_eq (by omega) (by omega)]
            have c3 := c3 t
            rw [← c2] at c3
            refine ⟨fun q => ?_, fun q => ?_⟩
            · have etj : t = j := by
                by_cases q2 : t = j
                · exact q2
                · exact absurd q (c3 (by omega))
              rw [etj, pk_sub a5, ← es]
              refine ⟨fun q2 => nx (by omega), fun q2 => ?_⟩
              have e3 : (lsG m.1 (pkG m.1) r l).2 = some j := by rw [← q2]; exact a3
              rw [e3] at h
              have h : FWq (if z = 0 then nI (j / 4) else if z = 1 then nI (1 + j % 4) else -1) Φ := h
              refine ⟨fun q3 => ?_, fun q3 => ?_⟩
              · have : zi = 1 := by
                  have q0 : ¬ zi = 0 := fun q => q3 (by rw [ez, q]; rfl)
                  omega
                subst this
                rw [if_neg q3, if_pos (by rw [ez]; rfl)] at h
                exact h _ _ _ _ _ _ _ _ _ _ _ _ _ _ _ _ _ _ _ _ _ _ _ _ _ _
              · rw [if_pos q3] at h
                exact h _ _ _ _ _ _ _ _ _ _ _ _ _ _ _ _ _ _ _ _ _ _ _ _ _ _
            · exact ih2 (t + 1) (by
                have : ¬ t = j := fun e => q (by rw [e])
                omega)
        exact fun n_ => k52 n_ 0 (Nat.zero_le _)
    exact fun fu => k38 fu 0 (Nat.zero_le _)
end RL9
