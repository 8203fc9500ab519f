/-- lastsBy's answer -/
def lbv (be co mp de : Nat → Int32) (j c i t : Nat) : Int32 := if t ≤ c then (if (if mp j ≤ be i * nI t then co i * nI t else (1000000 : Int32)) + de (65 * (j + 1) + c - t) < (1000000 : Int32) then (if mp j ≤ be i * nI t then co i * nI t else (1000000 : Int32)) + de (65 * (j + 1) + c - t) else (1000000 : Int32)) else 1000000
section LB
variable {be co mp de : Nat → Int32}
theorem sp_X8_lastsBy {j c i t : Nat} {Φ : Int32 → Prop} (hj : j < 16) (hc : c ≤ 64) (hi : i < 24) (ht : t < 100) (hΦ : Φ (lbv be co mp de j c i t)) : wp_X8_lastsBy be co mp de (nI j) (nI c) (nI i) (nI t) Φ := by
  unfold wp_X8_lastsBy
  refine ⟨fun z => ?_, fun z => ?_⟩
  · have htc : t ≤ c := (nI_leI (by omega) (by omega)).mp z
    have e : (65 : Int32) * (nI j + 1) + nI c - nI t = nI (65 * (j + 1) + c - t) := by
      rw [nI_1, show (65 : Int32) = nI 65 from rfl, pk_mul, nI_add]
      obtain ⟨d, rfl⟩ : ∃ d, c = t + d := ⟨c - t, by omega⟩
      rw [show 65 * (j + 1) + (t + d) = (65 * (j + 1) + d) + t by omega, ← nI_add _ t, show 65 * (j + 1) + d + t - t = 65 * (j + 1) + d by omega]
      exact Int32.add_sub_cancel _ _
    have ee := nI_clamp (n := 65 * (j + 1) + c - t) (by omega)
    unfold lbv at hΦ
    rw [if_pos htc] at hΦ
    unfold wp_X8_layCost
    rw [e, ee, nI_clamp (n := i) (by omega), nI_clamp (n := j) (by omega)]
    refine ⟨pk_in i 24 hi, pk_in j 16 hj, fun w => ⟨pk_in i 24 hi, pk_in (65 * (j + 1) + c - t) 1105 (by omega), ?_⟩, fun w => ⟨pk_in (65 * (j + 1) + c - t) 1105 (by omega), ?_⟩⟩
    · rw [if_pos w] at hΦ; exact hΦ
    · rw [if_neg w] at hΦ; exact hΦ
  · have htc : ¬ t ≤ c := fun y => z (nI_le y (by omega))
    unfold lbv at hΦ
    rw [if_neg htc] at hΦ
    exact hΦ
theorem lbv_nat {j c i t : Nat} (hC : CO co) (ht4 : t ≤ 4) (hn : t ≤ c → ∃ a : Nat, a ≤ 1000000 ∧ de (65 * (j + 1) + c - t) = nI a) : ∃ b : Nat, b ≤ 1000000 ∧ lbv be co mp de j c i t = nI b ∧ (b < 1000000 → t ≤ c ∧ ∃ a : Nat, a < 1000000 ∧ de (65 * (j + 1) + c - t) = nI a) := by
  unfold lbv
  by_cases htc : t ≤ c
  · rw [if_pos htc]
    obtain ⟨a, ha, ea⟩ := hn htc
    obtain ⟨r, hr, er⟩ : ∃ r : Nat, r ≤ 1000000 ∧ (if mp j ≤ be i * nI t then co i * nI t else (1000000 : Int32)) = nI r := by
      by_cases w : mp j ≤ be i * nI t
      · rw [if_pos w]
        obtain ⟨x, hx, ex⟩ := hC i
        refine ⟨x * t, ?_, by rw [ex, pk_mul]⟩
        have := Nat.mul_le_mul hx ht4
        omega
      · rw [if_neg w]; exact ⟨1000000, Nat.le_refl _, rfl⟩
    rw [er, ea, nI_add]
    by_cases w : nI (r + a) < (1000000 : Int32)
    · rw [if_pos w]
      have hlt : r + a < 1000000 := (nI_ltI (b := 1000000) (by omega) (by decide)).mp w
      exact ⟨r + a, by omega, rfl, fun _ => ⟨htc, a, by omega, rfl⟩⟩
    · rw [if_neg w]; exact ⟨1000000, Nat.le_refl _, rfl, fun z => absurd z (Nat.lt_irrefl _)⟩
  · rw [if_neg htc]; exact ⟨1000000, Nat.le_refl _, rfl, fun z => absurd z (Nat.lt_irrefl _)⟩
def WB (s : Nat) (be co mp de : Nat → Int32) (j c b : Nat) : Prop := b ≤ 1000000 ∧ (b < 1000000 → ∃ i t : Nat, i < s ∧ 1 ≤ t ∧ t ≤ 4 ∧ lbv be co mp de j c i t = nI b)
theorem lbv_upd {j c i t q : Nat} {v : Int32} (hq : q < 65 * (j + 1)) : lbv be co mp (upd de q v) j c i t = lbv be co mp de j c i t := by
  unfold lbv
  by_cases htc : t ≤ c
  · rw [if_pos htc, if_pos htc, pk_un (by omega)]
  · rw [if_neg htc, if_neg htc]
theorem WB.up {s j c b q : Nat} {v : Int32} (h : WB s be co mp de j c b) (hq : q < 65 * (j + 1)) : WB s be co mp (upd de q v) j c b := ⟨h.1, fun z => by
  obtain ⟨i, t, a1, a2, a3, a4⟩ := h.2 z
  exact ⟨i, t, a1, a2, a3, by rw [lbv_upd hq]; exact a4⟩⟩
def DQ (l s : Nat) (be co mp de : Nat → Int32) (j0 c0 : Nat) : Prop := (∀ c, c ≤ 64 → ∃ b : Nat, b ≤ 1000000 ∧ de (65 * l + c) = nI b) ∧ ∀ j c, c ≤ 64 → j < l → (j0 < j ∨ (j = j0 ∧ c < c0)) → ∃ b : Nat, de (65 * j + c) = nI b ∧ WB s be co mp de j c b
theorem DQ.next {l s j0 c0 j x : Nat} (h : DQ l s be co mp de j0 c0) (hj : j < l) (h0 : j0 ≤ j) (hx : x ≤ 64) : ∃ a : Nat, a ≤ 1000000 ∧ de (65 * (j + 1) + x) = nI a := by
  by_cases e : j + 1 = l
  · rw [e]; exact h.1 x hx
  · obtain ⟨b, b1, b2⟩ := h.2 (j + 1) x hx (by omega) (by omega)
    exact ⟨b, b2.1, b1⟩
theorem DQ.step {l s j0 c0 b : Nat} (h : DQ l s be co mp de j0 c0) (hj : j0 < l) (hc : c0 ≤ 64) (hb : WB s be co mp de j0 c0 b) : DQ l s be co mp (upd de (65 * j0 + c0) (nI b)) j0 (c0 + 1) := by
  refine ⟨fun c hc' => ?_, fun j c hc' hjl hor => ?_⟩
  · obtain ⟨x, x1, x2⟩ := h.1 c hc'
    exact ⟨x, x1, by rw [pk_un (by omega)]; exact x2⟩
  · by_cases e : j = j0 ∧ c = c0
    · obtain ⟨rfl, rfl⟩ := e
      exact ⟨b, pk_us, hb.up (by omega)⟩
    · obtain ⟨x, x1, x2⟩ := h.2 j c hc' hjl (by omega)
      exact ⟨x, by rw [pk_un (by omega)]; exact x1, x2.up (by omega)⟩
theorem DQ.wrap {l s j : Nat} (h : DQ l s be co mp de (j + 1) 65) : DQ l s be co mp de j 0 := ⟨h.1, fun j' c hc hjl hor => h.2 j' c hc hjl (by omega)⟩
end LB
