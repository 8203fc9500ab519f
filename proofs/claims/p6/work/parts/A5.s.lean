/-- the byte that feed looks at in turn k -/
def fby (xa xb xc : Int64) (k : Nat) : Int32 := ((((((if k < 8 then xa else if k < 16 then xb else xc)).toUInt64 >>> ((56 - (8 * (nI k &&& 7))).toInt64.toUInt64 &&& Int64.toUInt64 63)).toInt64) &&& 255).toInt32)
abbrev fok (v : Int32) : Prop := v = 10 ∨ (¬ v < 32 ∧ ¬ 126 < v)
/-- how many bytes lie on the tape behind the turns k .. k + m -/
def fcn (xa xb xc : Int64) : Nat → Nat → Nat → Nat
  | 0, _, n => n
  | m + 1, k, n => fcn xa xb xc m (k + 1) (if n < 1000 ∧ fok (fby xa xb xc k) then n + 1 else n)
theorem fcn_le (xa xb xc : Int64) : ∀ m k n, n ≤ 1000 → fcn xa xb xc m k n ≤ 1000 := by
  intro m
  induction m with
  | zero => intro k n h; exact h
  | succ m ih =>
    intro k n h
    show fcn xa xb xc m (k + 1) _ ≤ 1000
    refine ih (k + 1) _ ?_
    by_cases e : n < 1000 ∧ fok (fby xa xb xc k)
    · rw [if_pos e]; omega
    · rw [if_neg e]; exact h
theorem sp_X8_feed {xa xb xc : Int64} {n : Nat} {F : Int32} {t : Nat → Int32} {Φ : Int32 → Int32 → Int32 → (Nat → Int32) → Prop} (hn : n ≤ 1000) (hΦ : ∀ t', Φ (nI (fcn xa xb xc 24 0 n)) 0 (nI (fcn xa xb xc 24 0 n)) t') : wp_X8_feed xa xb xc F (nI n) t Φ := by
  have key : ∀ (m k n : Nat) (t : Nat → Int32), m = 24 - k → k ≤ 24 → n ≤ 1000 → (∀ t', Φ (nI (fcn xa xb xc m k n)) 0 (nI (fcn xa xb xc m k n)) t') → lf_X8_feed_8 xa xb xc Φ (m + 1) 0 (nI n) t (nI k) := by
    intro m
    induction m with
    | zero =>
      intro k n t hm hk hn hΦ
      have e : k = 24 := by omega
      subst e
      exact ⟨fun _ => hΦ t, fun z => absurd (by decide) z⟩
    | succ m ih =>
      intro k n t hm hk hn hΦ
      show lb_X8_feed_8 _ _ _ _ _ _ _ _ _
      unfold lb_X8_feed_8
      have hv : ∀ w : Int64, w = (if k < 8 then xa else if k < 16 then xb else xc) → kf_X8_feed_39 xa xb xc (lf_X8_feed_8 xa xb xc Φ (m + 1)) Φ 0 (nI n) t (nI k) w := by
        intro w hw
        subst hw
        unfold kf_X8_feed_39 kf_X8_feed_93
        have ev : ((((((if k < 8 then xa else if k < 16 then xb else xc)).toUInt64 >>> ((56 - (8 * (nI k &&& 7))).toInt64.toUInt64 &&& Int64.toUInt64 63)).toInt64) &&& 255).toInt32) = fby xa xb xc k := rfl
        rw [ev, nI_1, nI_1]
        have no : (¬ (n < 1000 ∧ fok (fby xa xb xc k))) → ∀ t, lf_X8_feed_8 xa xb xc Φ (m + 1) 0 (nI n) t (nI (k + 1)) := fun z t => ih (k + 1) n t (by omega) (by omega) hn (fun t' => by
          have := hΦ t'
          unfold fcn at this
          rw [if_neg z] at this
          exact this)
        have ys : n < 1000 → fok (fby xa xb xc k) → vp_in (nI n) 1000 ∧ lf_X8_feed_8 xa xb xc Φ (m + 1) 0 (nI (n + 1)) (upd t (nI n).toNatClampNeg (fby xa xb xc k)) (nI (k + 1)) := fun y z => ⟨pk_in n 1000 y, ih (k + 1) (n + 1) _ (by omega) (by omega) (by omega) (fun t' => by
          have := hΦ t'
          unfold fcn at this
          rw [if_pos ⟨y, z⟩] at this
          exact this)⟩
        refine ⟨fun z => no (fun y => nI_ge (b := 1000) y.1 (by decide) z) t, fun z => ?_⟩
        have hlt : n < 1000 := Nat.lt_of_not_le (fun y => z (nI_le (a := 1000) y (by omega)))
        refine ⟨fun e => ys hlt (Or.inl e), fun e => ⟨fun e2 => no (fun y => ?_) t, fun e2 => ⟨fun e3 => no (fun y => ?_) t, fun e3 => ys hlt (Or.inr ⟨e2, e3⟩)⟩⟩⟩
        · rcases y.2 with y | y
          · exact e y
          · exact y.1 e2
        · rcases y.2 with y | y
          · exact e y
          · exact y.2 e3
      refine ⟨fun z => absurd z (nI_ge (b := 24) (by omega) (by decide)), fun _ => ⟨fun z8 => ⟨fun z16 => hv xc ?_, fun z16 => hv xb ?_⟩, fun z8 => hv xa ?_⟩⟩
      · rw [if_neg (fun y => nI_ge (b := 8) y (by decide) z8), if_neg (fun y => nI_ge (b := 16) y (by decide) z16)]
      · rw [if_neg (fun y => nI_ge (b := 8) y (by decide) z8), if_pos (Nat.lt_of_not_le (fun y => z16 (nI_le (a := 16) y (by omega))))]
      · rw [if_pos (Nat.lt_of_not_le (fun y => z8 (nI_le (a := 8) y (by omega))))]
  exact ⟨24 - 0 + 1, key (24 - 0) 0 n t rfl (by decide) hn hΦ⟩
