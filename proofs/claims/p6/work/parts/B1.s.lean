theorem fcn_add (xa xb xc : Int64) : ∀ a b k n, fcn xa xb xc (a + b) k n = fcn xa xb xc b (k + a) (fcn xa xb xc a k n) := by
  intro a
  induction a with
  | zero => intro b k n; rw [Nat.zero_add]; rfl
  | succ a ih =>
    intro b k n
    rw [show a + 1 + b = (a + b) + 1 by omega]
    show fcn xa xb xc (a + b) (k + 1) _ = fcn xa xb xc b (k + (a + 1)) (fcn xa xb xc a (k + 1) _)
    rw [ih, show k + 1 + a = k + (a + 1) by omega]
theorem by_and (x : Int64) : x.toInt32 &&& 255 = (x &&& 255).toInt32 := by
  rw [Int64.toInt32_and]; rfl
def ab (i : Nat) : Int32 := 56 - 8 * nI i
theorem ab_step : ∀ i : Fin 8, ¬ ab i.val < 0 ∧ ab i.val + (-8) = ab (i.val + 1) := by decide
theorem ab_sh : ∀ q : Fin 3, ∀ i : Fin 8, ab i.val = 56 - 8 * (nI (8 * q.val + i.val) &&& 7) := by decide
theorem sp_X5_addBytes {xa xb xc w : Int64} {q n : Nat} {sg : Nat → Int32} {Φ : Int32 → (Nat → Int32) → Prop} (hq : q < 3) (hw : w = (if q = 0 then xa else if q = 1 then xb else xc)) (hn : n ≤ 1000) (hΦ : ∀ sg', Φ (nI (fcn xa xb xc 8 (8 * q) n)) sg') : wp_X5_addBytes w (nI n) sg Φ := by
  have key : ∀ (m i n : Nat) (sg : Nat → Int32), m = 8 - i → i ≤ 8 → n ≤ 1000 → (∀ sg', Φ (nI (fcn xa xb xc m (8 * q + i) n)) sg') → lf_X5_addBytes_3 w Φ (m + 1) (nI n) sg (ab i) := by
    intro m
    induction m with
    | zero =>
      intro i n sg hm hi hn hΦ
      have e : i = 8 := by omega
      subst e
      exact ⟨fun _ => hΦ sg, fun z => absurd (by decide) z⟩
    | succ m ih =>
      intro i n sg hm hi hn hΦ
      show lb_X5_addBytes_3 _ _ _ _ _ _
      unfold lb_X5_addBytes_3 kf_X5_addBytes_48
      have s1 := ab_step ⟨i, by omega⟩
      have s2 := ab_sh ⟨q, hq⟩ ⟨i, by omega⟩
      simp only at s1 s2
      have ew : w = (if 8 * q + i < 8 then xa else if 8 * q + i < 16 then xb else xc) := by
        rw [hw]
        by_cases e0 : q = 0
        · rw [if_pos e0, if_pos (show 8 * q + i < 8 by omega)]
        · rw [if_neg e0, if_neg (show ¬ 8 * q + i < 8 by omega)]
          by_cases e1 : q = 1
          · rw [if_pos e1, if_pos (show 8 * q + i < 16 by omega)]
          · rw [if_neg e1, if_neg (show ¬ 8 * q + i < 16 by omega)]
      have ev : ((((w).toUInt64 >>> ((ab i).toInt64.toUInt64 &&& Int64.toUInt64 63)).toInt64).toInt32) &&& 255 = fby xa xb xc (8 * q + i) := by
        rw [by_and, s2, ew]; rfl
      rw [ev, nI_1, s1.2]
      have no : (¬ (n < 1000 ∧ fok (fby xa xb xc (8 * q + i)))) → ∀ sg, lf_X5_addBytes_3 w Φ (m + 1) (nI n) sg (ab (i + 1)) := fun z sg => ih (i + 1) n sg (by omega) (by omega) hn (fun t' => by
        have := hΦ t'
        unfold fcn at this
        rw [if_neg z] at this
        exact this)
      have ys : n < 1000 → fok (fby xa xb xc (8 * q + i)) → ∀ sg, vp_in (nI n) 1000 ∧ lf_X5_addBytes_3 w Φ (m + 1) (nI (n + 1)) sg (ab (i + 1)) := fun y z sg => ⟨pk_in n 1000 y, ih (i + 1) (n + 1) sg (by omega) (by omega) (by omega) (fun t' => by
        have := hΦ t'
        unfold fcn at this
        rw [if_pos ⟨y, z⟩] at this
        exact this)⟩
      refine ⟨fun z => absurd z s1.1, fun _ => ⟨fun z => no (fun y => nI_ge (b := 1000) y.1 (by decide) z) _, fun z => ?_⟩⟩
      have hlt : n < 1000 := Nat.lt_of_not_le (fun y => z (nI_le (a := 1000) y (by omega)))
      refine ⟨fun e => ys hlt (Or.inl e) _, fun e => ⟨fun e2 => no (fun y => ?_) _, fun e2 => ⟨fun e3 => no (fun y => ?_) _, fun e3 => ys hlt (Or.inr ⟨e2, e3⟩) _⟩⟩⟩
      · rcases y.2 with y | y
        · exact e y
        · exact y.1 e2
      · rcases y.2 with y | y
        · exact e y
        · exact y.2 e3
  exact ⟨8 - 0 + 1, key (8 - 0) 0 n sg rfl (by decide) hn hΦ⟩
theorem sp_X7_feed {xa xb xc : Int64} {n : Nat} {sg : Nat → Int32} {Φ : Int32 → Int32 → (Nat → Int32) → Prop} (hn : n ≤ 1000) (hΦ : ∀ sg', Φ (nI (fcn xa xb xc 24 0 n)) (nI (fcn xa xb xc 24 0 n)) sg') : wp_X7_feed xa xb xc (nI n) sg Φ := by
  unfold wp_X7_feed
  refine sp_X5_addBytes (xa := xa) (xb := xb) (xc := xc) (q := 0) (by decide) rfl hn (fun s1 => ?_)
  have h1 := fcn_le xa xb xc 8 (8 * 0) n hn
  refine sp_X5_addBytes (xa := xa) (xb := xb) (xc := xc) (q := 1) (by decide) rfl h1 (fun s2 => ?_)
  have h2 := fcn_le xa xb xc 8 (8 * 1) _ h1
  refine sp_X5_addBytes (xa := xa) (xb := xb) (xc := xc) (q := 2) (by decide) rfl h2 (fun s3 => ?_)
  have e : fcn xa xb xc 24 0 n = fcn xa xb xc 8 (8 * 2) (fcn xa xb xc 8 (8 * 1) (fcn xa xb xc 8 (8 * 0) n)) := by
    rw [show (24 : Nat) = 8 + (8 + 8) from rfl, fcn_add, fcn_add]
  rw [← e]
  exact hΦ s3
