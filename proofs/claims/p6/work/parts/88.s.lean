theorem BR_shift {f g : Nat → Int32} : ∀ {k i i' : Nat} {l m : List Bool}, (∀ x, x < k → g (i' + x) = f (i + x)) → BR f i k l m → BR g i' k l m := by
  intro k
  induction k with
  | zero => intro i i' l m _ h; exact h
  | succ k ih =>
    intro i i' l m he h
    obtain ⟨y, a, b, c, d⟩ := h
    have e : g i' = f i := he 0 (by omega)
    refine ⟨y, by rw [e]; exact a, b, by rw [e]; exact c, ih (fun x hx => ?_) d⟩
    have := he (x + 1) (by omega)
    rw [show i' + 1 + x = i' + (x + 1) by omega, show i + 1 + x = i + (x + 1) by omega]
    exact this
theorem mul_lt6 {n f : Nat} (hf : f < 6) : n * f + n ≤ n * 6 := by
  have : n * (f + 1) ≤ n * 6 := Nat.mul_le_mul_left n (by omega)
  rw [Nat.mul_add, Nat.mul_one] at this
  exact this
theorem mul_ap {n f g : Nat} (h : f < g) : n * f + n ≤ n * g := by
  have : n * (f + 1) ≤ n * g := Nat.mul_le_mul_left n (by omega)
  rw [Nat.mul_add, Nat.mul_one] at this
  exact this
theorem sp_X8_moves {rl n f g : Nat} {r : Nat → Int32} {Φ : (Nat → Int32) → Prop} (hr : n * 6 ≤ rl) (hrl : rl ≤ 6000) (hf : f < 6) (hg : g < 6) (hne : ¬ f = g) (hΦ : ∀ r' : Nat → Int32, (∀ k, k < n → r' (n * g + k) = r (n * f + k)) → (∀ j, (j < n * g ∨ n * g + n ≤ j) → r' j = r j) → Φ r') : wp_X8_moves rl (nI n) (nI f) (nI g) r Φ := by
  have bf := mul_lt6 (n := n) hf
  have bg := mul_lt6 (n := n) hg
  have key : ∀ m k (r' : Nat → Int32), m = n - k → k ≤ n → (∀ j, j < k → r' (n * g + j) = r (n * f + j)) → (∀ j, (j < n * g ∨ n * g + k ≤ j) → r' j = r j) → lf_X8_moves_3 rl (nI n) (nI f) (nI g) Φ (m + 1) r' (nI k) := by
    intro m
    induction m with
    | zero =>
      intro k r' hm hk h1 h2
      show lb_X8_moves_3 _ _ _ _ _ _ _ _
      unfold lb_X8_moves_3
      have e : k = n := by omega
      subst e
      exact ⟨fun _ => hΦ r' h1 h2, fun z => absurd (nI_le (Nat.le_refl _) (by omega)) z⟩
    | succ m ih =>
      intro k r' hm hk h1 h2
      show lb_X8_moves_3 _ _ _ _ _ _ _ _
      unfold lb_X8_moves_3
      have hkn : k < n := by omega
      rw [pk_mul, pk_mul, nI_add, nI_add, nI_clamp (by omega), nI_clamp (by omega), nI_1]
      refine ⟨fun z => absurd z (nI_ge hkn (by omega)), fun _ => ⟨pk_in (n * f + k) rl (by omega) rfl (by omega), pk_in (n * g + k) rl (by omega) rfl (by omega), ?_⟩⟩
      have e0 : r' (n * f + k) = r (n * f + k) := by
        apply h2
        rcases Nat.lt_or_gt_of_ne hne with hl | hl
        · have := mul_ap (n := n) hl; omega
        · have := mul_ap (n := n) hl; omega
      refine ih (k + 1) _ (by omega) (by omega) (fun j hj => ?_) (fun j hj => ?_)
      · by_cases ej : j = k
        · subst ej; rw [pk_us]; exact e0
        · rw [pk_un (by omega)]; exact h1 j (by omega)
      · rw [pk_un (by omega)]; exact h2 j (by omega)
  refine ⟨n - 0 + 1, ?_⟩
  exact key (n - 0) 0 r rfl (Nat.zero_le _) (fun j hj => absurd hj (Nat.not_lt_zero _)) (fun _ _ => rfl)
theorem sh_eq {a f g : Nat} (h : 1000 * f ≤ a) : nI a + 1000 * (nI g - nI f) = nI (a - 1000 * f + 1000 * g) := by
  have e : nI a = nI (a - 1000 * f) + 1000 * nI f := by
    rw [show (1000 : Int32) = nI 1000 from rfl, pk_mul, nI_add]
    congr 1
    omega
  have e2 : nI (a - 1000 * f + 1000 * g) = nI (a - 1000 * f) + 1000 * nI g := by
    rw [show (1000 : Int32) = nI 1000 from rfl, pk_mul, nI_add]
  rw [e, e2, Int32.mul_sub, Int32.add_assoc, Int32.add_comm (1000 * nI f), Int32.sub_add_cancel]
section LY
variable {f g cap : Nat} {st ce ip ln be co ca ic le mo ta ac ls tw lf lt cd : Nat → Int32}
abbrev PY : Type := (Nat → Int32) → (Nat → Int32) → (Nat → Int32) → (Nat → Int32) → (Nat → Int32) → (Nat → Int32) → (Nat → Int32) → (Nat → Int32) → (Nat → Int32) → (Nat → Int32) → (Nat → Int32) → (Nat → Int32) → (Nat → Int32) → (Nat → Int32) → (Nat → Int32) → (Nat → Int32) → (Nat → Int32) → Prop
variable {Φ : PY}
/-- lays: the programme at g is that at f; all others stay -/
theorem sp_X8_lays (hf : f < 6) (hg : g < 6) (hne : ¬ f = g) (hcap : cap ≤ 1000 * f + 1000) (hG : GP f cap st ce ip ln le mo ta ac ls lf lt cd) (hΦ : ∀ st' ce' ip' ln' be' co' ca' ic' le' mo' ta' ac' ls' tw' lf' lt' cd', GP g (1000 * g + 1000) st' ce' ip' ln' le' mo' ta' ac' ls' lf' lt' cd' → (∀ p c', p < 6 → ¬ p = g → c' ≤ 1000 * p + 1000 → GP p c' st ce ip ln le mo ta ac ls lf lt cd → GP p c' st' ce' ip' ln' le' mo' ta' ac' ls' lf' lt' cd') → st' g = st f ∧ ce' g = ce f ∧ ip' g = ip f ∧ ln' g = ln f → (∀ p, ¬ p = g → p < 6 → ln' p = ln p) → (CO co → CO co') → Φ st' ce' ip' ln' be' co' ca' ic' le' mo' ta' ac' ls' tw' lf' lt' cd') : wp_X8_lays (nI f) (nI g) st ce ip ln be co ca ic le mo ta ac ls tw lf lt cd Φ := by
  unfold wp_X8_lays
  refine sp_X8_moves (n := 1) (by decide) (by decide) hf hg hne (fun st' s1 s2 => ?_)
  refine sp_X8_moves (n := 1) (by decide) (by decide) hf hg hne (fun ce' c1 c2 => ?_)
  refine sp_X8_moves (n := 1) (by decide) (by decide) hf hg hne (fun ip' i1 i2 => ?_)
  refine sp_X8_moves (n := 1) (by decide) (by decide) hf hg hne (fun ln' n1 n2 => ?_)
  refine sp_X8_moves (n := 4) (by decide) (by decide) hf hg hne (fun be' _ _ => ?_)
  refine sp_X8_moves (n := 4) (by decide) (by decide) hf hg hne (fun co' o1 o2 => ?_)
  refine sp_X8_moves (n := 6) (by decide) (by decide) hf hg hne (fun ca' _ _ => ?_)
  refine sp_X8_moves (n := 2) (by decide) (by decide) hf hg hne (fun ic' _ _ => ?_)
  refine sp_X8_moves (n := 2) (by decide) (by decide) hf hg hne (fun le' l1 l2 => ?_)
  refine sp_X8_moves (n := 2) (by decide) (by decide) hf hg hne (fun mo' m1 m2 => ?_)
  refine sp_X8_moves (n := 16) (by decide) (by decide) hf hg hne (fun ta' t1 t2 => ?_)
  refine sp_X8_moves (n := 16) (by decide) (by decide) hf hg hne (fun ac' a1 a2 => ?_)
  refine sp_X8_moves (n := 16) (by decide) (by decide) hf hg hne (fun ls' u1 u2 => ?_)
  refine sp_X8_moves (n := 16) (by decide) (by decide) hf hg hne (fun tw' _ _ => ?_)
  refine sp_X8_moves (n := 1000) (by decide) (by decide) hf hg hne (fun cd' d1 d2 => ?_)
  have fin : ∀ lf' lt' : Nat → Int32, (∀ k, k < 32 → lf' (32 * g + k) = lf (32 * f + k) + 1000 * (nI g - nI f) ∧ lt' (32 * g + k) = lt (32 * f + k) + 1000 * (nI g - nI f)) → (∀ j, (j < 32 * g ∨ 32 * g + 32 ≤ j) → lf' j = lf j ∧ lt' j = lt j) → Φ st' ce' ip' ln' be' co' ca' ic' le' mo' ta' ac' ls' tw' lf' lt' cd' := by
    intro lf' lt' k1 k2
    have es : st' g = st f := by have := s1 0 (by decide); simpa using this
    have ec : ce' g = ce f := by have := c1 0 (by decide); simpa using this
    have ei : ip' g = ip f := by have := i1 0 (by decide); simpa using this
    have en : ln' g = ln f := by have := n1 0 (by decide); simpa using this
    refine hΦ st' ce' ip' ln' be' co' ca' ic' le' mo' ta' ac' ls' tw' lf' lt' cd' ?_ ?_ ⟨es, ec, ei, en⟩ (fun p hp _ => n2 p (by omega)) (fun hC j => by
      by_cases e : j < 4 * g ∨ 4 * g + 4 ≤ j
      · rw [o2 j e]; exact hC j
      · have := o1 (j - 4 * g) (by omega)
        rw [show 4 * g + (j - 4 * g) = j by omega] at this
        rw [this]; exact hC _)
    · obtain ⟨⟨s, x1, x2⟩, ⟨k, y1, y2⟩, ⟨i, z1, z2, z3⟩, ⟨l, w1, w2, w3⟩⟩ := hG
      refine ⟨⟨s, x1, by rw [es]; exact x2⟩, ⟨k, y1, by rw [ec]; exact y2⟩, ⟨i, z1, by rw [ei]; exact z2, fun j hj => ?_⟩, ⟨l, w1, by rw [en]; exact w2, fun j hj => ?_⟩⟩
      · obtain ⟨a, m, b1, b2, b3⟩ := z3 j hj
        exact ⟨a, m, by rw [l1 j (by omega)]; exact b1, by rw [m1 j (by omega)]; exact b2, b3⟩
      · obtain ⟨⟨x, v1, v2⟩, b1, b2⟩ := w3 j hj
        refine ⟨⟨x, v1, by rw [u1 j (by omega)]; exact v2⟩, ?_, fun w hw => ?_⟩
        · rw [t1 j (by omega), a1 j (by omega)]; exact b1
        · obtain ⟨p, q, L, p1, p2, p3, p4, p5, p6⟩ := b2 w hw
          have e1 := k1 (2 * j + w) (by omega)
          rw [show 32 * g + (2 * j + w) = 2 * (16 * g + j) + w by omega, show 32 * f + (2 * j + w) = 2 * (16 * f + j) + w by omega, p1, p2, sh_eq p3, sh_eq (by omega)] at e1
          refine ⟨p - 1000 * f + 1000 * g, q - 1000 * f + 1000 * g, L, e1.1, e1.2, by omega, by omega, by omega, ?_⟩
          rw [show q - 1000 * f + 1000 * g - (p - 1000 * f + 1000 * g) = q - p by omega]
          refine BR_shift (fun x hx => ?_) p6
          have e2 := d1 (p - 1000 * f + x) (by omega)
          rw [show 1000 * g + (p - 1000 * f + x) = p - 1000 * f + 1000 * g + x by omega, show 1000 * f + (p - 1000 * f + x) = p + x by omega] at e2
          exact e2
    · intro p c' hp hpg hc' h
      obtain ⟨⟨s, x1, x2⟩, ⟨k, y1, y2⟩, ⟨i, z1, z2, z3⟩, ⟨l, w1, w2, w3⟩⟩ := h
      refine ⟨⟨s, x1, by rw [s2 p (by omega)]; exact x2⟩, ⟨k, y1, by rw [c2 p (by omega)]; exact y2⟩, ⟨i, z1, by rw [i2 p (by omega)]; exact z2, fun j hj => ?_⟩, ⟨l, w1, by rw [n2 p (by omega)]; exact w2, fun j hj => ?_⟩⟩
      · obtain ⟨a, m, b1, b2, b3⟩ := z3 j hj
        exact ⟨a, m, by rw [l2 _ (by omega)]; exact b1, by rw [m2 _ (by omega)]; exact b2, b3⟩
      · obtain ⟨⟨x, v1, v2⟩, b1⟩ := w3 j hj
        exact ⟨⟨x, v1, by rw [u2 _ (by omega)]; exact v2⟩, LW_congr b1 (t2 _ (by omega)) (a2 _ (by omega)) (fun w hw => k2 _ (by omega)) (fun i h1 h2 => d2 i (by omega)) (Nat.le_refl _)⟩
  have key : ∀ m k (lf' lt' : Nat → Int32), m = 32 - k → k ≤ 32 → (∀ j, j < k → lf' (32 * g + j) = lf (32 * f + j) + 1000 * (nI g - nI f) ∧ lt' (32 * g + j) = lt (32 * f + j) + 1000 * (nI g - nI f)) → (∀ j, (j < 32 * g ∨ 32 * g + k ≤ j) → lf' j = lf j ∧ lt' j = lt j) → lf_X8_lays_159 (nI f) (nI g) Φ (m + 1) st' ce' ip' ln' be' co' ca' ic' le' mo' ta' ac' ls' tw' lf' lt' cd' (nI k) := by
    intro m
    induction m with
    | zero =>
      intro k lf' lt' hm hk h1 h2
      show lb_X8_lays_159 _ _ _ _ _ _ _ _ _ _ _ _ _ _ _ _ _ _ _ _ _ _
      unfold lb_X8_lays_159
      have e : k = 32 := by omega
      subst e
      exact ⟨fun _ => fin lf' lt' h1 h2, fun z => absurd (by decide) z⟩
    | succ m ih =>
      intro k lf' lt' hm hk h1 h2
      show lb_X8_lays_159 _ _ _ _ _ _ _ _ _ _ _ _ _ _ _ _ _ _ _ _ _ _
      unfold lb_X8_lays_159
      have m1' : (32 : Int32) * nI f = nI (32 * f) := pk_mul 32 f
      have m2' : (32 : Int32) * nI g = nI (32 * g) := pk_mul 32 g
      rw [m1', m2', nI_add, nI_add, nI_1, nI_clamp (n := 32 * f + k) (by omega), nI_clamp (n := 32 * g + k) (by omega)]
      have v1 : vp_in (nI (32 * f + k)) 192 := pk_in (32 * f + k) 192 (by omega)
      have v2 : vp_in (nI (32 * g + k)) 192 := pk_in (32 * g + k) 192 (by omega)
      refine ⟨fun z => absurd z (nI_ge (b := 32) (by omega) (by decide)), fun _ => ⟨v1, v2, v1, v2, ?_⟩⟩
      have e0 := h2 (32 * f + k) (by omega)
      refine ih (k + 1) _ _ (by omega) (by omega) (fun j hj => ?_) (fun j hj => ?_)
      · by_cases ej : j = k
        · subst ej; rw [pk_us, pk_us, e0.1, e0.2]; exact ⟨rfl, rfl⟩
        · rw [pk_un (by omega), pk_un (by omega)]; exact h1 j (by omega)
      · rw [pk_un (by omega), pk_un (by omega)]; exact h2 j (by omega)
  exact ⟨32 - 0 + 1, key (32 - 0) 0 lf lt rfl (by decide) (fun j hj => absurd hj (Nat.not_lt_zero _)) (fun _ _ => ⟨rfl, rfl⟩)⟩
end LY
