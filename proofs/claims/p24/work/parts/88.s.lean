section
theorem BR_shift {f g : Nat → Int32} : ∀ {k i i' : Nat} {l m : List Bool}, (∀ x, x < k → g (i' + x) = f (i + x)) → BR f i k l m → BR g i' k l m := by
  intro k
  induction k with
  | zero => intro i i' l m _ h; exact h
  | succ k ih =>
    intro i i' l m he h
    obtain ⟨y, a, b, c, d⟩ := h
    have e : g i' = f i := he 0 (by omega)
    refine ⟨y, by rw [e]; exact a, b, by rw [e]; exact c, ih (fun x hx => ?_) d⟩
    have := he (x + 1) (by omega)
    rw [show i' + 1 + x = i' + (x + 1) by omega, show i + 1 + x = i + (x + 1) by omega]
    exact this
theorem mul_lt6 {n f : Nat} (hf : f < 6) : n * f + n ≤ n * 6 := by
  have : n * (f + 1) ≤ n * 6 := Nat.mul_le_mul_left n (by omega)
  rw [Nat.mul_add, Nat.mul_one] at this
  exact this
theorem mul_ap {n f g : Nat} (h : f < g) : n * f + n ≤ n * g := by
  have : n * (f + 1) ≤ n * g := Nat.mul_le_mul_left n (by omega)
  rw [Nat.mul_add, Nat.mul_one] at this
  exact this
theorem sp_X8_moves {rl n f g : Nat} {r : Nat → Int32} {Φ : (Nat → Int32) → Prop} (hr : n * 6 ≤ rl) (hrl : rl ≤ 6000) (hf : f < 6) (hg : g < 6) (hne : ¬ f = g) (hΦ : ∀ r' : Nat → Int32, (∀ k, k < n → r' (n * g + k) = r (n * f + k)) → (∀ j, (j < n * g ∨ n * g + n ≤ j) → r' j = r j) → Φ r') : wp_X8_moves rl (nI n) (nI f) (nI g) r Φ := by
  have bf := mul_lt6 (n := n) hf
  have bg := mul_lt6 (n := n) hg
  have key : ∀ m k (r' : Nat → Int32), m = n - k → k ≤ n → (∀ j, j < k → r' (n * g + j) = r (n * f + j)) → (∀ j, (j < n * g ∨ n * g + k ≤ j) → r' j = r j) → lf_X8_moves_3 rl (nI n) (nI f) (nI g) Φ (m + 1) r' (nI k) := by
    intro m
    induction m with
    | zero =>
      intro k r' hm hk h1 h2
      show lb_X8_moves_3 _ _ _ _ _ _ _ _
      unfold lb_X8_moves_3
      have e : k = n := by omega
      subst e
      exact ⟨fun _ => hΦ r' h1 h2, fun z => absurd (nI_le (Nat.le_refl _) (by omega)) z⟩
    | succ m ih =>
      intro k r' hm hk h1 h2
      show lb_X8_moves_3 _ _ _ _ _ _ _ _
      unfold lb_X8_moves_3
      have hkn : k < n := by omega
      rw [pk_mul, pk_mul, nI_add, nI_add, nI_clamp (by omega), nI_clamp (by omega), nI_1]
      refine ⟨fun z => absurd z (nI_ge hkn (by omega)), fun _ => ⟨pk_in (n * f + k) rl (by omega) rfl (by omega), pk_in (n * g + k) rl (by omega) rfl (by omega), ?_⟩⟩
      have e0 : r' (n * f + k) = r (n * f + k) := by
        apply h2
        rcases Nat.lt_or_gt_of_ne hne with hl | hl
        · have := mul_ap (n := n) hl; omega
        · have := mul_ap (n := n) hl; omega
      refine ih (k + 1) _ (by omega) (by omega) (fun j hj => ?_) (fun j hj => ?_)
      · by_cases ej : j = k
        · subst ej; rw [pk_us]; exact e0
        · rw [pk_un (by omega)]; exact h1 j (by omega)
      · rw [pk_un (by omega)]; exact h2 j (by omega)
  refine ⟨n - 0 + 1, ?_⟩
  exact key (n - 0) 0 r rfl (Nat.zero_le _) (fun j hj => absurd hj (Nat.not_lt_zero _)) (fun _ _ => rfl)
theorem sh_eq {a f g : Nat} (h : 1000 * f ≤ a) : nI a + 1000 * (nI g - nI f) = nI (a - 1000 * f + 1000 * g) := by
  have e : nI a = nI (a - 1000 * f) + 1000 * nI f := by
    rw [show (1000 : Int32) = nI 1000 from rfl, pk_mul, nI_add]
    congr 1
    omega
  have e2 : nI (a - 1000 * f + 1000 * g) = nI (a - 1000 * f) + 1000 * nI g := by
    rw [show (1000 : Int32) = nI 1000 from rfl, pk_mul, nI_add]
  rw [e, e2, Int32.mul_sub, Int32.add_assoc, Int32.add_comm (1000 * nI f), Int32.sub_add_cancel]
section LY
variable {f g cap : Nat} {st ce ip ln be co ca ic le mo ta ac ls tw lf lt cd : Nat → Int32}
abbrev PY : Type := (Nat → Int32) → (Nat → Int32) → (Nat → Int32) → (Nat → Int32) → (Nat → Int32) → (Nat → Int32) → (Nat → Int32) → (Nat → Int32) → (Nat → Int32) → (Nat → Int32) → (Nat → Int32) → (Nat → Int32) → (Nat → Int32) → (Nat → Int32) → (Nat → Int32) → (Nat → Int32) → (Nat → Int32) → Prop
variable {Φ : PY}
/-- lays: the programme at g is that at f; all others stay -/
theorem sp_X8_lays (hf : f < 6) (hg : g < 6) (hne : ¬ f = g) (hcap : cap ≤ 1000 * f + 1000) (hG : GP f cap st ce ip ln le mo ta ac ls lf lt cd) (hΦ : ∀ st' ce' ip' ln' be' co' ca' ic' le' mo' ta' ac' ls' tw' lf' lt' cd', GP g (1000 * g + 1000) st' ce' ip' ln' le' mo' ta' ac' ls' lf' lt' cd' → (∀ p c', p < 6 → ¬ p = g → c' ≤ 1000 * p + 1000 → GP p c' st ce ip ln le mo ta ac ls lf lt cd → GP p c' st' ce' ip' ln' le' mo' ta' ac' ls' lf' lt' cd') → st' g = st f ∧ ce' g = ce f ∧ ip' g = ip f ∧ ln' g = ln f → (∀ p, ¬ p = g → p < 6 → ln' p = ln p) → (CO co → CO co') → Φ st' ce' ip' ln' be' co' ca' ic' le' mo' ta' ac' ls' tw' lf' lt' cd') : wp_X8_lays (nI f) (nI g) st ce ip ln be co ca ic le mo ta ac ls tw lf lt cd Φ := by
  unfold wp_X8_lays
  refine sp_X8_moves (n := 1) (by decide) (by decide) hf hg hne (fun st' s1 s2 => ?_)
  refine sp_X8_moves (n := 1) (by decide) (by decide) hf hg hne (fun ce' c1 c2 => ?_)
  refine sp_X8_moves (n := 1) (by decide) (by decide) hf hg hne (fun ip' i1 i2 => ?_)
  refine sp_X8_moves (n := 1) (by decide) (by decide) hf hg hne (fun ln' n1 n2 => ?_)
  refine sp_X8_moves (n := 4) (by decide) (by decide) hf hg hne (fun be' _ _ => ?_)
  refine sp_X8_moves (n := 4) (by decide) (by decide) hf hg hne (fun co' o1 o2 => ?_)
  refine sp_X8_moves (n := 6) (by decide) (by decide) hf hg hne (fun ca' _ _ => ?_)
  refine sp_X8_moves (n := 2) (by decide) (by decide) hf hg hne (fun ic' _ _ => ?_)
  refine sp_X8_moves (n := 2) (by decide) (by decide) hf hg hne (fun le' l1 l2 => ?_)
  refine sp_X8_moves (n := 2) (by decide) (by decide) hf hg hne (fun mo' m1 m2 => ?_)
  refine sp_X8_moves (n := 16) (by decide) (by decide) hf hg hne (fun ta' t1 t2 => ?_)
  refine sp_X8_moves (n := 16) (by decide) (by decide) hf hg hne (fun ac' a1 a2 => ?_)
  refine sp_X8_moves (n := 16) (by decide) (by decide) hf hg hne (fun ls' u1 u2 => ?_)
  refine sp_X8_moves (n := 16) (by decide) (by decide) hf hg hne (fun tw' _ _ => ?_)
  refine sp_X8_moves (n := 1000) (by decide) (by decide) hf hg hne (fun cd' d1 d2 => ?_)
  have fin : ∀ lf' lt' : Nat → Int32, (∀ k, k < 32 → lf' (32 * g + k) = lf (32 * f + k) + 1000 * (nI g - nI f) ∧ lt' (32 * g + k) = lt (32 * f + k) + 1000 * (nI g - nI f)) → (∀ j, (j < 32 * g ∨ 32 * g + 32 ≤ j) → lf' j = lf j ∧ lt' j = lt j) → Φ st' ce' ip' ln' be' co' ca' ic' le' mo' ta' ac' ls' tw' lf' lt' cd' := by
    intro lf' lt' k1 k2
    have es : st' g = st f := by have := s1 0 (by decide); simpa using this
    have ec : ce' g = ce f := by have := c1 0 (by decide); simpa using this
    have ei : ip' g = ip f := by have := i1 0 (by decide); simpa using this
    have en : ln' g = ln f := by have := n1 0 (by decide); simpa using this
    refine hΦ st' ce' ip' ln' be' co' ca' ic' le' mo' ta' ac' ls' tw' lf' lt' cd' ?_ ?_ ⟨es, ec, ei, en⟩ (fun p hp _ => n2 p (by omega)) (fun hC j => by
      by_cases e : j < 4 * g ∨ 4 * g + 4 ≤ j
      · rw [o2 j e]; exact hC j
      · have := o1 (j - 4 * g) (by omega)
        rw [show 4 * g + (j - 4 * g) = j by omega] at this
        rw [this]; exact hC _)
    · obtain ⟨⟨s, x1, x2⟩, ⟨k, y1, y2⟩, ⟨i, z1, z2, z3⟩, ⟨l, w1, w2, w3⟩⟩ := hG
      refine ⟨⟨s, x1, by rw [es]; exact x2⟩, ⟨k, y1, by rw [ec]; exact y2⟩, ⟨i, z1, by rw [ei]; exact z2, fun j hj => ?_⟩, ⟨l, w1, by rw [en]; exact w2, fun j hj => ?_⟩⟩
      · obtain ⟨a, m, b1, b2, b3⟩ := z3 j hj
        exact ⟨a, m, by rw [l1 j (by omega)]; exact b1, by rw [m1 j (by omega)]; exact b2, b3⟩
      · obtain ⟨⟨x, v1, v2⟩, b1, b2⟩ := w3 j hj
        refine ⟨⟨x, v1, by rw [u1 j (by omega)]; exact v2⟩, ?_, fun w hw => ?_⟩
        · rw [t1 j (by omega), a1 j (by omega)]; exact b1
        · obtain ⟨p, q, L, p1, p2, p3, p4, p5, p6⟩ := b2 w hw
          have e1 := k1 (2 * j + w) (by omega)
          rw [show 32 * g + (2 * j + w) = 2 * (16 * g + j) + w by omega, show 32 * f + (2 * j + w) = 2 * (16 * f + j) + w by omega, p1, p2, sh_eq p3, sh_eq (by omega)] at e1
          refine ⟨p - 1000 * f + 1000 * g, q - 1000 * f + 1000 * g, L, e1.1, e1.2, by omega, by omega, by omega, ?_⟩
          rw [show q - 1000 * f + 1000 * g - (p - 1000 * f + 1000 * g) = q - p by omega]
          refine BR_shift (fun x hx => ?_) p6
          have e2 := d1 (p - 1000 * f + x) (by omega)
          rw [show 1000 * g + (p - 1000 * f + x) = p - 1000 * f + 1000 * g + x by omega, show 1000 * f + (p - 1000 * f + x) = p + x by omega] at e2
          exact e2
    · intro p c' hp hpg hc' h
      obtain ⟨⟨s, x1, x2⟩, ⟨k, y1, y2⟩, ⟨i, z1, z2, z3⟩, ⟨l, w1, w2, w3⟩⟩ := h
      refine ⟨⟨s, x1, by rw [s2 p (by omega)]; exact x2⟩, ⟨k, y1, by rw [c2 p (by omega)]; exact y2⟩, ⟨i, z1, by rw [i2 p (by omega)]; exact z2, fun j hj => ?_⟩, ⟨l, w1, by rw [n2 p (by omega)]; exact w2, fun j hj => ?_⟩⟩
      · obtain ⟨a, m, b1, b2, b3⟩ := z3 j hj
        exact ⟨a, m, by rw [l2 _ (by omega)]; exact b1, by rw [m2 _ (by omega)]; exact b2, b3⟩
      · obtain ⟨⟨x, v1, v2⟩, b1⟩ := w3 j hj
        exact ⟨⟨x, v1, by rw [u2 _ (by omega)]; exact v2⟩, LW_congr b1 (t2 _ (by omega)) (a2 _ (by omega)) (fun w hw => k2 _ (by omega)) (fun i h1 h2 => d2 i (by omega)) (Nat.le_refl _)⟩
  have key : ∀ m k (lf' lt' : Nat → Int32), m = 32 - k → k ≤ 32 → (∀ j, j < k → lf' (32 * g + j) = lf (32 * f + j) + 1000 * (nI g - nI f) ∧ lt' (32 * g + j) = lt (32 * f + j) + 1000 * (nI g - nI f)) → (∀ j, (j < 32 * g ∨ 32 * g + k ≤ j) → lf' j = lf j ∧ lt' j = lt j) → lf_X8_lays_159 (nI f) (nI g) Φ (m + 1) st' ce' ip' ln' be' co' ca' ic' le' mo' ta' ac' ls' tw' lf' lt' cd' (nI k) := by
    intro m
    induction m with
    | zero =>
      intro k lf' lt' hm hk h1 h2
      show lb_X8_lays_159 _ _ _ _ _ _ _ _ _ _ _ _ _ _ _ _ _ _ _ _ _ _
      unfold lb_X8_lays_159
      have e : k = 32 := by omega
      subst e
      exact ⟨fun _ => fin lf' lt' h1 h2, fun z => absurd (by decide) z⟩
    | succ m ih =>
      intro k lf' lt' hm hk h1 h2
      show lb_X8_lays_159 _ _ _ _ _ _ _ _ _ _ _ _ _ _ _ _ _ _ _ _ _ _
      unfold lb_X8_lays_159
      have m1' : (32 : Int32) * nI f = nI (32 * f) := pk_mul 32 f
      have m2' : (32 : Int32) * nI g = nI (32 * g) := pk_mul 32 g
      rw [m1', m2', nI_add, nI_add, nI_1, nI_clamp (n := 32 * f + k) (by omega), nI_clamp (n := 32 * g + k) (by omega)]
      have v1 : vp_in (nI (32 * f + k)) 192 := pk_in (32 * f + k) 192 (by omega)
      have v2 : vp_in (nI (32 * g + k)) 192 := pk_in (32 * g + k) 192 (by omega)
      refine ⟨fun z => absurd z (nI_ge (b := 32) (by omega) (by decide)), fun _ => ⟨v1, v2, v1, v2, ?_⟩⟩
      have e0 := h2 (32 * f + k) (by omega)
      refine ih (k + 1) _ _ (by omega) (by omega) (fun j hj => ?_) (fun j hj => ?_)
      · by_cases ej : j = k
        · subst ej; rw [pk_us, pk_us, e0.1, e0.2]; exact ⟨rfl, rfl⟩
        · rw [pk_un (by omega), pk_un (by omega)]; exact h1 j (by omega)
      · rw [pk_un (by omega), pk_un (by omega)]; exact h2 j (by omega)
  exact ⟨32 - 0 + 1, key (32 - 0) 0 lf lt rfl (by decide) (fun j hj => absurd hj (Nat.not_lt_zero _)) (fun _ _ => ⟨rfl, rfl⟩)⟩
end LY
end
section
/-- the reference's programmes, but for the one that is being read -/
def GM (st ce ip ln le mo ta ac ls lf lt cd : Nat → Int32) : Prop := ∀ p, p < 6 → ¬ p = 1 → GP p (1000 * p + 1000) st ce ip ln le mo ta ac ls lf lt cd
theorem GA.gm {c : Nat} {st ce ip ln le mo ta ac ls lf lt cd : Nat → Int32} (h : GA c st ce ip ln le mo ta ac ls lf lt cd) : GM st ce ip ln le mo ta ac ls lf lt cd := by
  intro p hp h1
  have := h p hp
  rw [cpn h1] at this
  exact this
theorem GM.start {st ce ip ln le mo ta ac ls lf lt cd : Nat → Int32} (h : GM st ce ip ln le mo ta ac ls lf lt cd) : GA 1000 (upd st 1 0) (upd ce 1 0) (upd ip 1 0) (upd ln 1 0) le mo ta ac ls lf lt cd := by
  intro p hp
  by_cases e : p = 1
  · subst e
    exact ⟨⟨0, by decide, pk_us⟩, ⟨0, by decide, pk_us⟩, ⟨0, by decide, pk_us, fun j hj => absurd hj (Nat.not_lt_zero _)⟩, ⟨0, by decide, pk_us, fun j hj => absurd hj (Nat.not_lt_zero _)⟩⟩
  · rw [cpn e]
    obtain ⟨⟨s, a1, a2⟩, ⟨k, b1, b2⟩, ⟨i, c1, c2, c3⟩, ⟨l, d1, d2, d3⟩⟩ := h p hp e
    exact ⟨⟨s, a1, by rw [pk_un e]; exact a2⟩, ⟨k, b1, by rw [pk_un e]; exact b2⟩, ⟨i, c1, by rw [pk_un e]; exact c2, c3⟩, ⟨l, d1, by rw [pk_un e]; exact d2, d3⟩⟩
abbrev PR : Type := Int32 → Int32 → Int32 → Int32 → Int32 → Int32 → Int64 → Int32 → Int32 → Int32 → (Nat → Int32) → (Nat → Int32) → (Nat → Int32) → (Nat → Int32) → (Nat → Int64) → (Nat → Int64) → (Nat → Int32) → (Nat → Int32) → (Nat → Int32) → (Nat → Int32) → (Nat → Int32) → (Nat → Int32) → (Nat → Int32) → (Nat → Int32) → (Nat → Int32) → (Nat → Int32) → (Nat → Int32) → (Nat → Int32) → (Nat → Int32) → (Nat → Int32) → (Nat → Int32) → Prop
section RAL
variable {t : Nat → Int32} {n : Nat} {Φ : PR}
theorem sp_X8_readsAll {F1 F2 F3 F4 : Int32} {F5 : Int64} {F6 F7 F8 : Int32} {st ce ip ln be co ca ic le mo ta ac ls tw lf lt cd op cm : Nat → Int32} {sn cn : Nat → Int64} (hn : n ≤ 1000) (hG : GM st ce ip ln le mo ta ac ls lf lt cd)
    (hΦ : ∀ r q' b' T' w' td' wr' (c' : Nat) st' ce' ip' ln' sn' cn' be' co' ca' ic' le' mo' ta' ac' ls' tw' lf' lt' cd' op' cm', (r = 0 ∨ r = 1) → c' ≤ 2000 → GA c' st' ce' ip' ln' le' mo' ta' ac' ls' lf' lt' cd' → (∀ p, ¬ p = 1 → ln' p = ln p) → (CO co → CO co') → Φ r 0 (nI n) q' b' T' w' td' wr' (nI c') st' ce' ip' ln' sn' cn' be' co' ca' ic' le' mo' ta' ac' ls' tw' lf' lt' cd' op' cm') : wp_X8_readsAll t (nI n) F1 F2 F3 F4 F5 F6 F7 F8 st ce ip ln sn cn be co ca ic le mo ta ac ls tw lf lt cd op cm Φ := by
  unfold wp_X8_readsAll
  obtain ⟨ln0, hl0⟩ : ∃ x, ln = x := ⟨ln, rfl⟩
  rw [hl0] at hΦ
  obtain ⟨co0, hco0⟩ : ∃ x, co = x := ⟨co, rfl⟩
  rw [hco0] at hΦ
  have key : ∀ (m b q : Nat) (T : Int32) (w : Int64) (td wr : Int32) (c : Nat) (st ce ip ln : Nat → Int32) (sn cn : Nat → Int64) (be co ca ic le mo ta ac ls tw lf lt cd op cm : Nat → Int32), RS n b q T td → 1000 ≤ c → c ≤ 1000 + b → GA c st ce ip ln le mo ta ac ls lf lt cd → (∀ p, ¬ p = 1 → ln p = ln0 p) → (CO co0 → CO co) → n - b < m → lf_X8_readsAll_57 t Φ m 0 (nI n) (nI q) (nI b) T w td wr (nI c) st ce ip ln sn cn be co ca ic le mo ta ac ls tw lf lt cd op cm := by
    intro m
    induction m with
    | zero => intro b q T w td wr c st ce ip ln sn cn be co ca ic le mo ta ac ls tw lf lt cd op cm _ _ _ _ _ _ h; exact absurd h (Nat.not_lt_zero _)
    | succ m ih =>
      intro b q T w td wr c st ce ip ln sn cn be co ca ic le mo ta ac ls tw lf lt cd op cm h hc hc2 hG hln hco hm
      show lb_X8_readsAll_57 _ _ _ _ _ _ _ _ _ _ _ _ _ _ _ _ _ _ _ _ _ _ _ _ _ _ _ _ _ _ _ _ _
      unfold lb_X8_readsAll_57
      have hqn := h.2.2.1
      have hbq := h.2.1
      refine ⟨fun _ => hΦ 1 _ _ _ _ _ _ c st ce ip ln sn cn be co ca ic le mo ta ac ls tw lf lt cd op cm (Or.inr rfl) (by omega) hG hln hco, fun hT => ?_⟩
      have hlt := h.lt hT
      have hg1 := hG 1 (by decide)
      obtain ⟨⟨s, s4, hs⟩, ⟨k, k6, hk⟩, ⟨i, i2, hi, -⟩, ⟨l, l6, hl, -⟩⟩ := hg1
      refine sp_X8_isWord (fun _ _ => ⟨fun z => absurd z (by decide), fun _ => ?_⟩) (fun _ => ⟨fun _ => ?_, fun z => absurd rfl z⟩)
      · refine sp_X8_readsStuff h hs s4 hk k6 (fun r b' q' T' w' td' wr' st' sn' be' co' hR hb hr hr1 hx hcx => ?_)
        have hG' : GA c st' ce ip ln le mo ta ac ls lf lt cd := by
          rcases hx with hx | ⟨s', e1, e2⟩
          · rw [hx]; exact hG
          · rw [e2]; exact hG.upSt e1
        have := hR.2.2.1
        have := hR.2.1
        refine ⟨fun hr0 => ?_, fun _ => hΦ 0 _ _ _ _ _ _ c st' ce ip ln sn' cn be' co' ca ic le mo ta ac ls tw lf lt cd op cm (Or.inl rfl) (by omega) hG' hln (fun z => hcx (hco z))⟩
        have := hr1 (hr.resolve_left hr0)
        exact ih b' q' T' w' td' wr' c st' ce ip ln sn' cn be' co' ca ic le mo ta ac ls tw lf lt cd op cm hR hc (by omega) hG' hln (fun z => hcx (hco z)) (by omega)
      refine sp_X8_isWord (fun _ _ => ⟨fun z => absurd z (by decide), fun _ => ?_⟩) (fun _ => ⟨fun _ => ?_, fun z => absurd rfl z⟩)
      · refine sp_X8_readsCell h hs s4 hk k6 (fun r b' q' T' w' td' wr' ce' cn' ca' hR hb hr hr1 hx => ?_)
        have hG' : GA c st ce' ip ln le mo ta ac ls lf lt cd := by
          rcases hx with hx | ⟨s', e1, e2⟩
          · rw [hx]; exact hG
          · rw [e2]; exact hG.upCe e1
        have := hR.2.2.1
        have := hR.2.1
        refine ⟨fun hr0 => ?_, fun _ => hΦ 0 _ _ _ _ _ _ c st ce' ip ln sn cn' be co ca' ic le mo ta ac ls tw lf lt cd op cm (Or.inl rfl) (by omega) hG' hln hco⟩
        have := hr1 (hr.resolve_left hr0)
        exact ih b' q' T' w' td' wr' c st ce' ip ln sn cn' be co ca' ic le mo ta ac ls tw lf lt cd op cm hR hc (by omega) hG' hln hco (by omega)
      refine sp_X8_isWord (fun _ _ => ⟨fun z => absurd z (by decide), fun _ => ?_⟩) (fun _ => ⟨fun _ => ?_, fun z => absurd rfl z⟩)
      · refine sp_X8_readsInput h hi i2 hk k6 (fun r b' q' T' w' td' wr' ip' ic' le' mo' hR hb hr hr1 hf hx hi3 => ?_)
        have hG' : GA c st ce ip' ln le' mo' ta ac ls lf lt cd := hG.upIp hi i2 hf hx hi3
        have := hR.2.2.1
        have := hR.2.1
        refine ⟨fun hr0 => ?_, fun _ => hΦ 0 _ _ _ _ _ _ c st ce ip' ln sn cn be co ca ic' le' mo' ta ac ls tw lf lt cd op cm (Or.inl rfl) (by omega) hG' hln hco⟩
        have := hr1 (hr.resolve_left hr0)
        exact ih b' q' T' w' td' wr' c st ce ip' ln sn cn be co ca ic' le' mo' ta ac ls tw lf lt cd op cm hR hc (by omega) hG' hln hco (by omega)
      refine sp_X8_isWord (fun _ _ => ⟨fun z => absurd z (by decide), fun _ => ?_⟩) (fun _ => ⟨fun _ => ?_, fun z => absurd rfl z⟩)
      · refine sp_X8_readsLine h hc hc2 hG hs s4 hk k6 hl l6 (fun r b' q' T' w' td' wr' c' ln' ta' ac' ls' tw' lf' lt' cd' op' cm' hR hb hr hr1 hc' hc2' hG' hln' => ?_)
        have := hR.2.2.1
        have := hR.2.1
        refine ⟨fun hr0 => ?_, fun _ => hΦ 0 _ _ _ _ _ _ c' st ce ip ln' sn cn be co ca ic le mo ta' ac' ls' tw' lf' lt' cd' op' cm' (Or.inl rfl) (by omega) hG' (fun p hp => by rw [hln' p hp, hln p hp]) hco⟩
        have := hr1 (hr.resolve_left hr0)
        exact ih b' q' T' w' td' wr' c' st ce ip ln' sn cn be co ca ic le mo ta' ac' ls' tw' lf' lt' cd' op' cm' hR hc' hc2' hG' (fun p hp => by rw [hln' p hp, hln p hp]) hco (by omega)
      · exact sp_X8_fails ⟨fun z => absurd rfl z, fun _ => hΦ 0 _ _ _ _ _ _ c st ce ip ln sn cn be co ca ic le mo ta ac ls tw lf lt cd op cm (Or.inl rfl) (by omega) hG hln hco⟩
  refine sp_X8_nextToken (p := 0) hn (Nat.zero_le _) (fun b q tk w td hN => ⟨n - b + 1, ?_⟩)
  refine key (n - b + 1) b q tk w td _ 1000 _ _ _ _ _ _ _ _ _ _ _ _ _ _ _ _ _ _ _ _ _ ⟨hn, hN.2.1, hN.2.2.1, ?_, hN.2.2.2.2⟩ (Nat.le_refl _) (by omega) hG.start (fun p hp => by rw [pk_un hp, hl0]) (fun z => by rw [hco0]; exact z) (Nat.lt_succ_self _)
  rcases hN.2.2.2.1 with e | e
  · exact Or.inl e
  · exact Or.inr ⟨e.1, by rcases e.2 with e | e | e | e <;> rw [e] <;> decide⟩
end RAL
end
section
abbrev PP_ : Type := Int32 → Int32 → Int32 → Int32 → Int32 → Int32 → Int32 → Int64 → Int32 → Int32 → Int32 → Int32 → (Nat → Int32) → (Nat → Int32) → (Nat → Int32) → (Nat → Int32) → (Nat → Int64) → (Nat → Int64) → (Nat → Int32) → (Nat → Int32) → (Nat → Int32) → (Nat → Int32) → (Nat → Int32) → (Nat → Int32) → (Nat → Int32) → (Nat → Int32) → (Nat → Int32) → (Nat → Int32) → (Nat → Int32) → (Nat → Int32) → (Nat → Int32) → (Nat → Int32) → (Nat → Int32) → (Nat → Int32) → Prop
theorem sp_X8_programme {t : Nat → Int32} {n : Nat} {Φ : PP_} {F0 F1 F2 F3 F4 : Int32} {F5 : Int64} {F6 F7 F8 sta : Int32} {st ce ip ln be co ca ic le mo ta ac ls tw lf lt cd op cm wo : Nat → Int32} {sn cn : Nat → Int64} (hn : n ≤ 1000) (hG : GM st ce ip ln le mo ta ac ls lf lt cd)
    (hΦ : ∀ r q' b' T' w' td' wr' c' sta' st' ce' ip' ln' sn' cn' be' co' ca' ic' le' mo' ta' ac' ls' tw' lf' lt' cd' op' cm' wo', GM st' ce' ip' ln' le' mo' ta' ac' ls' lf' lt' cd' → ((sta' = 0 ∧ ∀ p, ¬ p = 0 → ¬ p = 1 → p < 6 → ln' p = ln p) ∨ (sta' = sta ∧ ∀ p, ¬ p = 1 → ln' p = ln p)) → (CO co → CO co') → Φ r 0 0 (nI n) q' b' T' w' td' wr' c' sta' st' ce' ip' ln' sn' cn' be' co' ca' ic' le' mo' ta' ac' ls' tw' lf' lt' cd' op' cm' wo') : wp_X8_programme t F0 (nI n) F1 F2 F3 F4 F5 F6 F7 F8 sta st ce ip ln sn cn be co ca ic le mo ta ac ls tw lf lt cd op cm wo Φ := by
  unfold wp_X8_programme
  refine sp_X8_readsAll hn hG (fun r q' b' T' w' td' wr' c' st' ce' ip' ln' sn' cn' be' co' ca' ic' le' mo' ta' ac' ls' tw' lf' lt' cd' op' cm' hr hc' hG' hln hco => ⟨fun _ => ?_, fun _ => hΦ _ _ _ _ _ _ _ _ _ _ _ _ _ _ _ _ _ _ _ _ _ _ _ _ _ _ _ _ _ _ _ hG'.gm (Or.inr ⟨rfl, hln⟩) hco⟩)
  have hg1 := hG' 1 (by decide)
  rw [cp1] at hg1
  refine sp_X8_lays (f := 1) (g := 0) (cap := c') (by decide) (by decide) (by decide) (by omega) hg1 (fun st2 ce2 ip2 ln2 be2 co2 ca2 ic2 le2 mo2 ta2 ac2 ls2 tw2 lf2 lt2 cd2 h0 hp _ hfr hc2 => ?_)
  have hGM : GM st2 ce2 ip2 ln2 le2 mo2 ta2 ac2 ls2 lf2 lt2 cd2 := by
    intro p hp6 hp1
    by_cases e : p = 0
    · subst e; exact h0
    · exact hp p _ hp6 e (Nat.le_refl _) (hG'.gm p hp6 hp1)
  have hl2 : ∀ p, ¬ p = 0 → ¬ p = 1 → p < 6 → ln2 p = ln p := fun p a b d => (hfr p a d).trans (hln p b)
  have key : ∀ m k (wo' : Nat → Int32), m = 16 - k → k ≤ 16 → lf_X8_programme_30 t Φ (m + 1) 0 0 (nI n) q' b' T' w' td' wr' (nI c') 0 st2 ce2 ip2 ln2 sn' cn' be2 co2 ca2 ic2 le2 mo2 ta2 ac2 ls2 tw2 lf2 lt2 cd2 op' cm' wo' (nI k) := by
    intro m
    induction m with
    | zero =>
      intro k wo' hm hk
      have e : k = 16 := by omega
      subst e
      exact ⟨fun _ => hΦ _ _ _ _ _ _ _ _ _ _ _ _ _ _ _ _ _ _ _ _ _ _ _ _ _ _ _ _ _ _ _ hGM (Or.inl ⟨rfl, hl2⟩) (fun z => hc2 (hco z)), fun z => absurd (by decide) z⟩
    | succ m ih =>
      intro k wo' hm hk
      show lb_X8_programme_30 _ _ _ _ _ _ _ _ _ _ _ _ _ _ _ _ _ _ _ _ _ _ _ _ _ _ _ _ _ _ _ _ _ _ _ _ _
      unfold lb_X8_programme_30
      rw [nI_1]
      exact ⟨fun z => absurd z (nI_ge (b := 16) (by omega) (by decide)), fun _ => ⟨pk_in k 16 (by omega), ih (k + 1) _ (by omega) (by omega)⟩⟩
  exact ⟨16 - 0 + 1, key (16 - 0) 0 wo rfl (by decide)⟩
end
section
theorem rem_t (x y : Int32) (h : 0 < y.toInt) : (x - x / y * y).toInt = x.toInt.tmod y.toInt := by
  have hb : (x.toInt.tmod y.toInt).bmod (2 ^ 32) = x.toInt.tmod y.toInt := by
    have h1 : x.toInt.tmod y.toInt < y.toInt := Int.tmod_lt_of_pos _ h
    have h2 : -y.toInt < x.toInt.tmod y.toInt := Int.lt_tmod_of_pos x.toInt h
    have h3 := y.toInt_lt
    apply Int.bmod_eq_of_le <;> omega
  rw [Int32.toInt_sub, Int32.toInt_mul, Int32.toInt_div]
  rw [← hb, Int.tmod_def, Int.bmod_mul_bmod, Int.sub_bmod_bmod, Int.mul_comm]
def lnOf (v : Int32) (ln : Nat) : Nat := (v.toInt % (ln : Int)).toNat
theorem lnOf_lt (v : Int32) {ln : Nat} (h : 0 < ln) : lnOf v ln < ln := by
  unfold lnOf
  have h1 := Int.emod_nonneg v.toInt (b := (ln : Int)) (by omega)
  have h2 := Int.emod_lt_of_pos v.toInt (b := (ln : Int)) (by omega)
  omega
theorem lnOf_eq (v x : Int32) {ln : Nat} (h : 0 < ln) (hl : ln ≤ 16) (e : x = v - v / nI ln * nI ln) : (x < 0 → x + nI ln = nI (lnOf v ln)) ∧ (¬ x < 0 → x = nI (lnOf v ln)) := by
  have hn : (nI ln).toInt = (ln : Int) := nI_toInt (by omega)
  have ht : x.toInt = v.toInt.tmod (ln : Int) := by rw [e, rem_t v (nI ln) (by rw [hn]; omega), hn]
  have hk := lnOf_lt v h
  have hm : ((lnOf v ln : Nat) : Int) = v.toInt % (ln : Int) := by
    unfold lnOf
    have h1 := Int.emod_nonneg v.toInt (b := (ln : Int)) (by omega)
    omega
  have hr : (nI (lnOf v ln)).toInt = v.toInt % (ln : Int) := by rw [nI_toInt (by omega), hm]
  have hx : x.toInt % (ln : Int) = v.toInt % (ln : Int) := by rw [ht, Int.tmod_def]; exact Int.sub_mul_emod_self_left ..
  have b1 : x.toInt < ln := by rw [ht]; exact Int.tmod_lt_of_pos _ (by omega)
  have b2 : -(ln : Int) < x.toInt := by rw [ht]; exact Int.lt_tmod_of_pos _ (by omega)
  have z0 : (0 : Int32).toInt = 0 := rfl
  constructor
  · intro hneg
    have h0 := Int32.lt_iff_toInt_lt.mp hneg
    rw [z0] at h0
    have h1 : (x.toInt + ln) % (ln : Int) = x.toInt + ln := Int.emod_eq_of_lt (by omega) (by omega)
    rw [Int.add_emod_right, hx] at h1
    apply Int32.toInt_inj.mp
    rw [hr, h1, Int32.toInt_add, hn]
    apply Int.bmod_eq_of_le <;> omega
  · intro hneg
    have h0 := Int32.le_iff_toInt_le.mp (Int32.not_lt.mp hneg)
    rw [z0] at h0
    have h1 : x.toInt % (ln : Int) = x.toInt := Int.emod_eq_of_lt (by omega) (by omega)
    apply Int32.toInt_inj.mp
    rw [hr, ← hx, h1]
theorem sp_X8_lineOf {p l : Nat} {ln : Nat → Int32} {v : Int32} {Φ : Int32 → Prop} (hp : p < 6) (hl : ln p = nI l) (h0 : 0 < l) (h16 : l ≤ 16) (h : Φ (nI (lnOf v l))) : wp_X8_lineOf (nI p) ln v Φ := by
  unfold wp_X8_lineOf
  rw [nI_clamp (by omega), hl]
  have e := lnOf_eq v (v - v / nI l * nI l) h0 h16 rfl
  refine ⟨pk_in p 6 hp, nI_ne0 h0 (by omega), fun z => ?_, fun z => ?_⟩
  · rw [e.2 (Int32.not_lt.mpr z)]; exact h
  · rw [e.1 (Int32.not_le.mp z)]; exact h
theorem sp_X8_wornness {p l : Nat} {ln we : Nat → Int32} {w v : Int32} {Φ : Int32 → Prop} (hp : p < 6) (hl : ln p = nI l) (h0 : 0 < l) (h16 : l ≤ 16) (h : ∀ r, Φ r) : wp_X8_wornness (nI p) w ln we v Φ := by
  unfold wp_X8_wornness
  have := lnOf_lt v h0
  exact ⟨fun _ => sp_X8_lineOf hp hl h0 h16 ⟨pk_in (lnOf v l) 16 (by omega), h _⟩, fun _ => h _⟩
theorem sp_X8_opens {d : Nat} {a b c e f : Nat → Int32} {Φ : (Nat → Int32) → (Nat → Int32) → (Nat → Int32) → (Nat → Int32) → (Nat → Int32) → Prop} (hd : d < 7) (h : ∀ a b c e f, Φ a b c e f) : wp_X8_opens (nI d) a b c e f Φ := by
  unfold wp_X8_opens
  have i : vp_in (nI d) 7 := pk_in d 7 hd
  exact ⟨i, i, i, i, i, h _ _ _ _ _⟩
theorem sp_X8_sums {d : Nat} {a b c e : Nat → Int32} {Φ : (Nat → Int32) → (Nat → Int32) → Prop} (hd : d < 7) (h : ∀ a b, Φ a b) : wp_X8_sums a b (nI d) c e Φ := by
  unfold wp_X8_sums
  have i : vp_in (nI d) 7 := pk_in d 7 hd
  exact ⟨i, fun _ => ⟨i, i, i, i, h _ _⟩, fun _ => ⟨i, i, i, i, h _ _⟩⟩
theorem sp_X8_tests {d : Nat} {k1 k2 k3 a b c e f : Nat → Int32} {Φ : (Nat → Int32) → (Nat → Int32) → (Nat → Int32) → (Nat → Int32) → (Nat → Int32) → Prop} (hd : d < 7) (h : ∀ a b c e f, Φ a b c e f) : wp_X8_tests k1 k2 k3 (nI d) a b c e f Φ := by
  have i : vp_in (nI d) 7 := pk_in d 7 hd
  have h136 : ∀ a b c e f v, kf_X8_tests_136 k1 k2 k3 (nI d) Φ a b c e f v := fun a b c e f v => ⟨i, i, i, i, h _ _ _ _ _⟩
  have h106 : ∀ a b c e f v, kf_X8_tests_106 k1 k2 k3 (nI d) Φ a b c e f v := fun a b c e f v => ⟨i, fun _ => h136 _ _ _ _ _ _, fun _ => ⟨i, fun _ => h136 _ _ _ _ _ _, fun _ => ⟨fun _ => h136 _ _ _ _ _ _, fun _ => h136 _ _ _ _ _ _⟩⟩⟩
  have h76 : ∀ a b c e f v, kf_X8_tests_76 k1 k2 k3 (nI d) Φ a b c e f v := fun a b c e f v => ⟨i, fun _ => h106 _ _ _ _ _ _, fun _ => ⟨i, fun _ => h106 _ _ _ _ _ _, fun _ => ⟨fun _ => h106 _ _ _ _ _ _, fun _ => h106 _ _ _ _ _ _⟩⟩⟩
  have h44 : ∀ a b c e f v, kf_X8_tests_44 k1 k2 k3 (nI d) Φ a b c e f v := fun a b c e f v => ⟨i, fun _ => h76 _ _ _ _ _ _, fun _ => ⟨i, i, fun _ => h76 _ _ _ _ _ _, fun _ => h76 _ _ _ _ _ _⟩⟩
  unfold wp_X8_tests
  exact sp_X8_sums hd (fun a b => ⟨i, i, fun _ => h44 _ _ _ _ _ _, fun _ => ⟨i, i, fun _ => h44 _ _ _ _ _ _, fun _ => h44 _ _ _ _ _ _⟩⟩)
def BN (bn : Nat → Int32) : List Bool → Prop
  | [] => True
  | b :: l => ((b = true → ¬ bn (l.length + 1) ≤ 0) ∧ (b = false → bn (l.length + 1) ≤ 0)) ∧ BN bn l
theorem BN_upd {o : Nat → Int32} {v : Int32} {k : Nat} : ∀ {l : List Bool}, BN o l → l.length < k → BN (upd o k v) l := by
  intro l
  induction l with
  | nil => intro _ _; trivial
  | cons b l ih =>
    intro h hk
    simp only [List.length_cons] at hk
    refine ⟨?_, ih h.2 (by omega)⟩
    rw [pk_un (by omega)]; exact h.1
theorem BN_pop {o : Nat → Int32} : ∀ {l : List Bool}, BN o l → BN o (popN l) := by
  intro l
  induction l with
  | nil => intro h; exact h
  | cons b l ih =>
    intro h
    cases b with
    | true => exact ih h.2
    | false => exact h
abbrev KWt : Type := (Nat → Int32) → (Nat → Int32) → (Nat → Int32) → (Nat → Int32) → (Nat → Int32) → (Nat → Int32) → (Nat → Int32) → (Nat → Int32) → (Nat → Int32) → Int32 → Int32 → Prop
abbrev PWt : Type := Int32 → (Nat → Int32) → (Nat → Int32) → (Nat → Int32) → (Nat → Int32) → (Nat → Int32) → (Nat → Int32) → (Nat → Int32) → (Nat → Int32) → (Nat → Int32) → Prop
def WK (k : Nat) (L : List Bool) (κ : KWt) : Prop := ∀ a1 a2 a3 a4 a5 a6 a7 a8 bn, BN bn L → κ a1 a2 a3 a4 a5 a6 a7 a8 bn (nI L.length) (nI k)
section WD
variable {p l x0 k : Nat} {w : Int32} {ln lf lt cd vo we : Nat → Int32} {κ : KWt} {Φ : PWt} {a1 a2 a3 a4 a5 a6 a7 a8 bn : Nat → Int32} {L : List Bool}
theorem sp_wd53 {v : Int32} (hL : L.length < 5) (hb : BN bn L) (hv : v = 28 ∨ v = 30 ∨ v = 31) (hK : WK (k + 1) ((if v = 28 then false else true) :: L) κ) : kf_X8_worked_53 (nI p) w ln lf lt cd vo we (nI x0) κ Φ a1 a2 a3 a4 a5 a6 a7 a8 bn (nI L.length) (nI k) v := by
  unfold kf_X8_worked_53
  have i : vp_in (nI (L.length + 1)) 7 := pk_in (L.length + 1) 7 (by omega)
  rw [nI_1, nI_1, nI_clamp (by omega)]
  rcases hv with rfl | rfl | rfl
  · exact ⟨fun _ => ⟨fun _ => ⟨i, sp_X8_opens (by omega) (fun _ _ _ _ _ => hK _ _ _ _ _ _ _ _ _ ⟨⟨fun z => absurd z (by decide), fun _ => (by rw [pk_us]; decide)⟩, BN_upd hb (by omega)⟩)⟩, fun z => absurd z (by decide)⟩, fun z => absurd z (by decide)⟩
  · exact ⟨fun z => absurd rfl z, fun _ => ⟨i, sp_X8_opens (by omega) (fun _ _ _ _ _ => hK _ _ _ _ _ _ _ _ _ ⟨⟨fun _ => (by rw [pk_us]; decide), fun z => absurd z (by decide)⟩, BN_upd hb (by omega)⟩)⟩⟩
  · exact ⟨fun _ => ⟨fun z => absurd rfl z, fun _ => ⟨i, sp_X8_opens (by omega) (fun _ _ _ _ _ => hK _ _ _ _ _ _ _ _ _ ⟨⟨fun _ => (by rw [pk_us]; decide), fun z => absurd z (by decide)⟩, BN_upd hb (by omega)⟩)⟩⟩, fun z => absurd z (by decide)⟩
theorem sp_wd107 {v : Int32} (hL : L.length ≤ 5) (hb : BN bn L) (hK : WK (k + 1) L κ) : kf_X8_worked_107 (nI p) w ln lf lt cd vo we (nI x0) κ Φ a1 a2 a3 a4 a5 a6 a7 a8 bn (nI L.length) (nI k) v := by
  unfold kf_X8_worked_107
  rw [nI_1]
  exact sp_X8_sums (by omega) (fun _ _ => ⟨pk_in L.length 7 (by omega), hK _ _ _ _ _ _ _ _ _ hb⟩)
theorem sp_wd155 {v : Int32} (hL : L.length ≤ 5) (hb : BN bn L) (hK : WK (k + 1) L κ) : kf_X8_worked_155 (nI p) w ln lf lt cd vo we (nI x0) κ Φ a1 a2 a3 a4 a5 a6 a7 a8 bn (nI L.length) (nI k) v := by
  unfold kf_X8_worked_155
  have i : vp_in (nI L.length) 7 := pk_in L.length 7 (by omega)
  rw [nI_1]
  exact sp_X8_sums (by omega) (fun _ _ => ⟨i, i, i, i, i, hK _ _ _ _ _ _ _ _ _ hb⟩)
theorem sp_wd212 {v : Int32} (hL : L.length ≤ 5) (hb : BN bn L) (hK : WK (k + 1) L κ) : kf_X8_worked_212 (nI p) w ln lf lt cd vo we (nI x0) κ Φ a1 a2 a3 a4 a5 a6 a7 a8 bn (nI L.length) (nI k) v := by
  unfold kf_X8_worked_212
  rw [nI_1]
  exact sp_X8_tests (by omega) (fun _ _ _ _ _ => ⟨pk_in L.length 7 (by omega), hK _ _ _ _ _ _ _ _ _ hb⟩)
theorem sp_wd336 {v : Int32} (hL : L.length ≤ 5) (hb : BN bn L) (hK : WK (k + 1) L κ) : kf_X8_worked_336 (nI p) w ln lf lt cd vo we (nI x0) κ Φ a1 a2 a3 a4 a5 a6 a7 a8 bn (nI L.length) (nI k) v := by
  unfold kf_X8_worked_336
  have i : vp_in (nI L.length) 7 := pk_in L.length 7 (by omega)
  rw [nI_1]
  exact ⟨i, fun _ => ⟨i, i, hK _ _ _ _ _ _ _ _ _ hb⟩, fun _ => ⟨i, hK _ _ _ _ _ _ _ _ _ hb⟩⟩
theorem sp_wd286 (hp : p < 6) (hl : ln p = nI l) (h0 : 0 < l) (h16 : l ≤ 16) : ∀ (M : List Bool), M.length ≤ 5 → BN bn M → WK (k + 1) (popN M) κ → ∃ m, ∀ v, lf_X8_worked_286 (nI p) w ln lf lt cd vo we (nI x0) κ Φ m a1 a2 a3 a4 a5 a6 a7 a8 bn (nI M.length) (nI k) v := by
  intro M
  induction M with
  | nil =>
    intro hL hb hK
    refine ⟨1, fun v => ?_⟩
    show lb_X8_worked_286 _ _ _ _ _ _ _ _ _ _ _ _ _ _ _ _ _ _ _ _ _ _ _ _
    unfold lb_X8_worked_286
    exact ⟨fun _ => sp_wd336 (L := []) hL hb hK, fun z => absurd (by decide) z⟩
  | cons x M ih =>
    intro hL hb hK
    have hlen : (x :: M).length = M.length + 1 := rfl
    simp only [List.length_cons] at hL
    have i : vp_in (nI (M.length + 1)) 7 := pk_in (M.length + 1) 7 (by omega)
    cases x with
    | true =>
      obtain ⟨m, hm⟩ := ih (by omega) hb.2 hK
      refine ⟨m + 1, fun v => ?_⟩
      show lb_X8_worked_286 _ _ _ _ _ _ _ _ _ _ _ _ _ _ _ _ _ _ _ _ _ _ _ _
      unfold lb_X8_worked_286
      rw [hlen, nI_clamp (by omega), pk_m1]
      exact ⟨fun z => absurd z (nI_nle (by omega) (by omega)), fun _ => ⟨i, fun z => absurd z (hb.1.1 rfl), fun _ => ⟨i, fun _ => ⟨fun _ => hm _, fun _ => hm _⟩, fun _ => sp_X8_wornness hp hl h0 h16 (fun r => hm r)⟩⟩⟩
    | false =>
      refine ⟨1, fun v => ?_⟩
      show lb_X8_worked_286 _ _ _ _ _ _ _ _ _ _ _ _ _ _ _ _ _ _ _ _ _ _ _ _
      unfold lb_X8_worked_286
      have e := @sp_wd336 p x0 k w ln lf lt cd vo we κ Φ a1 a2 a3 a4 a5 a6 a7 a8 bn (false :: M) v (by simp only [List.length_cons]; omega) hb hK
      refine ⟨fun _ => e, fun _ => ⟨i, fun _ => e, fun z => absurd ?_ z⟩⟩
      rw [hlen, nI_clamp (by omega)]
      exact hb.1.2 rfl
theorem sp_wd261 {v s : Int32} (hp : p < 6) (hl : ln p = nI l) (h0 : 0 < l) (h16 : l ≤ 16) (hL : L.length ≤ 5) (hb : BN bn L) {x : List Bool} (hx : (¬ v = 29 ∧ x = popN L) ∨ (v = 29 ∧ ∃ M, L = false :: M ∧ x = popN M)) (hK : WK (k + 1) x κ) : kf_X8_worked_261 (nI p) w ln lf lt cd vo we (nI x0) κ Φ a1 a2 a3 a4 a5 a6 a7 a8 bn (nI L.length) (nI k) v s := by
  unfold kf_X8_worked_261
  rcases hx with ⟨h29, rfl⟩ | ⟨h29, M, rfl, rfl⟩
  · refine ⟨fun _ => ?_, fun z => absurd z h29⟩
    obtain ⟨m, hm⟩ := sp_wd286 (w := w) (lf := lf) (lt := lt) (cd := cd) (vo := vo) (we := we) (x0 := x0) (Φ := Φ) (a1 := a1) (a2 := a2) (a3 := a3) (a4 := a4) (a5 := a5) (a6 := a6) (a7 := a7) (a8 := a8) hp hl h0 h16 L hL hb hK
    exact ⟨m, hm _⟩
  · simp only [List.length_cons] at hL
    refine ⟨fun z => absurd h29 z, fun _ => sp_X8_tests (by simp only [List.length_cons]; omega) (fun b1 b4 b5 b6 b8 => ⟨pk_in (M.length + 1) 7 (by omega), ?_⟩)⟩
    rw [show (false :: M).length = M.length + 1 from rfl, pk_m1]
    obtain ⟨m, hm⟩ := sp_wd286 (w := w) (lf := lf) (lt := lt) (cd := cd) (vo := vo) (we := we) (x0 := x0) (Φ := Φ) (a1 := b1) (a2 := a2) (a3 := a3) (a4 := b4) (a5 := b5) (a6 := b6) (a7 := a7) (a8 := b8) hp hl h0 h16 M (by omega) hb.2 hK
    exact ⟨m, hm _⟩
theorem sp_wd14 {e : Nat} (hp : p < 6) (hl : ln p = nI l) (h0 : 0 < l) (h16 : l ≤ 16) (hx : x0 < 192) (he : lt x0 = nI e) (he6 : e ≤ 6000) (hΦ : ∀ r b1 b2 b3 b4 b5 b6 b7 b8 b9, Φ r b1 b2 b3 b4 b5 b6 b7 b8 b9) : ∀ (m k : Nat) (a1 a2 a3 a4 a5 a6 a7 a8 bn : Nat → Int32) (L M : List Bool), m = e - k → k ≤ e → L.length ≤ 5 → BN bn L → BR cd k m L M → lf_X8_worked_14 (nI p) w ln lf lt cd vo we (nI x0) Φ (m + 1) a1 a2 a3 a4 a5 a6 a7 a8 bn (nI L.length) (nI k) := by
  intro m
  induction m with
  | zero =>
    intro k a1 a2 a3 a4 a5 a6 a7 a8 bn L M hm hk hL hb hB
    show lb_X8_worked_14 _ _ _ _ _ _ _ _ _ _ _ _ _ _ _ _ _ _ _ _ _ _
    unfold lb_X8_worked_14
    rw [nI_clamp (n := x0) (by omega), he]
    exact ⟨pk_in x0 192 hx, fun _ => sp_X8_tests (d := 0) (by decide) (fun _ _ _ _ _ => hΦ _ _ _ _ _ _ _ _ _ _), fun z => absurd (nI_le (by omega) (by omega)) z⟩
  | succ m ih =>
    intro k a1 a2 a3 a4 a5 a6 a7 a8 bn L M hm hk hL hb hB
    obtain ⟨x, x1, x2, x3, x4⟩ := hB
    have hK : WK (k + 1) x (lf_X8_worked_14 (nI p) w ln lf lt cd vo we (nI x0) Φ (m + 1)) := fun b1 b2 b3 b4 b5 b6 b7 b8 bn' hb' => ih (k + 1) b1 b2 b3 b4 b5 b6 b7 b8 bn' x M (by omega) (by omega) x2 hb' x4
    show lb_X8_worked_14 _ _ _ _ _ _ _ _ _ _ _ _ _ _ _ _ _ _ _ _ _ _
    unfold lb_X8_worked_14
    rw [nI_clamp (n := x0) (by omega), he, nI_clamp (n := k) (by omega)]
    generalize hc : cd k = c at x1 x3 ⊢
    have op : (c = 20 ∨ c = 21 ∨ c = 22 ∨ c = 24 ∨ c = 25 ∨ c = 26 ∨ c = 27) → x = L := fun h => by
      have := (bst_op h L).1
      rw [this] at x1
      exact (Option.some.inj x1).symm
    have br : (c = 28 ∨ c = 30 ∨ c = 31) → x = (if c = 28 then false else true) :: L := fun h => by
      rcases h with rfl | rfl | rfl <;> exact (Option.some.inj x1).symm
    have hbr : (h : c = 28 ∨ c = 30 ∨ c = 31) → kf_X8_worked_53 (nI p) w ln lf lt cd vo we (nI x0) (lf_X8_worked_14 (nI p) w ln lf lt cd vo we (nI x0) Φ (m + 1)) Φ a1 a2 a3 a4 a5 a6 a7 a8 bn (nI L.length) (nI k) c := fun h => by
      have e := br h
      rw [e] at hK x2
      simp only [List.length_cons] at x2
      exact sp_wd53 (by omega) hb h hK
    have hop : (h : c = 20 ∨ c = 21 ∨ c = 22 ∨ c = 24 ∨ c = 25 ∨ c = 26 ∨ c = 27) → WK (k + 1) L (lf_X8_worked_14 (nI p) w ln lf lt cd vo we (nI x0) Φ (m + 1)) := fun h => by rw [op h] at hK; exact hK
    have h261 : ¬ c = 28 → ¬ c = 30 → ¬ c = 31 → ¬ c = 20 → ¬ c = 21 → ¬ c = 22 → ¬ c = 24 → ¬ c = 25 → ¬ c = 26 → ¬ c = 27 → ∀ s, kf_X8_worked_261 (nI p) w ln lf lt cd vo we (nI x0) (lf_X8_worked_14 (nI p) w ln lf lt cd vo we (nI x0) Φ (m + 1)) Φ a1 a2 a3 a4 a5 a6 a7 a8 bn (nI L.length) (nI k) c s := by
      intro e1 e2 e3 e4 e5 e6 e7 e8 e9 e10 s
      refine sp_wd261 hp hl h0 h16 hL hb (x := x) ?_ hK
      by_cases h29 : c = 29
      · refine Or.inr ⟨h29, ?_⟩
        subst h29
        match L, x1 with
        | false :: M', x1 => exact ⟨M', rfl, (Option.some.inj x1).symm⟩
        | true :: M', x1 => cases x1
        | [], x1 => cases x1
      · refine Or.inl ⟨h29, ?_⟩
        unfold bst at x1
        rw [if_neg (by simp [e2, e3]), if_neg e1, if_neg h29, if_neg (by simp [e4, e5, e6, e7, e8, e9, e10])] at x1
        exact (Option.some.inj x1).symm
    have i : vp_in (nI L.length) 7 := pk_in L.length 7 (by omega)
    refine ⟨pk_in x0 192 hx, fun z => absurd z (nI_ge (by omega) (by omega)), fun _ => ⟨pk_in k 6000 (by omega), fun h => hbr (Or.inl h), fun n28 => ⟨fun h => hbr (Or.inr (Or.inl h)), fun n30 => ⟨fun n31 => ⟨fun h => sp_wd107 hL hb (hop (by simp [h])), fun n20 => ⟨fun n21 => ⟨fun n22 => ⟨fun h => sp_wd155 hL hb (hop (by simp [h])), fun n24 => ⟨fun n25 => ⟨fun h => sp_wd212 hL hb (hop (by simp [h])), fun n26 => ⟨fun n27 => ⟨fun _ => ⟨fun _ => h261 n28 n30 n31 n20 n21 n22 n24 n25 n26 n27 _, fun h20 => ⟨?_, h261 n28 n30 n31 n20 n21 n22 n24 n25 n26 n27 _⟩⟩, fun _ => h261 n28 n30 n31 n20 n21 n22 n24 n25 n26 n27 _⟩, fun h => sp_wd212 hL hb (hop (by simp [h]))⟩⟩, fun h => sp_wd155 hL hb (hop (by simp [h]))⟩⟩, fun h => ⟨i, ?_⟩⟩, fun h => sp_wd107 hL hb (hop (by simp [h]))⟩⟩, fun h => hbr (Or.inr (Or.inr h))⟩⟩⟩⟩
    · obtain ⟨j, hj, rfl⟩ := nI_of x3
      exact pk_in j 20 (Nat.lt_of_not_le (fun z => h20 (nI_le (a := 20) z hj)))
    · rw [nI_1]
      exact hop (by simp [h]) _ _ _ _ _ _ _ _ _ hb
theorem sp_X8_worked {f e : Nat} {M : List Bool} (hp : p < 6) (hl : ln p = nI l) (h0 : 0 < l) (h16 : l ≤ 16) (hx : x0 < 192) (hf : lf x0 = nI f) (he : lt x0 = nI e) (hfe : f ≤ e) (he6 : e ≤ 6000) (hB : BR cd f (e - f) [] M) (hΦ : ∀ r b1 b2 b3 b4 b5 b6 b7 b8 b9, Φ r b1 b2 b3 b4 b5 b6 b7 b8 b9) : wp_X8_worked (nI p) w ln lf lt cd vo we (nI x0) a1 a2 a3 a4 a5 a6 a7 a8 bn Φ := by
  unfold wp_X8_worked
  refine sp_X8_opens (d := 0) (by decide) (fun b2 b4 b5 b6 b8 => ⟨pk_in x0 192 hx, e - f + 1, ?_⟩)
  rw [nI_clamp (n := x0) (by omega), hf]
  exact sp_wd14 hp hl h0 h16 hx he he6 hΦ (e - f) f a1 b2 a3 b4 b5 b6 a7 b8 bn [] M rfl hfe (by decide) trivial hB
end WD
end
section
abbrev PWk : Type := Int32 → (Nat → Int32) → (Nat → Int32) → (Nat → Int32) → (Nat → Int32) → (Nat → Int32) → (Nat → Int32) → (Nat → Int32) → (Nat → Int32) → (Nat → Int32) → (Nat → Int32) → Prop
/-- a line of the programme at p, as the rows hold it -/
def LN (p j : Nat) (ta ac ls lf lt cd : Nat → Int32) : Prop := (∃ x : Nat, x < 4 ∧ ls (16 * p + j) = nI x) ∧ ∃ hi, hi ≤ 6000 ∧ LW ta ac lf lt cd (16 * p + j) (1000 * p) hi
theorem sp_X8_works {p j l v : Nat} {w : Int32} {ln lf lt cd he we ta ac ls : Nat → Int32} {k1 k2 k3 k4 k5 k6 k7 k8 k9 vo : Nat → Int32} {Φ : PWk} (hp : p < 6) (hl : ln p = nI l) (hj : j < l) (h16 : l ≤ 16) (hv : v < 2) (hLN : LN p j ta ac ls lf lt cd) (hΦ : ∀ r b1 b2 b3 b4 b5 b6 b7 b8 b9 b10, Φ r b1 b2 b3 b4 b5 b6 b7 b8 b9 b10) : wp_X8_works (nI p) w ln lf lt cd he we (nI j) (nI v) k1 k2 k3 k4 k5 k6 k7 k8 k9 vo Φ := by
  obtain ⟨-, hi, hi6, -, hW⟩ := hLN
  obtain ⟨f, e, L, e1, e2, e3, e4, e5, e6⟩ := hW v hv
  have ex : (32 : Int32) * nI p + 2 * nI j + nI v = nI (2 * (16 * p + j) + v) := by
    rw [show (32 : Int32) = nI 32 from rfl, show (2 : Int32) = nI 2 from rfl, pk_mul, pk_mul, nI_add, nI_add]
    congr 1
    omega
  have key : ∀ m k (vo : Nat → Int32), m = 6 - k → k ≤ 6 → lf_X8_works_2 (nI p) w ln lf lt cd he we (nI j) (nI v) Φ (m + 1) k1 k2 k3 k4 k5 k6 k7 k8 k9 vo (nI k) := by
    intro m
    induction m with
    | zero =>
      intro k vo hm hk
      have e : k = 6 := by omega
      subst e
      show lb_X8_works_2 _ _ _ _ _ _ _ _ _ _ _ _ _ _ _ _ _ _ _ _ _ _ _
      unfold lb_X8_works_2
      rw [ex]
      exact ⟨fun _ => sp_X8_worked hp hl (by omega) h16 (by omega) e1 e2 e4 (by omega) e6 (fun _ _ _ _ _ _ _ _ _ _ => hΦ _ _ _ _ _ _ _ _ _ _ _), fun z => absurd (by decide) z⟩
    | succ m ih =>
      intro k vo hm hk
      show lb_X8_works_2 _ _ _ _ _ _ _ _ _ _ _ _ _ _ _ _ _ _ _ _ _ _ _
      unfold lb_X8_works_2
      have e1k : (1 : Int32) + nI k = nI (1 + k) := nI_add 1 k
      refine ⟨fun z => absurd z (nI_ge (b := 6) (by omega) (by decide)), fun _ => ⟨pk_in k 6 (by omega), ?_, ?_⟩⟩
      · rw [e1k]; exact pk_in (1 + k) 20 (by omega)
      · rw [nI_1]; exact ih (k + 1) _ (by omega) (by omega)
  exact ⟨6 - 0 + 1, key (6 - 0) 0 vo rfl (by decide)⟩
abbrev PSt : Type := Int32 → Int32 → Int32 → Int32 → (Nat → Int32) → (Nat → Int32) → (Nat → Int32) → (Nat → Int32) → (Nat → Int32) → (Nat → Int32) → (Nat → Int32) → (Nat → Int32) → (Nat → Int32) → (Nat → Int32) → (Nat → Int32) → (Nat → Int32) → (Nat → Int32) → Prop
theorem sp_X8_stepsOn {p j l u : Nat} {w isE isF : Int32} {ln be ta ac ls tw lf lt cd he we sr : Nat → Int32} {k1 k2 k3 k4 k5 k6 k7 k8 k9 vo : Nat → Int32} {Φ : PSt} (hp : p < 6) (hl : ln p = nI l) (hj : j < l) (h16 : l ≤ 16) (hu : u < 2 ^ 30) (hLN : LN p j ta ac ls lf lt cd)
    (hF : w = 0 → ∀ b1 b2 b3 b4 b5 b6 b7 b8 b9 b10 b11 b12 b13, Φ (nI j) isE 1 (nI u) b1 b2 b3 b4 b5 b6 b7 b8 b9 b10 b11 b12 b13)
    (hS : (w = 0 → we (nI j).toNatClampNeg < be (4 * nI p + ls (16 * nI p + nI j).toNatClampNeg).toNatClampNeg * tw (16 * nI p + nI j).toNatClampNeg) → ∀ x isE' u' b1 b2 b3 b4 b5 b6 b7 b8 b9 b10 b11 b12 b13, x ≤ l → (isE' = 0 ∨ isE' = 1) → (isE' = 0 → x < l) → (u' = u ∨ u' = u + 1) → Φ (nI x) isE' isF (nI u') b1 b2 b3 b4 b5 b6 b7 b8 b9 b10 b11 b12 b13) : wp_X8_stepsOn (nI p) w ln be ta ac ls tw lf lt cd (nI j) isE isF (nI u) k1 k2 k3 k4 k5 k6 k7 k8 k9 vo he we sr Φ := by
  have hq : (16 : Int32) * nI p + nI j = nI (16 * p + j) := by rw [show (16 : Int32) = nI 16 from rfl, pk_mul, nI_add]
  obtain ⟨⟨xs, xs4, hxs⟩, hi, hi6, hac, hW⟩ := hLN
  have hLN : LN p j ta ac ls lf lt cd := ⟨⟨xs, xs4, hxs⟩, hi, hi6, hac, hW⟩
  have ip : vp_in (nI p) 6 := pk_in p 6 hp
  have iq : vp_in (nI (16 * p + j)) 96 := pk_in (16 * p + j) 96 (by omega)
  have ecl : (nI (16 * p + j)).toNatClampNeg = 16 * p + j := nI_clamp (by omega)
  have l0 : 0 < l := by omega
  have ij : vp_in (nI j) 16 := pk_in j 16 (by omega)
  have f62 : (w = 0 → we (nI j).toNatClampNeg < be (4 * nI p + ls (16 * nI p + nI j).toNatClampNeg).toNatClampNeg * tw (16 * nI p + nI j).toNatClampNeg) → kf_X8_stepsOn_62 (nI p) w ln be ta ac ls tw lf lt cd Φ (nI j) isE isF (nI u) k1 k2 k3 k4 k5 k6 k7 k8 k9 vo he we sr (nI j) (nI (16 * p + j)) := by
    intro hcond
    have hS := hS hcond
    have f298 : ∀ (v : Int32) (x u' : Nat) k1 k2 k3 k4 k5 k6 k7 k8 k9 vo he we sr, x ≤ l → (u' = u ∨ u' = u + 1) → kf_X8_stepsOn_298 (nI p) w ln be ta ac ls tw lf lt cd Φ (nI x) isE isF (nI u') k1 k2 k3 k4 k5 k6 k7 k8 k9 vo he we sr v := by
      intro v x u' k1 k2 k3 k4 k5 k6 k7 k8 k9 vo he we sr hx hu'
      unfold kf_X8_stepsOn_298
      rw [nI_clamp (by omega), hl]
      refine ⟨fun _ => hS x 1 u' _ _ _ _ _ _ _ _ _ _ _ _ _ hx (Or.inr rfl) (fun z => absurd z (by decide)) hu', fun _ => ⟨ip, fun hne => hS x 0 u' _ _ _ _ _ _ _ _ _ _ _ _ _ hx (Or.inl rfl) (fun _ => Nat.lt_of_le_of_ne hx (fun e => hne (by rw [e]))) hu', fun _ => hS x 1 u' _ _ _ _ _ _ _ _ _ _ _ _ _ hx (Or.inr rfl) (fun z => absurd z (by decide)) hu'⟩⟩
    have f251 : ∀ (v l4 l5 : Int32) (x u' : Nat) k1 k2 k3 k4 k5 k6 k7 k8 k9 vo he we sr, x ≤ l → (u' = u ∨ u' = u + 1) → kf_X8_stepsOn_251 (nI p) w ln be ta ac ls tw lf lt cd Φ (nI x) isE isF (nI u') k1 k2 k3 k4 k5 k6 k7 k8 k9 vo he we sr v l4 l5 := by
      intro v l4 l5 x u' k1 k2 k3 k4 k5 k6 k7 k8 k9 vo he we sr hx hu'
      unfold kf_X8_stepsOn_251
      have hlt := lnOf_lt l4 l0
      have i16 : vp_in (nI (lnOf l4 l)) 16 := pk_in (lnOf l4 l) 16 (by omega)
      exact ⟨fun _ => f298 _ _ _ _ _ _ _ _ _ _ _ _ _ _ _ _ hx hu', fun _ => ⟨fun _ => f298 _ _ _ _ _ _ _ _ _ _ _ _ _ _ _ _ hx hu', fun _ => ⟨fun _ => f298 _ _ _ _ _ _ _ _ _ _ _ _ _ _ _ _ hx hu', fun _ => sp_X8_lineOf hp hl l0 h16 (sp_X8_lineOf hp hl l0 h16 ⟨i16, i16, f298 _ _ _ _ _ _ _ _ _ _ _ _ _ _ _ _ hx hu'⟩)⟩⟩⟩
    have f222 : ∀ (l4 l5 : Int32) (x u' : Nat) k1 k2 k3 k4 k5 k6 k7 k8 k9 vo he we sr, x ≤ l → (u' = u ∨ u' = u + 1) → kf_X8_stepsOn_222 (nI p) w ln be ta ac ls tw lf lt cd Φ (nI x) isE isF (nI u') k1 k2 k3 k4 k5 k6 k7 k8 k9 vo he we sr (nI j) (nI (16 * p + j)) (ta (16 * p + j)) l4 l5 := by
      intro l4 l5 x u' k1 k2 k3 k4 k5 k6 k7 k8 k9 vo he we sr hx hu'
      unfold kf_X8_stepsOn_222
      have hlt := lnOf_lt l4 l0
      refine ⟨fun _ => f251 _ _ _ _ _ _ _ _ _ _ _ _ _ _ _ _ _ _ hx hu', fun e4 => ⟨iq, ?_, sp_X8_lineOf hp hl l0 h16 (f251 _ _ _ _ _ _ _ _ _ _ _ _ _ _ _ _ _ _ (by omega) hu')⟩⟩
      obtain ⟨y, y6, ey⟩ := hac (Or.inr e4)
      rw [ecl, ey]; exact pk_in y 6 y6
    have f202 : ∀ (l4 l5 : Int32) (x u' : Nat) k1 k2 k3 k4 k5 k6 k7 k8 k9 vo he we sr, x ≤ l → (u' = u ∨ u' = u + 1) → kf_X8_stepsOn_202 (nI p) w ln be ta ac ls tw lf lt cd Φ (nI x) isE isF (nI u') k1 k2 k3 k4 k5 k6 k7 k8 k9 vo he we sr (nI j) (nI (16 * p + j)) (ta (16 * p + j)) l4 l5 := by
      intro l4 l5 x u' k1 k2 k3 k4 k5 k6 k7 k8 k9 vo he we sr hx hu'
      unfold kf_X8_stepsOn_202
      have hlt := lnOf_lt l5 l0
      exact ⟨fun _ => f222 _ _ _ _ _ _ _ _ _ _ _ _ _ _ _ _ _ hx hu', fun _ => ⟨fun _ => f222 _ _ _ _ _ _ _ _ _ _ _ _ _ _ _ _ _ hx hu', fun _ => sp_X8_lineOf hp hl l0 h16 (f222 _ _ _ _ _ _ _ _ _ _ _ _ _ _ _ _ _ (by omega) hu')⟩⟩
    have f187 : ∀ (l4 l5 : Int32) (x u' : Nat) k1 k2 k3 k4 k5 k6 k7 k8 k9 vo he we sr, x ≤ l → (u' = u ∨ u' = u + 1) → kf_X8_stepsOn_187 (nI p) w ln be ta ac ls tw lf lt cd Φ (nI x) isE isF (nI u') k1 k2 k3 k4 k5 k6 k7 k8 k9 vo he we sr (nI j) (nI (16 * p + j)) (ta (16 * p + j)) l4 l5 := by
      intro l4 l5 x u' k1 k2 k3 k4 k5 k6 k7 k8 k9 vo he we sr hx hu'
      unfold kf_X8_stepsOn_187
      have hlt := lnOf_lt l4 l0
      exact ⟨fun _ => f202 _ _ _ _ _ _ _ _ _ _ _ _ _ _ _ _ _ hx hu', fun _ => sp_X8_lineOf hp hl l0 h16 (f202 _ _ _ _ _ _ _ _ _ _ _ _ _ _ _ _ _ (by omega) hu')⟩
    have f151 : ∀ (l4 l5 : Int32) (x : Nat) k1 k2 k3 k4 k5 k6 k7 k8 k9 vo he we sr, x ≤ l → kf_X8_stepsOn_151 (nI p) w ln be ta ac ls tw lf lt cd Φ (nI x) isE isF (nI u) k1 k2 k3 k4 k5 k6 k7 k8 k9 vo he we sr (nI j) (nI (16 * p + j)) (ta (16 * p + j)) l4 l5 := by
      intro l4 l5 x k1 k2 k3 k4 k5 k6 k7 k8 k9 vo he we sr hx
      unfold kf_X8_stepsOn_151
      rw [nI_1]
      refine ⟨fun _ => f187 _ _ _ _ _ _ _ _ _ _ _ _ _ _ _ _ _ hx (Or.inl rfl), fun _ => ⟨fun _ => f187 _ _ _ _ _ _ _ _ _ _ _ _ _ _ _ _ _ hx (Or.inr rfl), fun h1 => ⟨?_, f187 _ _ _ _ _ _ _ _ _ _ _ _ _ _ _ _ _ hx (Or.inr rfl)⟩⟩⟩
      exact pk_in u 1001 (Nat.lt_of_not_le (fun z => h1 (nI_le (a := 1001) z (by omega))))
    have f125 : ∀ (l4 l5 nx : Int32) k1 k2 k3 k4 k5 k6 k7 k8 k9 vo he we sr, kf_X8_stepsOn_125 (nI p) w ln be ta ac ls tw lf lt cd Φ nx isE isF (nI u) k1 k2 k3 k4 k5 k6 k7 k8 k9 vo he we sr (nI j) (nI (16 * p + j)) (ta (16 * p + j)) l4 l5 := by
      intro l4 l5 nx k1 k2 k3 k4 k5 k6 k7 k8 k9 vo he we sr
      unfold kf_X8_stepsOn_125
      rw [nI_1]
      refine ⟨fun _ => f151 _ _ _ _ _ _ _ _ _ _ _ _ _ _ _ _ (by omega), fun e0 => ⟨iq, ?_, f151 _ _ _ _ _ _ _ _ _ _ _ _ _ _ _ _ (by omega)⟩⟩
      obtain ⟨y, y6, ey⟩ := hac (Or.inl e0)
      rw [ecl, ey]; exact pk_in y 6 y6
    have f103 : ∀ (s0 nx : Int32) k1 k2 k3 k4 k5 k6 k7 k8 k9 vo he we sr, kf_X8_stepsOn_103 (nI p) w ln be ta ac ls tw lf lt cd Φ nx isE isF (nI u) k1 k2 k3 k4 k5 k6 k7 k8 k9 vo he we sr (nI j) (nI (16 * p + j)) (ta (16 * p + j)) s0 := by
      intro s0 nx k1 k2 k3 k4 k5 k6 k7 k8 k9 vo he we sr
      unfold kf_X8_stepsOn_103
      exact ⟨fun _ => sp_X8_works (v := 1) hp hl hj h16 (by decide) hLN (fun _ _ _ _ _ _ _ _ _ _ _ => f125 _ _ _ _ _ _ _ _ _ _ _ _ _ _ _ _), fun _ => ⟨fun _ => f125 _ _ _ _ _ _ _ _ _ _ _ _ _ _ _ _, fun _ => sp_X8_works (v := 1) hp hl hj h16 (by decide) hLN (fun _ _ _ _ _ _ _ _ _ _ _ => f125 _ _ _ _ _ _ _ _ _ _ _ _ _ _ _ _)⟩⟩
    have f80 : ∀ (nx : Int32) k1 k2 k3 k4 k5 k6 k7 k8 k9 vo he we sr, kf_X8_stepsOn_80 (nI p) w ln be ta ac ls tw lf lt cd Φ nx isE isF (nI u) k1 k2 k3 k4 k5 k6 k7 k8 k9 vo he we sr (nI j) (nI (16 * p + j)) := by
      intro nx k1 k2 k3 k4 k5 k6 k7 k8 k9 vo he we sr
      unfold kf_X8_stepsOn_80
      rw [ecl]
      exact ⟨iq, fun _ => sp_X8_works (v := 0) hp hl hj h16 (by decide) hLN (fun _ _ _ _ _ _ _ _ _ _ _ => f103 _ _ _ _ _ _ _ _ _ _ _ _ _ _ _), fun _ => f103 _ _ _ _ _ _ _ _ _ _ _ _ _ _ _⟩
    unfold kf_X8_stepsOn_62
    exact ⟨fun _ => f80 _ _ _ _ _ _ _ _ _ _ _ _ _ _, fun _ => ⟨ij, ij, f80 _ _ _ _ _ _ _ _ _ _ _ _ _ _⟩⟩
  unfold wp_X8_stepsOn
  have i4 : vp_in ((4 : Int32) * nI p + ls (nI (16 * p + j)).toNatClampNeg) 24 := by
    rw [ecl, hxs, show (4 : Int32) = nI 4 from rfl, pk_mul, nI_add]
    exact pk_in (4 * p + xs) 24 (by omega)
  rw [hq] at f62 ⊢
  exact ⟨fun n0 => f62 (fun e => absurd e n0), fun e0 => ⟨ij, iq, i4, iq, fun hlt => f62 (fun _ => hlt), fun _ => hF e0 _ _ _ _ _ _ _ _ _ _ _ _ _⟩⟩
end
section
/-- how many numbers an input has -/
theorem sp_X8_manyOf {p i k : Nat} {ip le mo : Nat → Int32} {Φ : Int32 → Prop} (hp : p < 6) (hi : ip p = nI i) (hi2 : i ≤ 2) (hk : k < 2) (hx : ∀ j, j < i → ∃ a m : Nat, le (2 * p + j) = nI a ∧ mo (2 * p + j) = nI m ∧ a ≤ m ∧ m ≤ 9999) (h : ∀ m : Nat, 0 < m → m ≤ 10000 → Φ (nI m)) : wp_X8_manyOf ip le mo (nI p) (nI k) Φ := by
  unfold wp_X8_manyOf
  have e2 : (2 : Int32) * nI p + nI k = nI (2 * p + k) := by rw [show (2 : Int32) = nI 2 from rfl, pk_mul, nI_add]
  rw [e2, nI_clamp (n := p) (by omega), hi]
  have hin : vp_in (nI (2 * p + k)) 12 := pk_in (2 * p + k) 12 (by omega)
  refine ⟨pk_in p 6 hp, fun _ => h 1 (by decide) (by decide), fun hlt => ⟨hin, hin, ?_⟩⟩
  have hki : k < i := Nat.lt_of_not_le (fun z => hlt (nI_le z (by omega)))
  obtain ⟨a, m, e1, e3, e4, e5⟩ := hx k hki
  rw [nI_clamp (by omega), e1, e3, pk_sub e4, nI_1]
  exact h (m - a + 1) (by omega) (by omega)
theorem sp_X8_inputsOf {p i : Nat} {ip le mo : Nat → Int32} {Φ : Int32 → Prop} (hp : p < 6) (hi : ip p = nI i) (hi2 : i ≤ 2) (hx : ∀ j, j < i → ∃ a m : Nat, le (2 * p + j) = nI a ∧ mo (2 * p + j) = nI m ∧ a ≤ m ∧ m ≤ 9999) (h : ∀ m : Nat, 0 < m → m ≤ 100000000 → Φ (nI m)) : wp_X8_inputsOf ip le mo (nI p) Φ := by
  unfold wp_X8_inputsOf
  refine sp_X8_manyOf (k := 0) hp hi hi2 (by decide) hx (fun a a0 a1 => sp_X8_manyOf (k := 1) hp hi hi2 (by decide) hx (fun b b0 b1 => ?_))
  rw [pk_mul]
  exact h (a * b) (Nat.mul_pos a0 b0) (Nat.le_trans (Nat.mul_le_mul a1 b1) (by decide))
theorem sp_X8_beginsWith {p i y : Nat} {ip ca ic le mo : Nat → Int32} {v : Int32} {Φ : Int32 → Prop} (hp : p < 6) (hi : ip p = nI i) (hi2 : i ≤ 2) (hy : y < 6) (hx : ∀ j, j < i → ∃ a m : Nat, le (2 * p + j) = nI a ∧ mo (2 * p + j) = nI m ∧ a ≤ m ∧ m ≤ 9999) (h : ∀ r, Φ r) : wp_X8_beginsWith ip ca ic le mo (nI p) v (nI y) Φ := by
  have e6 : (6 : Int32) * nI p + nI y = nI (6 * p + y) := by rw [show (6 : Int32) = nI 6 from rfl, pk_mul, nI_add]
  have key : ∀ m k, m = i - k → k ≤ i → lf_X8_beginsWith_3 ip ca ic le mo (nI p) v (nI y) Φ (m + 1) (nI k) := by
    intro m
    induction m with
    | zero =>
      intro k hm hk
      show lb_X8_beginsWith_3 _ _ _ _ _ _ _ _ _ _ _
      unfold lb_X8_beginsWith_3
      rw [nI_clamp (n := p) (by omega), hi, e6]
      exact ⟨pk_in p 6 hp, fun _ => ⟨pk_in (6 * p + y) 36 (by omega), h _⟩, fun z => absurd (nI_le (by omega) (by omega)) z⟩
    | succ m ih =>
      intro k hm hk
      show lb_X8_beginsWith_3 _ _ _ _ _ _ _ _ _ _ _
      unfold lb_X8_beginsWith_3
      have e2 : (2 : Int32) * nI p + nI k = nI (2 * p + k) := by rw [show (2 : Int32) = nI 2 from rfl, pk_mul, nI_add]
      rw [nI_clamp (n := p) (by omega), hi, e6, e2, nI_1]
      have hin : vp_in (nI (2 * p + k)) 12 := pk_in (2 * p + k) 12 (by omega)
      exact ⟨pk_in p 6 hp, fun z => absurd z (nI_ge (by omega) (by omega)), fun _ => ⟨hin, fun _ => ih (k + 1) (by omega) (by omega), fun _ => ⟨hin, pk_in p 6 hp, fun _ => sp_X8_manyOf (k := 1) hp hi hi2 (by decide) hx (fun m m0 m1 => ⟨nI_ne0 m0 (by omega), h _⟩), fun _ => sp_X8_manyOf hp hi hi2 (by omega) hx (fun m m0 m1 => ⟨nI_ne0 m0 (by omega), h _⟩)⟩⟩⟩
  exact ⟨i - 0 + 1, key (i - 0) 0 rfl (Nat.zero_le _)⟩
theorem sp_X8_begins {p i : Nat} {ce ip ca ic le mo he : Nat → Int32} {v w f1 f2 f3 f4 f5 f6 : Int32} {Φ : Int32 → Int32 → Int32 → Int32 → Int32 → Int32 → (Nat → Int32) → Prop} (hp : p < 6) (hi : ip p = nI i) (hi2 : i ≤ 2) (hx : ∀ j, j < i → ∃ a m : Nat, le (2 * p + j) = nI a ∧ mo (2 * p + j) = nI m ∧ a ≤ m ∧ m ≤ 9999) (h : ∀ he', Φ (nI p) w 0 0 0 0 he') : wp_X8_begins ce ip ca ic le mo (nI p) v w f1 f2 f3 f4 f5 f6 he Φ := by
  have key : ∀ m k (he : Nat → Int32), m = 6 - k → k ≤ 6 → lf_X8_begins_33 ce ip ca ic le mo (nI p) v w Φ (m + 1) (nI p) w 0 0 0 0 he (nI k) := by
    intro m
    induction m with
    | zero =>
      intro k he hm hk
      have e : k = 6 := by omega
      subst e
      exact ⟨fun _ => h _, fun z => absurd (by decide) z⟩
    | succ m ih =>
      intro k he hm hk
      show lb_X8_begins_33 _ _ _ _ _ _ _ _ _ _ _ _ _ _ _ _ _ _ _
      unfold lb_X8_begins_33
      rw [nI_1]
      have ik : vp_in (nI k) 6 := pk_in k 6 (by omega)
      exact ⟨fun z => absurd z (nI_ge (b := 6) (by omega) (by decide)), fun _ => ⟨pk_in p 6 hp, fun _ => ⟨ik, ih (k + 1) _ (by omega) (by omega)⟩, fun _ => sp_X8_beginsWith hp hi hi2 (by omega) hx (fun r => ⟨ik, ih (k + 1) _ (by omega) (by omega)⟩)⟩⟩
  exact ⟨6 - 0 + 1, key (6 - 0) 0 he rfl (by decide)⟩
theorem sp_X8_freshens {we : Nat → Int32} {Φ : (Nat → Int32) → Prop} (h : ∀ we', Φ we') : wp_X8_freshens we Φ := by
  have key : ∀ m k (we : Nat → Int32), m = 16 - k → k ≤ 16 → lf_X8_freshens_2 Φ (m + 1) we (nI k) := by
    intro m
    induction m with
    | zero =>
      intro k we hm hk
      have e : k = 16 := by omega
      subst e
      exact ⟨fun _ => h _, fun z => absurd (by decide) z⟩
    | succ m ih =>
      intro k we hm hk
      show lb_X8_freshens_2 _ _ _ _
      unfold lb_X8_freshens_2
      rw [nI_1]
      exact ⟨fun z => absurd z (nI_ge (b := 16) (by omega) (by decide)), fun _ => ⟨pk_in k 16 (by omega), ih (k + 1) _ (by omega) (by omega)⟩⟩
  exact ⟨16 - 0 + 1, key (16 - 0) 0 we rfl (by decide)⟩
end
section
abbrev PG : Type := Int32 → Int32 → Int32 → Int32 → Int32 → (Nat → Int32) → (Nat → Int32) → (Nat → Int32) → (Nat → Int32) → (Nat → Int32) → (Nat → Int32) → (Nat → Int32) → (Nat → Int32) → (Nat → Int32) → (Nat → Int32) → (Nat → Int32) → (Nat → Int32) → (Nat → Int32) → (Nat → Int32) → (Nat → Int32) → Prop
section GO
variable {p l u0 : Nat} {w : Int32} {ln be ta ac ls tw lf lt cd : Nat → Int32} {Φ : PG}
def GH (l u0 : Nat) (Φ : PG) : Prop := ∀ x isE isF u md k1 k2 k3 k4 k5 k6 k7 k8 k9 vo he we sr go pk, x ≤ l → u ≤ u0 + 1000 → md ≤ 1000 → Φ (nI x) isE isF (nI u) (nI md) k1 k2 k3 k4 k5 k6 k7 k8 k9 vo he we sr go pk
theorem sp_go33 (hp : p < 6) (hl : ln p = nI l) (h16 : l ≤ 16) (hu0 : u0 ≤ 1000000) (hLN : ∀ j, j < l → LN p j ta ac ls lf lt cd) (hΦ : GH l u0 Φ) : ∀ (m x : Nat) (isE isF : Int32) (u md : Nat) (k1 k2 k3 k4 k5 k6 k7 k8 k9 vo he we sr go pk : Nat → Int32), x ≤ l → (isE = 0 → x < l) → u ≤ u0 + md → md ≤ 1000 → 1001 - md ≤ m → lf_X8_goesOn_33 (nI p) w ln be ta ac ls tw lf lt cd Φ m (nI x) isE isF (nI u) (nI md) k1 k2 k3 k4 k5 k6 k7 k8 k9 vo he we sr go pk := by
  intro m
  induction m with
  | zero => intro x isE isF u md k1 k2 k3 k4 k5 k6 k7 k8 k9 vo he we sr go pk _ _ _ h1 h2; omega
  | succ m ih =>
    intro x isE isF u md k1 k2 k3 k4 k5 k6 k7 k8 k9 vo he we sr go pk hx hxl hu hmd hm
    show lb_X8_goesOn_33 _ _ _ _ _ _ _ _ _ _ _ _ _ _ _ _ _ _ _ _ _ _ _ _ _ _ _ _ _ _ _ _ _
    unfold lb_X8_goesOn_33
    have out := fun (e f : Int32) => hΦ x e f u md k1 k2 k3 k4 k5 k6 k7 k8 k9 vo he we sr go pk hx (by omega) hmd
    refine ⟨fun _ => out _ _, fun e0 => ⟨fun _ => out _ _, fun f0 => ?_⟩⟩
    have hj := hxl e0
    have ix : vp_in (nI x) 16 := pk_in x 16 (by omega)
    subst f0
    have k122 : (md < 1000 ∨ (w = 0 ∧ ¬ we (nI x).toNatClampNeg < be (4 * nI p + ls (16 * nI p + nI x).toNatClampNeg).toNatClampNeg * tw (16 * nI p + nI x).toNatClampNeg)) → kf_X8_goesOn_122 (nI p) w ln be ta ac ls tw lf lt cd (lf_X8_goesOn_33 (nI p) w ln be ta ac ls tw lf lt cd Φ m) Φ (nI x) isE 0 (nI u) (nI md) k1 k2 k3 k4 k5 k6 k7 k8 k9 vo he we sr go pk (nI x) (we (nI x).toNatClampNeg) := by
      intro hor
      unfold kf_X8_goesOn_122
      rw [nI_1]
      refine sp_X8_stepsOn hp hl hj h16 (by omega) (hLN x hj) (fun _ _ _ _ _ _ _ _ _ _ _ _ _ _ => ⟨fun z => absurd z (by decide), fun _ => hΦ x _ _ u md _ _ _ _ _ _ _ _ _ _ _ _ _ _ _ hx (by omega) hmd⟩) (fun hc x' isE' u' _ _ _ _ _ _ _ _ _ _ _ _ _ hx' hE' hxl' hu' => ⟨fun _ => ⟨ix, ix, ix, ix, ?_⟩, fun z => absurd rfl z⟩)
      have hlt : md < 1000 := hor.elim id (fun z => absurd (hc z.1) z.2)
      exact ih x' isE' 0 u' (md + 1) _ _ _ _ _ _ _ _ _ _ _ _ _ _ _ hx' hxl' (by omega) (by omega) (by omega)
    refine ⟨ix, fun hne => k122 (Or.inl (Nat.lt_of_le_of_ne hmd (fun e => hne (by rw [e]; rfl)))), fun _ => ⟨fun _ => out _ _, fun w0 => ?_⟩⟩
    have hq : (16 : Int32) * nI p + nI x = nI (16 * p + x) := by rw [show (16 : Int32) = nI 16 from rfl, pk_mul, nI_add]
    have iq : vp_in ((16 : Int32) * nI p + nI x) 96 := by rw [hq]; exact pk_in (16 * p + x) 96 (by omega)
    obtain ⟨⟨xs, xs4, hxs⟩, -⟩ := hLN x hj
    have i4 : vp_in ((4 : Int32) * nI p + ls ((16 : Int32) * nI p + nI x).toNatClampNeg) 24 := by
      rw [hq, nI_clamp (by omega), hxs, show (4 : Int32) = nI 4 from rfl, pk_mul, nI_add]
      exact pk_in (4 * p + xs) 24 (by omega)
    exact ⟨iq, i4, iq, fun hle => k122 (Or.inr ⟨w0, Int32.not_lt.mpr hle⟩), fun _ => out _ _⟩
theorem sp_X8_goesOn {x u : Nat} {isE isF f0 : Int32} {k1 k2 k3 k4 k5 k6 k7 k8 k9 vo he we sr go pk : Nat → Int32} (hp : p < 6) (hl : ln p = nI l) (h16 : l ≤ 16) (hu0 : u ≤ 1000000) (hLN : ∀ j, j < l → LN p j ta ac ls lf lt cd) (hx : x ≤ l) (hxl : isE = 0 → x < l) (hΦ : GH l u Φ) : wp_X8_goesOn (nI p) w ln be ta ac ls tw lf lt cd (nI x) isE isF (nI u) f0 k1 k2 k3 k4 k5 k6 k7 k8 k9 vo he we sr go pk Φ := by
  have key : ∀ m k (go pk : Nat → Int32), m = 16 - k → k ≤ 16 → lf_X8_goesOn_7 (nI p) w ln be ta ac ls tw lf lt cd Φ (m + 1) (nI x) isE isF (nI u) 0 k1 k2 k3 k4 k5 k6 k7 k8 k9 vo he we sr go pk (nI k) := by
    intro m
    induction m with
    | zero =>
      intro k go pk hm hk
      have e : k = 16 := by omega
      subst e
      exact ⟨fun _ => ⟨1001, sp_go33 hp hl h16 hu0 hLN hΦ 1001 x isE isF u 0 _ _ _ _ _ _ _ _ _ _ _ _ _ _ _ hx hxl (by omega) (by omega) (by omega)⟩, fun z => absurd (by decide) z⟩
    | succ m ih =>
      intro k go pk hm hk
      show lb_X8_goesOn_7 _ _ _ _ _ _ _ _ _ _ _ _ _ _ _ _ _ _ _ _ _ _ _ _ _ _ _ _ _ _ _ _ _ _
      unfold lb_X8_goesOn_7
      rw [nI_1]
      have ik : vp_in (nI k) 16 := pk_in k 16 (by omega)
      exact ⟨fun z => absurd z (nI_ge (b := 16) (by omega) (by decide)), fun _ => ⟨ik, ik, ih (k + 1) _ _ (by omega) (by omega)⟩⟩
  exact ⟨16 - 0 + 1, key (16 - 0) 0 go pk rfl (by decide)⟩
end GO
/-- what a run wants of the programme at p -/
def RP (p l : Nat) (ip ln le mo ta ac ls lf lt cd : Nat → Int32) : Prop := p < 6 ∧ ln p = nI l ∧ l ≤ 16 ∧ (∃ i : Nat, i ≤ 2 ∧ ip p = nI i ∧ ∀ j, j < i → ∃ a m : Nat, le (2 * p + j) = nI a ∧ mo (2 * p + j) = nI m ∧ a ≤ m ∧ m ≤ 9999) ∧ ∀ j, j < l → LN p j ta ac ls lf lt cd
theorem GM.rp {p : Nat} {st ce ip ln le mo ta ac ls lf lt cd : Nat → Int32} (h : GM st ce ip ln le mo ta ac ls lf lt cd) (hp : p < 6) (hp1 : ¬ p = 1) : ∃ l : Nat, RP p l ip ln le mo ta ac ls lf lt cd := by
  obtain ⟨-, -, h3, ⟨l, a1, a2, a3⟩⟩ := h p hp hp1
  exact ⟨l, hp, a2, a1, h3, fun j hj => ⟨(a3 j hj).1, 1000 * p + 1000, by omega, (a3 j hj).2⟩⟩
abbrev PTr : Type := Int32 → Int32 → PG
theorem sp_X8_tries {p l : Nat} {v w f1 f2 f3 f4 f5 f6 f7 : Int32} {ce ip ln be ca ic le mo ta ac ls tw lf lt cd : Nat → Int32} {k1 k2 k3 k4 k5 k6 k7 k8 k9 vo he we sr go pk : Nat → Int32} {Φ : PTr} (h : RP p l ip ln le mo ta ac ls lf lt cd) (hl0 : 0 < l) (hΦ : GH l 0 (Φ (nI p) w)) : wp_X8_tries ce ip ln be ca ic le mo ta ac ls tw lf lt cd (nI p) v w f1 f2 f3 f4 f5 f6 f7 k1 k2 k3 k4 k5 k6 k7 k8 k9 vo he we sr go pk Φ := by
  obtain ⟨hp, hl, h16, ⟨i, hi2, hi, hx⟩, hLN⟩ := h
  unfold wp_X8_tries
  exact sp_X8_freshens (fun we' => sp_X8_begins hp hi hi2 hx (fun he' => sp_X8_goesOn (x := 0) (u := 0) hp hl h16 (by decide) hLN (Nat.zero_le _) (fun _ => hl0) hΦ))
end
section
theorem in_of {x : Int32} {a n : Nat} {y : Int32} (hy : y = nI a) (h0 : ¬ x < 0) (h1 : ¬ y ≤ x) (ha : a ≤ n) (hn : n < 2 ^ 31) : vp_in x n := by
  obtain ⟨j, hj, rfl⟩ := nI_of h0
  rw [hy] at h1
  exact vp_in_nI (Nat.lt_of_lt_of_le (Nat.lt_of_not_le (fun z => h1 (nI_le z hj))) ha) hn
theorem sp_X8_isLine {ln : Nat → Int32} {x : Int32} {Φ : Int32 → Prop} (h1 : ¬ x < 0 → ¬ ln 0 ≤ x → Φ 1) (h0 : Φ 0) : wp_X8_isLine ln x Φ := ⟨fun _ => h0, fun a => ⟨fun _ => h0, fun b => h1 a b⟩⟩
theorem sp_X8_isStuff {ln : Nat → Int32} {x : Int32} {Φ : Int32 → Prop} (h1 : ¬ x < 0 → ¬ ln 0 ≤ x → Φ 1) (h0 : Φ 0) : wp_X8_isStuff ln x Φ := ⟨fun _ => h0, fun a => ⟨fun _ => h0, fun b => h1 a b⟩⟩
theorem sp_X8_isCell {ln : Nat → Int32} {x : Int32} {Φ : Int32 → Prop} (h1 : ¬ x < 0 → ¬ ln 0 ≤ x → Φ 1) (h0 : Φ 0) : wp_X8_isCell ln x Φ := ⟨fun _ => h0, fun a => ⟨fun _ => h0, fun b => h1 a b⟩⟩
section PUB
variable {st ce ip ln be co ca ic le mo ta ac ls tw lf lt cd wo hc : Nat → Int32}
theorem sp_X8_stuff {x y F : Int32} {Φ : Int32 → Int32 → Prop} (h : GM st ce ip ln le mo ta ac ls lf lt cd) (hΦ : ∀ r, Φ r 0) : wp_X8_stuff st be co x y F Φ := by
  obtain ⟨⟨s, s4, hs⟩, -⟩ := h 0 (by decide) (by decide)
  unfold wp_X8_stuff
  refine sp_X8_isStuff (fun a b => ⟨fun _ => hΦ _, fun _ => ?_⟩) ⟨fun _ => hΦ _, fun z => absurd rfl z⟩
  have i : vp_in x 24 := in_of hs a b (by omega) (by decide)
  exact sp_X8_within (fun _ _ => ⟨fun _ => ⟨fun _ => ⟨i, hΦ _⟩, fun _ => ⟨i, hΦ _⟩⟩, fun _ => hΦ _⟩) (fun _ => ⟨fun z => absurd rfl z, fun _ => hΦ _⟩)
theorem sp_X8_bearsOf {x : Int32} {Φ : Int32 → Prop} (h : GM st ce ip ln le mo ta ac ls lf lt cd) (h0 : ¬ x < 0) (h1 : ¬ ln 0 ≤ x) (hΦ : ∀ r, Φ r) : wp_X8_bearsOf be ls tw x Φ := by
  obtain ⟨-, -, -, ⟨l, l16, hl, hL⟩⟩ := h 0 (by decide) (by decide)
  obtain ⟨j, hj, rfl⟩ := nI_of h0
  have hjl : j < l := Nat.lt_of_not_le (fun z => h1 (by rw [hl]; exact nI_le z hj))
  obtain ⟨⟨y, y4, ey⟩, -⟩ := hL j hjl
  rw [show 16 * 0 + j = j by omega] at ey
  unfold wp_X8_bearsOf
  rw [nI_clamp (by omega), ey]
  have i : vp_in (nI j) 96 := pk_in j 96 (by omega)
  exact ⟨i, pk_in y 24 (by omega), i, hΦ _⟩
theorem sp_X8_line {x y F : Int32} {Φ : Int32 → Int32 → Prop} (h : GM st ce ip ln le mo ta ac ls lf lt cd) (hΦ : ∀ r, Φ r 0) : wp_X8_line ln be ta ls tw wo x y F Φ := by
  obtain ⟨-, -, -, ⟨l, l16, hl, hL⟩⟩ := h 0 (by decide) (by decide)
  unfold wp_X8_line
  refine sp_X8_isLine (fun a b => ⟨fun _ => hΦ _, fun _ => ?_⟩) ⟨fun _ => hΦ _, fun z => absurd rfl z⟩
  have i : vp_in x 96 := in_of hl a b (by omega) (by decide)
  have i6 : vp_in x 16 := in_of hl a b (by omega) (by decide)
  exact sp_X8_within (fun _ _ => ⟨fun _ => ⟨fun _ => ⟨fun _ => ⟨fun _ => ⟨fun _ => ⟨i6, hΦ _⟩, fun _ => sp_X8_bearsOf h a b (fun r => hΦ r)⟩, fun _ => ⟨i, hΦ _⟩⟩, fun _ => ⟨i, hΦ _⟩⟩, fun _ => ⟨i, hΦ _⟩⟩, fun _ => hΦ _⟩) (fun _ => ⟨fun z => absurd rfl z, fun _ => hΦ _⟩)
theorem GM.lay {x y : Nat} (h : GM st ce ip ln le mo ta ac ls lf lt cd) (hx : x < 16) (hy : y < 4) : GM st ce ip ln le mo ta ac (upd ls x (nI y)) lf lt cd := by
  intro p hp hp1
  obtain ⟨a, b, c, ⟨l, l16, hl, hL⟩⟩ := h p hp hp1
  refine ⟨a, b, c, l, l16, hl, fun j hj => ?_⟩
  obtain ⟨⟨z, z4, ez⟩, w⟩ := hL j hj
  refine ⟨?_, w⟩
  by_cases e : 16 * p + j = x
  · exact ⟨y, hy, by rw [e]; exact pk_us⟩
  · exact ⟨z, z4, by rw [pk_un e]; exact ez⟩
theorem sp_X8_lay {x y z F : Int32} {Φ : Int32 → Int32 → (Nat → Int32) → (Nat → Int32) → (Nat → Int32) → Prop} (h : GM st ce ip ln le mo ta ac ls lf lt cd) (hΦ : ∀ r ls' tw' wo', (r = 0 ∨ r = 1) → GM st ce ip ln le mo ta ac ls' lf lt cd → Φ r 0 ls' tw' wo') : wp_X8_lay st ln x y z F ls tw wo Φ := by
  obtain ⟨⟨s, s4, hs⟩, -, -, ⟨l, l16, hl, hL⟩⟩ := h 0 (by decide) (by decide)
  unfold wp_X8_lay
  have f := hΦ 0 ls tw wo (Or.inl rfl) h
  refine sp_X8_isLine (fun a b => ⟨fun _ => f, fun _ => ?_⟩) ⟨fun _ => f, fun z => absurd rfl z⟩
  refine sp_X8_isStuff (fun a2 b2 => ⟨fun _ => f, fun _ => ?_⟩) ⟨fun _ => f, fun z => absurd rfl z⟩
  have i : vp_in x 96 := in_of hl a b (by omega) (by decide)
  have i6 : vp_in x 16 := in_of hl a b (by omega) (by decide)
  refine sp_X8_within (fun _ _ => ⟨fun _ => ⟨i, i, i6, hΦ 1 _ _ _ (Or.inr rfl) ?_⟩, fun _ => f⟩) (fun _ => ⟨fun z => absurd rfl z, fun _ => f⟩)
  obtain ⟨j, hj, rfl⟩ := nI_of a
  obtain ⟨k, hk, rfl⟩ := nI_of a2
  rw [nI_clamp hj]
  exact h.lay (Nat.lt_of_lt_of_le (Nat.lt_of_not_le (fun z => b (by rw [hl]; exact nI_le z hj))) l16) (Nat.lt_of_lt_of_le (Nat.lt_of_not_le (fun z => b2 (by rw [hs]; exact nI_le z hk))) s4)
theorem sp_X8_cost {F : Int32} {Φ : Int32 → Int32 → Prop} (h : GM st ce ip ln le mo ta ac ls lf lt cd) (hΦ : ∀ r, Φ r 0) : wp_X8_cost ln co ls tw F Φ := by
  obtain ⟨-, -, -, ⟨l, l16, hl, hL⟩⟩ := h 0 (by decide) (by decide)
  have key : ∀ m k (v : Int32), m = l - k → k ≤ l → lf_X8_cost_9 ln co ls tw Φ (m + 1) 0 v (nI k) := by
    intro m
    induction m with
    | zero =>
      intro k v hm hk
      show lb_X8_cost_9 _ _ _ _ _ _ _ _ _
      unfold lb_X8_cost_9
      rw [hl]
      exact ⟨fun _ => hΦ _, fun z => absurd (nI_le (by omega) (by omega)) z⟩
    | succ m ih =>
      intro k v hm hk
      show lb_X8_cost_9 _ _ _ _ _ _ _ _ _
      unfold lb_X8_cost_9
      obtain ⟨⟨y, y4, ey⟩, -⟩ := hL k (by omega)
      rw [show 16 * 0 + k = k by omega] at ey
      rw [hl, nI_clamp (n := k) (by omega), ey, nI_1]
      have i : vp_in (nI k) 96 := pk_in k 96 (by omega)
      exact ⟨fun z => absurd z (nI_ge (by omega) (by omega)), fun _ => ⟨i, pk_in y 24 (by omega), i, ih (k + 1) _ (by omega) (by omega)⟩⟩
  exact ⟨l - 0 + 1, key (l - 0) 0 0 rfl (Nat.zero_le _)⟩
theorem sp_X8_inputs {F : Int32} {Φ : Int32 → Int32 → Prop} (h : GM st ce ip ln le mo ta ac ls lf lt cd) (hΦ : ∀ r, Φ r 0) : wp_X8_inputs ip le mo F Φ := by
  obtain ⟨-, -, ⟨i, i2, hi, hx⟩, -⟩ := h 0 (by decide) (by decide)
  exact sp_X8_inputsOf (p := 0) (by decide) hi i2 hx (fun m _ _ => hΦ _)
theorem sp_X8_input {x y F : Int32} {Φ : Int32 → Int32 → Prop} (h : GM st ce ip ln le mo ta ac ls lf lt cd) (hΦ : ∀ r, Φ r 0) : wp_X8_input ce ip ca ic le mo x y F Φ := by
  obtain ⟨-, ⟨k, k6, hk⟩, ⟨i, i2, hi, hx⟩, -⟩ := h 0 (by decide) (by decide)
  unfold wp_X8_input
  refine ⟨fun _ => hΦ _, fun _ => sp_X8_inputsOf (p := 0) (by decide) hi i2 hx (fun m _ _ => ⟨fun _ => hΦ _, fun _ => sp_X8_isCell (fun a b => ⟨fun _ => hΦ _, fun _ => ?_⟩) ⟨fun _ => hΦ _, fun z => absurd rfl z⟩⟩)⟩
  obtain ⟨j, hj, rfl⟩ := nI_of a
  exact sp_X8_beginsWith (p := 0) (by decide) hi i2 (Nat.lt_of_lt_of_le (Nat.lt_of_not_le (fun z => b (by rw [hk]; exact nI_le z hj))) k6) hx (fun r => hΦ r)
theorem sp_X8_begin {x F sta hn hs hw : Int32} {Φ : Int32 → Int32 → Int32 → Int32 → Int32 → Int32 → (Nat → Int32) → Prop} (h : GM st ce ip ln le mo ta ac ls lf lt cd) (h0 : Φ 0 0 sta hn hs hw hc) (h1 : ∀ hc', ¬ ln 0 = 0 → Φ 1 0 1 0 0 0 hc') : wp_X8_begin ce ip ln ca ic le mo x F sta hn hs hw hc Φ := by
  obtain ⟨-, ⟨k, k6, hk⟩, ⟨i, i2, hi, hx⟩, -⟩ := h 0 (by decide) (by decide)
  unfold wp_X8_begin
  refine ⟨fun _ => h0, fun hl0 => ⟨fun _ => h0, fun _ => sp_X8_inputsOf (p := 0) (by decide) hi i2 hx (fun m _ _ => ⟨fun _ => ?_, fun _ => h0⟩)⟩⟩
  have key : ∀ m k (hc : Nat → Int32), m = 6 - k → k ≤ 6 → lf_X8_begin_51 ce ip ln ca ic le mo x Φ (m + 1) 0 1 0 0 0 hc (nI k) := by
    intro m
    induction m with
    | zero =>
      intro k hc hm hk
      have e : k = 6 := by omega
      subst e
      exact ⟨fun _ => h1 _ hl0, fun z => absurd (by decide) z⟩
    | succ m ih =>
      intro k hc hm hk
      show lb_X8_begin_51 _ _ _ _ _ _ _ _ _ _ _ _ _ _ _ _ _
      unfold lb_X8_begin_51
      rw [nI_1]
      have ik : vp_in (nI k) 6 := pk_in k 6 (by omega)
      exact ⟨fun z => absurd z (nI_ge (b := 6) (by omega) (by decide)), fun _ => ⟨fun _ => ⟨ik, ih (k + 1) _ (by omega) (by omega)⟩, fun _ => sp_X8_beginsWith (p := 0) (by decide) hi i2 (by omega) hx (fun r => ⟨ik, ih (k + 1) _ (by omega) (by omega)⟩)⟩⟩
  exact ⟨6 - 0 + 1, key (6 - 0) 0 hc rfl (by decide)⟩
end PUB
end
section
/-- the hand's state: which of 0 .. 4, where next, the counts -/
def HS (l : Nat) (sta hn hs hw : Int32) : Prop := (sta = 0 ∨ sta = 1 ∨ sta = 2 ∨ sta = 3 ∨ sta = 4) ∧ (∃ s u : Nat, hs = nI s ∧ hw = nI u ∧ u ≤ s ∧ s ≤ 1000000) ∧ ((sta = 1 ∨ sta = 3) → ∃ j : Nat, j < l ∧ hn = nI j)
abbrev PRn : Type := Int32 → Int32 → Int32 → Int32 → Int32 → Int32 → Int32 → Int32 → Int32 → Int32 → Int32 → Int32 → (Nat → Int32) → (Nat → Int32) → (Nat → Int32) → (Nat → Int32) → (Nat → Int32) → (Nat → Int32) → (Nat → Int32) → (Nat → Int32) → (Nat → Int32) → (Nat → Int32) → (Nat → Int32) → (Nat → Int32) → (Nat → Int32) → (Nat → Int32) → (Nat → Int32) → (Nat → Int32) → Prop
section RUN
variable {l : Nat} {x0 : Int32} {ln be ta ac ls tw lf lt cd : Nat → Int32} {Φ : PRn}
def RH2 (l : Nat) (Φ : PRn) : Prop := ∀ r at0 wy nx isE isF wr sta hn hs hw k1 k2 k3 k4 k5 k6 k7 k8 k9 vo he we sr hc wo hst, HS l sta hn hs hw → Φ r 0 at0 wy nx isE isF wr sta hn hs hw k1 k2 k3 k4 k5 k6 k7 k8 k9 vo he we sr hc wo hst
theorem sp_run220 (hΦ : RH2 l Φ) {at0 wy nx isE isF wr sta hn hs hw l2 : Int32} {k1 k2 k3 k4 k5 k6 k7 k8 k9 vo he we sr hc hst : Nat → Int32} (hH : HS l sta hn hs hw) : ∀ (m k : Nat) (wo : Nat → Int32), m = 16 - k → k ≤ 16 → lf_X8_run_220 ln be ta ac ls tw lf lt cd x0 Φ (m + 1) 0 at0 wy nx isE isF wr sta hn hs hw k1 k2 k3 k4 k5 k6 k7 k8 k9 vo he we sr hc wo hst l2 (nI k) := by
  intro m
  induction m with
  | zero =>
    intro k wo hm hk
    have e : k = 16 := by omega
    subst e
    exact ⟨fun _ => hΦ _ _ _ _ _ _ _ _ _ _ _ _ _ _ _ _ _ _ _ _ _ _ _ _ _ _ _ hH, fun z => absurd (by decide) z⟩
  | succ m ih =>
    intro k wo hm hk
    show lb_X8_run_220 _ _ _ _ _ _ _ _ _ _ _ _ _ _ _ _ _ _ _ _ _ _ _ _ _ _ _ _ _ _ _ _ _ _ _ _ _ _ _ _ _
    unfold lb_X8_run_220
    rw [nI_1]
    have ik : vp_in (nI k) 16 := pk_in k 16 (by omega)
    exact ⟨fun z => absurd z (nI_ge (b := 16) (by omega) (by decide)), fun _ => ⟨ik, ik, ih (k + 1) _ (by omega) (by omega)⟩⟩
theorem sp_run194 (hΦ : RH2 l Φ) {at0 wy nx isE isF wr sta hn hs hw l2 : Int32} {k1 k2 k3 k4 k5 k6 k7 k8 k9 vo he we sr wo hst : Nat → Int32} (hH : HS l sta hn hs hw) : ∀ (m k : Nat) (hc : Nat → Int32), m = 6 - k → k ≤ 6 → lf_X8_run_194 ln be ta ac ls tw lf lt cd x0 Φ (m + 1) 0 at0 wy nx isE isF wr sta hn hs hw k1 k2 k3 k4 k5 k6 k7 k8 k9 vo he we sr hc wo hst l2 (nI k) := by
  intro m
  induction m with
  | zero =>
    intro k hc hm hk
    have e : k = 6 := by omega
    subst e
    exact ⟨fun _ => ⟨16 - 0 + 1, sp_run220 hΦ hH (16 - 0) 0 _ rfl (by decide)⟩, fun z => absurd (by decide) z⟩
  | succ m ih =>
    intro k hc hm hk
    show lb_X8_run_194 _ _ _ _ _ _ _ _ _ _ _ _ _ _ _ _ _ _ _ _ _ _ _ _ _ _ _ _ _ _ _ _ _ _ _ _ _ _ _ _ _
    unfold lb_X8_run_194
    rw [nI_1]
    have ik : vp_in (nI k) 6 := pk_in k 6 (by omega)
    exact ⟨fun z => absurd z (nI_ge (b := 6) (by omega) (by decide)), fun _ => ⟨ik, ik, ih (k + 1) _ (by omega) (by omega)⟩⟩
theorem sp_run143 (hΦ : RH2 l Φ) {x s u : Nat} {at0 wy isE isF wr sta hn l2 : Int32} {k1 k2 k3 k4 k5 k6 k7 k8 k9 vo he we sr hc wo hst : Nat → Int32} (hs : s ≤ 1000000) (hu : u ≤ s) (hx : isE = 0 → x < l) : kf_X8_run_143 ln be ta ac ls tw lf lt cd x0 Φ 0 at0 wy (nI x) isE isF wr sta hn (nI s) (nI u) k1 k2 k3 k4 k5 k6 k7 k8 k9 vo he we sr hc wo hst l2 := by
  unfold kf_X8_run_143
  have g : ∀ t : Int32, (t = 0 ∨ t = 1 ∨ t = 2 ∨ t = 3 ∨ t = 4) → ((t = 1 ∨ t = 3) → x < l) → ∃ n_, lf_X8_run_194 ln be ta ac ls tw lf lt cd x0 Φ n_ 0 at0 wy (nI x) isE isF wr t (nI x) (nI s) (nI u) k1 k2 k3 k4 k5 k6 k7 k8 k9 vo he we sr hc wo hst l2 0 := fun t h1 h2 => ⟨6 - 0 + 1, sp_run194 hΦ ⟨h1, ⟨s, u, rfl, rfl, hu, hs⟩, fun z => ⟨x, h2 z, rfl⟩⟩ (6 - 0) 0 _ rfl (by decide)⟩
  exact ⟨fun e => ⟨fun _ => ⟨fun _ => g 1 (by decide) (fun _ => hx e), fun _ => g 4 (by decide) (fun z => absurd z (by decide))⟩, fun _ => g 3 (by decide) (fun _ => hx e)⟩, fun _ => g 2 (by decide) (fun z => absurd z (by decide))⟩
theorem sp_run34 (hl : ln 0 = nI l) (h16 : l ≤ 16) (hLN : ∀ j, j < l → LN 0 j ta ac ls lf lt cd) (hΦ : RH2 l Φ) {sta hn : Int32} : ∀ (m s u x : Nat) (isE isF wr l2 : Int32) (k1 k2 k3 k4 k5 k6 k7 k8 k9 vo he we sr hc wo hst : Nat → Int32), m = 1000000 - s → s ≤ 1000000 → u ≤ s → (isE = 0 → x < l) → lf_X8_run_34 ln be ta ac ls tw lf lt cd x0 Φ (m + 1) 0 0 0 (nI x) isE isF wr sta hn (nI s) (nI u) k1 k2 k3 k4 k5 k6 k7 k8 k9 vo he we sr hc wo hst l2 := by
  intro m
  induction m with
  | zero =>
    intro s u x isE isF wr l2 k1 k2 k3 k4 k5 k6 k7 k8 k9 vo he we sr hc wo hst hm hs hu hx
    show lb_X8_run_34 _ _ _ _ _ _ _ _ _ _ _ _ _ _ _ _ _ _ _ _ _ _ _ _ _ _ _ _ _ _ _ _ _ _ _ _ _ _ _ _
    unfold lb_X8_run_34
    have e : s = 1000000 := by omega
    have d := sp_run143 (ln := ln) (be := be) (ta := ta) (ac := ac) (ls := ls) (tw := tw) (lf := lf) (lt := lt) (cd := cd) (x0 := x0) hΦ (x := x) (s := s) (u := u) (at0 := 0) (wy := 0) (isE := isE) (isF := isF) (wr := wr) (sta := sta) (hn := hn) (l2 := l2) (k1 := k1) (k2 := k2) (k3 := k3) (k4 := k4) (k5 := k5) (k6 := k6) (k7 := k7) (k8 := k8) (k9 := k9) (vo := vo) (he := he) (we := we) (sr := sr) (hc := hc) (wo := wo) (hst := hst) hs hu hx
    exact ⟨fun _ => d, fun _ => ⟨fun _ => d, fun _ => ⟨fun _ => d, fun _ => ⟨fun _ => d, fun z => absurd (by rw [e]; decide) z⟩⟩⟩⟩
  | succ m ih =>
    intro s u x isE isF wr l2 k1 k2 k3 k4 k5 k6 k7 k8 k9 vo he we sr hc wo hst hm hs hu hx
    show lb_X8_run_34 _ _ _ _ _ _ _ _ _ _ _ _ _ _ _ _ _ _ _ _ _ _ _ _ _ _ _ _ _ _ _ _ _ _ _ _ _ _ _ _
    unfold lb_X8_run_34
    have d := sp_run143 (ln := ln) (be := be) (ta := ta) (ac := ac) (ls := ls) (tw := tw) (lf := lf) (lt := lt) (cd := cd) (x0 := x0) hΦ (x := x) (s := s) (u := u) (at0 := 0) (wy := 0) (isE := isE) (isF := isF) (wr := wr) (sta := sta) (hn := hn) (l2 := l2) (k1 := k1) (k2 := k2) (k3 := k3) (k4 := k4) (k5 := k5) (k6 := k6) (k7 := k7) (k8 := k8) (k9 := k9) (vo := vo) (he := he) (we := we) (sr := sr) (hc := hc) (wo := wo) (hst := hst) hs hu hx
    refine ⟨fun _ => d, fun _ => ⟨fun _ => d, fun e0 => ⟨fun _ => d, fun f0 => ⟨fun _ => d, fun _ => ?_⟩⟩⟩⟩
    have hj := hx e0
    subst f0
    rw [nI_1, nI_1]
    refine sp_X8_stepsOn (p := 0) (u := 0) (by decide) hl hj h16 (by decide) (hLN x hj) (fun _ _ _ _ _ _ _ _ _ _ _ _ _ _ => ⟨fun z => absurd z (by decide), fun _ => sp_run143 hΦ hs hu hx⟩) (fun _ x' isE' u' _ _ _ _ _ _ _ _ _ _ _ _ _ hx' hE' hxl' hu' => ⟨fun _ => ⟨fun _ => ⟨fun _ => ?_, fun h2 => ⟨?_, ?_⟩⟩, fun _ => ?_⟩, fun z => absurd rfl z⟩)
    · exact ih (s + 1) (u + 1) x' isE' 0 _ _ _ _ _ _ _ _ _ _ _ _ _ _ _ _ _ _ (by omega) (by omega) (by omega) hxl'
    · have : u < 200 := Nat.lt_of_not_le (fun z => h2 (nI_le (a := 200) z (by omega)))
      exact pk_in u 200 this
    · exact ih (s + 1) (u + 1) x' isE' 0 _ _ _ _ _ _ _ _ _ _ _ _ _ _ _ _ _ _ (by omega) (by omega) (by omega) hxl'
    · exact ih (s + 1) u x' isE' 0 _ _ _ _ _ _ _ _ _ _ _ _ _ _ _ _ _ _ (by omega) (by omega) (by omega) hxl'
end RUN
end
section
theorem sp_X8_takesUp {hn f1 f2 f3 f4 f5 : Int32} {hc wo he we : Nat → Int32} {Φ : Int32 → Int32 → Int32 → Int32 → Int32 → (Nat → Int32) → (Nat → Int32) → Prop} (hΦ : ∀ he' we', Φ 0 0 hn 0 0 he' we') : wp_X8_takesUp hn hc wo f1 f2 f3 f4 f5 he we Φ := by
  have k2 : ∀ (m k : Nat) (he we : Nat → Int32), m = 16 - k → k ≤ 16 → lf_X8_takesUp_56 hn hc wo Φ (m + 1) 0 0 hn 0 0 he we (nI k) := by
    intro m
    induction m with
    | zero =>
      intro k he we hm hk
      have e : k = 16 := by omega
      subst e
      exact ⟨fun _ => hΦ _ _, fun z => absurd (by decide) z⟩
    | succ m ih =>
      intro k he we hm hk
      show lb_X8_takesUp_56 _ _ _ _ _ _ _ _ _ _ _ _ _
      unfold lb_X8_takesUp_56
      rw [nI_1]
      have ik : vp_in (nI k) 16 := pk_in k 16 (by omega)
      exact ⟨fun z => absurd z (nI_ge (b := 16) (by omega) (by decide)), fun _ => ⟨ik, ik, ih (k + 1) _ _ (by omega) (by omega)⟩⟩
  have k1 : ∀ (m k : Nat) (he : Nat → Int32), m = 6 - k → k ≤ 6 → lf_X8_takesUp_30 hn hc wo Φ (m + 1) 0 0 hn 0 0 he we (nI k) := by
    intro m
    induction m with
    | zero =>
      intro k he hm hk
      have e : k = 6 := by omega
      subst e
      exact ⟨fun _ => ⟨16 - 0 + 1, k2 (16 - 0) 0 _ _ rfl (by decide)⟩, fun z => absurd (by decide) z⟩
    | succ m ih =>
      intro k he hm hk
      show lb_X8_takesUp_30 _ _ _ _ _ _ _ _ _ _ _ _ _
      unfold lb_X8_takesUp_30
      rw [nI_1]
      have ik : vp_in (nI k) 6 := pk_in k 6 (by omega)
      exact ⟨fun z => absurd z (nI_ge (b := 6) (by omega) (by decide)), fun _ => ⟨ik, ik, ih (k + 1) _ (by omega) (by omega)⟩⟩
  exact ⟨6 - 0 + 1, k1 (6 - 0) 0 he rfl (by decide)⟩
theorem sp_X8_run {l : Nat} {x0 f0 f1 f2 f3 f4 f5 f6 sta hn hs hw : Int32} {st ce ip ln be le mo ta ac ls tw lf lt cd k1 k2 k3 k4 k5 k6 k7 k8 k9 vo he we sr hc wo hst : Nat → Int32} {Φ : PRn} (h : GM st ce ip ln le mo ta ac ls lf lt cd) (hl : ln 0 = nI l) (hl6 : l ≤ 16) (hH : HS l sta hn hs hw) (hΦ : RH2 l Φ) : wp_X8_run ln be ta ac ls tw lf lt cd x0 f0 f1 f2 f3 f4 f5 f6 sta hn hs hw k1 k2 k3 k4 k5 k6 k7 k8 k9 vo he we sr hc wo hst Φ := by
  obtain ⟨l', hr⟩ := h.rp (p := 0) (by decide) (by decide)
  obtain ⟨-, hl', h16, -, hLN⟩ := hr
  have e : l = l' := by
    have := hl.symm.trans hl'
    exact (nI_eq (by omega) (by omega)).mp this
  subst e
  unfold wp_X8_run
  have hH' := hH
  obtain ⟨h1, ⟨s, u, rfl, rfl, hu, hs⟩, h3⟩ := hH
  refine sp_X8_within (fun _ _ => ⟨fun _ => ⟨fun e1 => ?_, fun _ => hΦ _ _ _ _ _ _ _ _ _ _ _ _ _ _ _ _ _ _ _ _ _ _ _ _ _ _ _ hH'⟩, fun z => absurd z (by decide)⟩) (fun _ => ⟨fun z => absurd rfl z, fun _ => hΦ _ _ _ _ _ _ _ _ _ _ _ _ _ _ _ _ _ _ _ _ _ _ _ _ _ _ _ hH'⟩)
  obtain ⟨j, hj, rfl⟩ := h3 (Or.inl e1)
  exact sp_X8_takesUp (fun he' we' => ⟨1000000 - s + 1, sp_run34 hl' h16 hLN hΦ (1000000 - s) s u j 0 0 _ _ _ _ _ _ _ _ _ _ _ _ _ _ _ _ _ _ rfl hs hu (fun _ => hj)⟩)
theorem sp_X8_state {sta hn hs hw x0 F : Int32} {Φ : Int32 → Int32 → Prop} (hΦ : ∀ r, Φ r 0) : wp_X8_state sta hn hs hw x0 F Φ := by
  unfold wp_X8_state
  have k : ∀ r, (¬ r = (0 : Int32) → (¬ x0 = 0 → (¬ x0 = 1 → (¬ sta = 0 → (¬ x0 = 2 → Φ hw 0) ∧ (x0 = 2 → Φ hs 0)) ∧ (sta = 0 → Φ 0 0)) ∧ (x0 = 1 → (sta = 0 → Φ (-1) 0) ∧ (¬ sta = 0 → (¬ sta = 2 → Φ hn 0) ∧ (sta = 2 → Φ (-1) 0)))) ∧ (x0 = 0 → Φ sta 0)) ∧ (r = 0 → Φ (-1) 0) := fun r => ⟨fun _ => ⟨fun _ => ⟨fun _ => ⟨fun _ => ⟨fun _ => hΦ _, fun _ => hΦ _⟩, fun _ => hΦ _⟩, fun _ => ⟨fun _ => hΦ _, fun _ => ⟨fun _ => hΦ _, fun _ => hΦ _⟩⟩⟩, fun _ => hΦ _⟩, fun _ => hΦ _⟩
  exact sp_X8_within (fun _ _ => k _) (fun _ => k _)
theorem sp_X8_count {ta0 x0 F : Int32} {st ce ip ln : Nat → Int32} {Φ : Int32 → Int32 → Prop} (hΦ : ∀ r, Φ r 0) : wp_X8_count ta0 st ce ip ln x0 F Φ := by
  unfold wp_X8_count
  have k : ∀ r, (¬ r = (0 : Int32) → (¬ x0 = 0 → (¬ x0 = 1 → (¬ x0 = 2 → (¬ x0 = 3 → Φ ta0 0) ∧ (x0 = 3 → Φ (ln 0) 0)) ∧ (x0 = 2 → Φ (ip 0) 0)) ∧ (x0 = 1 → Φ (ce 0) 0)) ∧ (x0 = 0 → Φ (st 0) 0)) ∧ (r = 0 → Φ (-1) 0) := fun r => ⟨fun _ => ⟨fun _ => ⟨fun _ => ⟨fun _ => ⟨fun _ => hΦ _, fun _ => hΦ _⟩, fun _ => hΦ _⟩, fun _ => hΦ _⟩, fun _ => hΦ _⟩, fun _ => hΦ _⟩
  exact sp_X8_within (fun _ _ => k _) (fun _ => k _)
theorem sp_X8_cell {k : Nat} {sta x0 F : Int32} {ce hc : Nat → Int32} {Φ : Int32 → Int32 → Prop} (hk : ce 0 = nI k) (hk6 : k ≤ 6) (h1 : Φ 0 1) (h0 : ∀ r, ¬ sta ≤ 0 → ¬ x0 < 0 → ¬ ce 0 ≤ x0 → Φ r 0) : wp_X8_cell sta ce hc x0 F Φ := by
  unfold wp_X8_cell kf_X8_cell_21
  have f : (¬ (1 : Int32) = 1 → vp_in x0 6 ∧ Φ (hc (x0).toNatClampNeg) 1) ∧ ((1 : Int32) = 1 → Φ 0 1) := ⟨fun z => absurd rfl z, fun _ => h1⟩
  refine ⟨fun _ => f, fun a => sp_X8_isCell (fun b c => ⟨fun z => absurd z (by decide), fun _ => ⟨fun _ => ⟨in_of hk b c hk6 (by decide), h0 _ a b c⟩, fun z => absurd z (by decide)⟩⟩) ⟨fun _ => f, fun z => absurd rfl z⟩⟩
theorem sp_X8_wrote {u : Nat} {sta x0 F hw : Int32} {hst : Nat → Int32} {Φ : Int32 → Int32 → Prop} (hu : hw = nI u) (hu6 : u ≤ 1000000) (h1 : Φ 0 1) (h0 : ∀ r, ¬ sta ≤ 0 → ¬ x0 < 0 → ¬ (if hw < (200 : Int32) then hw else (200 : Int32)) ≤ x0 → Φ r 0) : wp_X8_wrote sta hw hst x0 F Φ := by
  unfold wp_X8_wrote kf_X8_wrote_31
  have f : (¬ (1 : Int32) = 1 → vp_in x0 200 ∧ Φ (hst (x0).toNatClampNeg) 1) ∧ ((1 : Int32) = 1 → Φ 0 1) := ⟨fun z => absurd rfl z, fun _ => h1⟩
  refine ⟨fun _ => f, fun a => ⟨fun _ => f, fun b => ⟨fun _ => f, fun c => ⟨fun _ => ⟨?_, h0 _ a b c⟩, fun z => absurd z (by decide)⟩⟩⟩⟩
  by_cases e : hw < 200
  · rw [if_pos e] at c
    obtain ⟨j, hj, rfl⟩ := nI_of b
    have h2 : ¬ u ≤ j := fun z => c (by rw [hu]; exact nI_le z hj)
    rw [hu] at e
    have h3 : u < 200 := Nat.lt_of_not_le (fun z => Int32.not_lt.mpr (nI_le (a := 200) z (by omega)) e)
    exact pk_in j 200 (by omega)
  · rw [if_neg e] at c
    exact in_of (y := 200) (a := 200) rfl b c (Nat.le_refl _) (by decide)
theorem sp_X8_fresh {F : Int32} {wo : Nat → Int32} {Φ : Int32 → Int32 → (Nat → Int32) → Prop} (hΦ : ∀ wo', Φ 1 0 wo') : wp_X8_fresh F wo Φ := by
  have key : ∀ (m k : Nat) (wo : Nat → Int32), m = 16 - k → k ≤ 16 → lf_X8_fresh_7 Φ (m + 1) 0 wo (nI k) := by
    intro m
    induction m with
    | zero =>
      intro k wo hm hk
      have e : k = 16 := by omega
      subst e
      exact ⟨fun _ => hΦ _, fun z => absurd (by decide) z⟩
    | succ m ih =>
      intro k wo hm hk
      show lb_X8_fresh_7 _ _ _ _ _
      unfold lb_X8_fresh_7
      rw [nI_1]
      have ik : vp_in (nI k) 16 := pk_in k 16 (by omega)
      exact ⟨fun z => absurd z (nI_ge (b := 16) (by omega) (by decide)), fun _ => ⟨ik, ih (k + 1) _ (by omega) (by omega)⟩⟩
  exact ⟨16 - 0 + 1, key (16 - 0) 0 wo rfl (by decide)⟩
section TRY
variable {st ce ip ln be ca ic le mo ta ac ls tw lf lt cd : Nat → Int32}
theorem sp_X8_isInput {x : Int32} {Φ : Int32 → Prop} (h : GM st ce ip ln le mo ta ac ls lf lt cd) (h0 : Φ 0) (h1 : ¬ ln 0 ≤ 0 → ¬ x < 0 → Φ 1) : wp_X8_isInput ip ln le mo x Φ := by
  obtain ⟨-, -, ⟨i, i2, hi, hx⟩, -⟩ := h 0 (by decide) (by decide)
  unfold wp_X8_isInput
  exact ⟨fun _ => h0, fun a => ⟨fun _ => h0, fun b => sp_X8_inputsOf (p := 0) (by decide) hi i2 hx (fun m _ _ => ⟨fun _ => h0, fun _ => h1 a b⟩)⟩⟩
abbrev PTa : Type := Int32 → Int32 → PTr
theorem pos_of {l : Nat} {y : Int32} (hy : y = nI l) (h : ¬ y ≤ 0) : 0 < l := by
  rcases Nat.eq_zero_or_pos l with e | e
  · subst e; subst hy; exact absurd (by decide) h
  · exact e
theorem sp_X8_isEndless {a b : Int32} {Φ : Int32 → Prop} (h1 : Φ 1) (h0 : Φ 0) : wp_X8_isEndless a b Φ := by
  unfold wp_X8_isEndless
  exact ⟨fun _ => h0, fun _ => ⟨fun _ => h0, fun _ => h1⟩⟩
theorem sp_X8_steps {x f0 f1 f2 f3 f4 f5 f6 f7 : Int32} {k1 k2 k3 k4 k5 k6 k7 k8 k9 vo he we sr go pk : Nat → Int32} {Φ : PTa} (h : GM st ce ip ln le mo ta ac ls lf lt cd) (hΦ : ∀ r a w x isE isF u md k1 k2 k3 k4 k5 k6 k7 k8 k9 vo he we sr go pk, Φ r 0 a w x isE isF u md k1 k2 k3 k4 k5 k6 k7 k8 k9 vo he we sr go pk) : wp_X8_steps ce ip ln be ca ic le mo ta ac ls tw lf lt cd x f0 f1 f2 f3 f4 f5 f6 f7 k1 k2 k3 k4 k5 k6 k7 k8 k9 vo he we sr go pk Φ := by
  unfold wp_X8_steps
  obtain ⟨l, hr⟩ := h.rp (p := 0) (by decide) (by decide)
  refine sp_X8_isInput h ⟨fun z => absurd rfl z, fun _ => hΦ _ _ _ _ _ _ _ _ _ _ _ _ _ _ _ _ _ _ _ _ _ _ _⟩ (fun a b => ⟨fun _ => ?_, fun z => absurd z (by decide)⟩)
  exact sp_X8_tries (p := 0) hr (pos_of hr.2.1 a) (fun _ _ _ _ _ _ _ _ _ _ _ _ _ _ _ _ _ _ _ _ _ _ _ => sp_X8_isEndless ⟨fun _ => hΦ _ _ _ _ _ _ _ _ _ _ _ _ _ _ _ _ _ _ _ _ _ _ _, fun _ => hΦ _ _ _ _ _ _ _ _ _ _ _ _ _ _ _ _ _ _ _ _ _ _ _⟩ ⟨fun _ => hΦ _ _ _ _ _ _ _ _ _ _ _ _ _ _ _ _ _ _ _ _ _ _ _, fun _ => hΦ _ _ _ _ _ _ _ _ _ _ _ _ _ _ _ _ _ _ _ _ _ _ _⟩)
theorem sp_X8_falls {x f0 f1 f2 f3 f4 f5 f6 f7 : Int32} {k1 k2 k3 k4 k5 k6 k7 k8 k9 vo he we sr go pk : Nat → Int32} {Φ : PTa} (h : GM st ce ip ln le mo ta ac ls lf lt cd) (hΦ : ∀ r a w x isE isF u md k1 k2 k3 k4 k5 k6 k7 k8 k9 vo he we sr go pk, Φ r 0 a w x isE isF u md k1 k2 k3 k4 k5 k6 k7 k8 k9 vo he we sr go pk) : wp_X8_falls ce ip ln be ca ic le mo ta ac ls tw lf lt cd x f0 f1 f2 f3 f4 f5 f6 f7 k1 k2 k3 k4 k5 k6 k7 k8 k9 vo he we sr go pk Φ := by
  unfold wp_X8_falls
  obtain ⟨l, hr⟩ := h.rp (p := 0) (by decide) (by decide)
  refine sp_X8_isInput h ⟨fun z => absurd rfl z, fun _ => hΦ _ _ _ _ _ _ _ _ _ _ _ _ _ _ _ _ _ _ _ _ _ _ _⟩ (fun a b => ⟨fun _ => ?_, fun z => absurd z (by decide)⟩)
  exact sp_X8_tries (p := 0) hr (pos_of hr.2.1 a) (fun _ _ _ _ _ _ _ _ _ _ _ _ _ _ _ _ _ _ _ _ _ _ _ => ⟨fun _ => hΦ _ _ _ _ _ _ _ _ _ _ _ _ _ _ _ _ _ _ _ _ _ _ _, fun _ => hΦ _ _ _ _ _ _ _ _ _ _ _ _ _ _ _ _ _ _ _ _ _ _ _⟩)
end TRY
end
section
section WEARS
variable {st ce ip ln be ca ic le mo ta ac ls tw lf lt cd : Nat → Int32}
abbrev PWr : Type := Int32 → Int32 → Int32 → Int32 → Int32 → Int32 → Int32 → Int32 → (Nat → Int32) → (Nat → Int32) → (Nat → Int32) → (Nat → Int32) → (Nat → Int32) → (Nat → Int32) → (Nat → Int32) → (Nat → Int32) → (Nat → Int32) → (Nat → Int32) → (Nat → Int32) → (Nat → Int32) → (Nat → Int32) → (Nat → Int32) → (Nat → Int32) → (Nat → Int32) → (Nat → Int32) → (Nat → Int32) → Prop
def WH (Φ : PWr) : Prop := ∀ r a w x isE isF u md k1 k2 k3 k4 k5 k6 k7 k8 k9 vo he we sr go pk mg mb mp, (r = 0 ∨ r = 1) → Φ r a w x isE isF u md k1 k2 k3 k4 k5 k6 k7 k8 k9 vo he we sr go pk mg mb mp
theorem sp_wears68 {κ : Int32 → Int32 → Int32 → Int32 → Int32 → Int32 → Int32 → (Nat → Int32) → (Nat → Int32) → (Nat → Int32) → (Nat → Int32) → (Nat → Int32) → (Nat → Int32) → (Nat → Int32) → (Nat → Int32) → (Nat → Int32) → (Nat → Int32) → (Nat → Int32) → (Nat → Int32) → (Nat → Int32) → (Nat → Int32) → (Nat → Int32) → (Nat → Int32) → (Nat → Int32) → (Nat → Int32) → Int32 → Prop} {Φ : PWr} {f1 f2 f3 f4 f5 f6 f7 l1 : Int32} {k1 k2 k3 k4 k5 k6 k7 k8 k9 vo he we sr go pk : Nat → Int32} (hκ : ∀ mg mb mp, κ f1 f2 f3 f4 f5 f6 f7 k1 k2 k3 k4 k5 k6 k7 k8 k9 vo he we sr go pk mg mb mp (l1 + 1)) : ∀ (m k : Nat) (mg mb mp : Nat → Int32), m = 16 - k → k ≤ 16 → lf_X8_wears_68 ce ip ln be ca ic le mo ta ac ls tw lf lt cd κ Φ (m + 1) f1 f2 f3 f4 f5 f6 f7 k1 k2 k3 k4 k5 k6 k7 k8 k9 vo he we sr go pk mg mb mp l1 (nI k) := by
  intro m
  induction m with
  | zero =>
    intro k mg mb mp hm hk
    have e : k = 16 := by omega
    subst e
    exact ⟨fun _ => hκ _ _ _, fun z => absurd (by decide) z⟩
  | succ m ih =>
    intro k mg mb mp hm hk
    show lb_X8_wears_68 _ _ _ _ _ _ _ _ _ _ _ _ _ _ _ _ _ _ _ _ _ _ _ _ _ _ _ _ _ _ _ _ _ _ _ _ _ _ _ _ _ _ _ _ _
    unfold lb_X8_wears_68
    rw [nI_1]
    have ik : vp_in (nI k) 16 := pk_in k 16 (by omega)
    exact ⟨fun z => absurd z (nI_ge (b := 16) (by omega) (by decide)), fun _ => ⟨ik, ik, ik, ik, ik, fun _ => ⟨ik, ik, ik, ih (k + 1) _ _ _ (by omega) (by omega)⟩, fun _ => ih (k + 1) _ _ _ (by omega) (by omega)⟩⟩
theorem sp_wears30 {Φ : PWr} (h : GM st ce ip ln le mo ta ac ls lf lt cd) (hΦ : WH Φ) : ∀ (m k : Nat) (f1 f2 f3 f4 f5 f6 f7 : Int32) (k1 k2 k3 k4 k5 k6 k7 k8 k9 vo he we sr go pk mg mb mp : Nat → Int32), m = 100000000 - k → k ≤ 100000000 → lf_X8_wears_30 ce ip ln be ca ic le mo ta ac ls tw lf lt cd Φ (m + 1) f1 f2 f3 f4 f5 f6 f7 k1 k2 k3 k4 k5 k6 k7 k8 k9 vo he we sr go pk mg mb mp (nI k) := by
  obtain ⟨l, hr⟩ := h.rp (p := 0) (by decide) (by decide)
  obtain ⟨-, -, ⟨i, i2, hi, hx⟩, -⟩ := h 0 (by decide) (by decide)
  intro m
  induction m with
  | zero =>
    intro k f1 f2 f3 f4 f5 f6 f7 k1 k2 k3 k4 k5 k6 k7 k8 k9 vo he we sr go pk mg mb mp hm hk
    show lb_X8_wears_30 _ _ _ _ _ _ _ _ _ _ _ _ _ _ _ _ _ _ _ _ _ _ _ _ _ _ _ _ _ _ _ _ _ _ _ _ _ _ _ _ _ _ _
    unfold lb_X8_wears_30
    exact sp_X8_inputsOf (p := 0) (by decide) hi i2 hx (fun q _ hq => ⟨fun _ => hΦ _ _ _ _ _ _ _ _ _ _ _ _ _ _ _ _ _ _ _ _ _ _ _ _ _ _ (Or.inr rfl), fun z => absurd (nI_le (by omega) (by omega)) z⟩)
  | succ m ih =>
    intro k f1 f2 f3 f4 f5 f6 f7 k1 k2 k3 k4 k5 k6 k7 k8 k9 vo he we sr go pk mg mb mp hm hk
    show lb_X8_wears_30 _ _ _ _ _ _ _ _ _ _ _ _ _ _ _ _ _ _ _ _ _ _ _ _ _ _ _ _ _ _ _ _ _ _ _ _ _ _ _ _ _ _ _
    unfold lb_X8_wears_30
    refine sp_X8_inputsOf (p := 0) (by decide) hi i2 hx (fun q _ hq => ⟨fun _ => hΦ _ _ _ _ _ _ _ _ _ _ _ _ _ _ _ _ _ _ _ _ _ _ _ _ _ _ (Or.inr rfl), fun z => ⟨fun hl0 => ?_, fun _ => hΦ _ _ _ _ _ _ _ _ _ _ _ _ _ _ _ _ _ _ _ _ _ _ _ _ _ _ (Or.inl rfl)⟩⟩)
    have hl : 0 < l := Nat.pos_of_ne_zero (fun e => hl0 (by rw [hr.2.1, e]; rfl))
    refine sp_X8_tries (p := 0) hr hl (fun _ _ _ _ _ _ _ _ _ _ _ _ _ _ _ _ _ _ _ _ _ _ _ => sp_X8_isEndless ⟨fun z => absurd z (by decide), fun _ => hΦ _ _ _ _ _ _ _ _ _ _ _ _ _ _ _ _ _ _ _ _ _ _ _ _ _ _ (Or.inl rfl)⟩ ⟨fun _ => ⟨16 - 0 + 1, sp_wears68 (fun mg mb mp => ?_) (16 - 0) 0 _ _ _ rfl (by decide)⟩, fun z => absurd rfl z⟩)
    rw [nI_1]
    exact ih (k + 1) _ _ _ _ _ _ _ _ _ _ _ _ _ _ _ _ _ _ _ _ _ _ _ _ _ (by omega) (by omega)
theorem sp_X8_wears {Φ : PWr} {f1 f2 f3 f4 f5 f6 f7 : Int32} {k1 k2 k3 k4 k5 k6 k7 k8 k9 vo he we sr go pk mg mb mp : Nat → Int32} (h : GM st ce ip ln le mo ta ac ls lf lt cd) (hΦ : WH Φ) : wp_X8_wears ce ip ln be ca ic le mo ta ac ls tw lf lt cd f1 f2 f3 f4 f5 f6 f7 k1 k2 k3 k4 k5 k6 k7 k8 k9 vo he we sr go pk mg mb mp Φ := by
  have key : ∀ (m k : Nat) (mg mp : Nat → Int32), m = 16 - k → k ≤ 16 → lf_X8_wears_2 ce ip ln be ca ic le mo ta ac ls tw lf lt cd Φ (m + 1) f1 f2 f3 f4 f5 f6 f7 k1 k2 k3 k4 k5 k6 k7 k8 k9 vo he we sr go pk mg mb mp (nI k) := by
    intro m
    induction m with
    | zero =>
      intro k mg mp hm hk
      have e : k = 16 := by omega
      subst e
      exact ⟨fun _ => ⟨100000000 - 0 + 1, sp_wears30 h hΦ (100000000 - 0) 0 _ _ _ _ _ _ _ _ _ _ _ _ _ _ _ _ _ _ _ _ _ _ _ _ _ rfl (by decide)⟩, fun z => absurd (by decide) z⟩
    | succ m ih =>
      intro k mg mp hm hk
      show lb_X8_wears_2 _ _ _ _ _ _ _ _ _ _ _ _ _ _ _ _ _ _ _ _ _ _ _ _ _ _ _ _ _ _ _ _ _ _ _ _ _ _ _ _ _ _ _
      unfold lb_X8_wears_2
      rw [nI_1]
      have ik : vp_in (nI k) 16 := pk_in k 16 (by omega)
      exact ⟨fun z => absurd z (nI_ge (b := 16) (by omega) (by decide)), fun _ => ⟨ik, ik, ih (k + 1) _ _ (by omega) (by omega)⟩⟩
  exact ⟨16 - 0 + 1, key (16 - 0) 0 mg mp rfl (by decide)⟩
abbrev PWm : Type := Int32 → PWr
def WM (Φ : PWm) : Prop := ∀ r a w x isE isF u md k1 k2 k3 k4 k5 k6 k7 k8 k9 vo he we sr go pk mg mb mp, Φ r 0 a w x isE isF u md k1 k2 k3 k4 k5 k6 k7 k8 k9 vo he we sr go pk mg mb mp
theorem sp_X8_most {Φ : PWm} {x0 x1 f0 f1 f2 f3 f4 f5 f6 f7 : Int32} {k1 k2 k3 k4 k5 k6 k7 k8 k9 vo he we sr go pk mg mb mp : Nat → Int32} (h : GM st ce ip ln le mo ta ac ls lf lt cd) (hΦ : WM Φ) : wp_X8_most ce ip ln be ca ic le mo ta ac ls tw lf lt cd x0 x1 f0 f1 f2 f3 f4 f5 f6 f7 k1 k2 k3 k4 k5 k6 k7 k8 k9 vo he we sr go pk mg mb mp Φ := by
  obtain ⟨-, -, -, ⟨l, l16, hl, -⟩⟩ := h 0 (by decide) (by decide)
  unfold wp_X8_most
  refine sp_X8_isLine (fun a b => ⟨fun _ => hΦ _ _ _ _ _ _ _ _ _ _ _ _ _ _ _ _ _ _ _ _ _ _ _ _ _ _, fun _ => ?_⟩) ⟨fun _ => hΦ _ _ _ _ _ _ _ _ _ _ _ _ _ _ _ _ _ _ _ _ _ _ _ _ _ _, fun z => absurd rfl z⟩
  have i6 : vp_in x0 16 := in_of hl a b (by omega) (by decide)
  exact sp_X8_within (fun _ _ => ⟨fun _ => hΦ _ _ _ _ _ _ _ _ _ _ _ _ _ _ _ _ _ _ _ _ _ _ _ _ _ _, fun _ => sp_X8_wears h (fun r _ _ _ _ _ _ _ _ _ _ _ _ _ _ _ _ _ _ _ _ _ _ _ _ _ _ => ⟨fun _ => ⟨fun _ => ⟨fun _ => ⟨i6, hΦ _ _ _ _ _ _ _ _ _ _ _ _ _ _ _ _ _ _ _ _ _ _ _ _ _ _⟩, fun _ => ⟨i6, hΦ _ _ _ _ _ _ _ _ _ _ _ _ _ _ _ _ _ _ _ _ _ _ _ _ _ _⟩⟩, fun _ => ⟨i6, hΦ _ _ _ _ _ _ _ _ _ _ _ _ _ _ _ _ _ _ _ _ _ _ _ _ _ _⟩⟩, fun _ => hΦ _ _ _ _ _ _ _ _ _ _ _ _ _ _ _ _ _ _ _ _ _ _ _ _ _ _⟩)⟩) (fun _ => ⟨fun _ => hΦ _ _ _ _ _ _ _ _ _ _ _ _ _ _ _ _ _ _ _ _ _ _ _ _ _ _, fun z => absurd rfl z⟩)
theorem sp_X8_never {Φ : PWm} {f0 f1 f2 f3 f4 f5 f6 f7 : Int32} {k1 k2 k3 k4 k5 k6 k7 k8 k9 vo he we sr go pk mg mb mp : Nat → Int32} (h : GM st ce ip ln le mo ta ac ls lf lt cd) (hΦ : WM Φ) : wp_X8_never ce ip ln be ca ic le mo ta ac ls tw lf lt cd f0 f1 f2 f3 f4 f5 f6 f7 k1 k2 k3 k4 k5 k6 k7 k8 k9 vo he we sr go pk mg mb mp Φ := by
  obtain ⟨-, -, -, ⟨l, l16, hl, -⟩⟩ := h 0 (by decide) (by decide)
  have key : ∀ (m k : Nat) (l1 f1 f2 f3 f4 f5 f6 f7 : Int32) (k1 k2 k3 k4 k5 k6 k7 k8 k9 vo he we sr go pk mg mb mp : Nat → Int32), m = l - k → k ≤ l → lf_X8_never_18 ce ip ln be ca ic le mo ta ac ls tw lf lt cd Φ (m + 1) 0 f1 f2 f3 f4 f5 f6 f7 k1 k2 k3 k4 k5 k6 k7 k8 k9 vo he we sr go pk mg mb mp l1 (nI k) := by
    intro m
    induction m with
    | zero =>
      intro k l1 f1 f2 f3 f4 f5 f6 f7 k1 k2 k3 k4 k5 k6 k7 k8 k9 vo he we sr go pk mg mb mp hm hk
      show lb_X8_never_18 _ _ _ _ _ _ _ _ _ _ _ _ _ _ _ _ _ _ _ _ _ _ _ _ _ _ _ _ _ _ _ _ _ _ _ _ _ _ _ _ _ _ _ _ _
      unfold lb_X8_never_18
      exact ⟨fun _ => hΦ _ _ _ _ _ _ _ _ _ _ _ _ _ _ _ _ _ _ _ _ _ _ _ _ _ _, fun z => absurd (by rw [hl]; exact nI_le (by omega) (by omega)) z⟩
    | succ m ih =>
      intro k l1 f1 f2 f3 f4 f5 f6 f7 k1 k2 k3 k4 k5 k6 k7 k8 k9 vo he we sr go pk mg mb mp hm hk
      show lb_X8_never_18 _ _ _ _ _ _ _ _ _ _ _ _ _ _ _ _ _ _ _ _ _ _ _ _ _ _ _ _ _ _ _ _ _ _ _ _ _ _ _ _ _ _ _ _ _
      unfold lb_X8_never_18
      rw [nI_1]
      have ik : vp_in (nI k) 16 := pk_in k 16 (by omega)
      exact ⟨fun _ => hΦ _ _ _ _ _ _ _ _ _ _ _ _ _ _ _ _ _ _ _ _ _ _ _ _ _ _, fun _ => ⟨ik, fun _ => ih (k + 1) _ _ _ _ _ _ _ _ _ _ _ _ _ _ _ _ _ _ _ _ _ _ _ _ _ _ (by omega) (by omega), fun _ => ih (k + 1) _ _ _ _ _ _ _ _ _ _ _ _ _ _ _ _ _ _ _ _ _ _ _ _ _ _ (by omega) (by omega)⟩⟩
  unfold wp_X8_never
  exact sp_X8_wears h (fun r _ _ _ _ _ _ _ _ _ _ _ _ _ _ _ _ _ _ _ _ _ _ _ _ _ _ => ⟨fun _ => ⟨l - 0 + 1, key (l - 0) 0 _ _ _ _ _ _ _ _ _ _ _ _ _ _ _ _ _ _ _ _ _ _ _ _ _ _ rfl (Nat.zero_le _)⟩, fun _ => hΦ _ _ _ _ _ _ _ _ _ _ _ _ _ _ _ _ _ _ _ _ _ _ _ _ _ _⟩)
theorem sp_first35 {Φ : PTa} {x0 : Int32} (h : GM st ce ip ln le mo ta ac ls lf lt cd) (hl0 : ¬ ln 0 = 0) (hΦ : ∀ r a w x isE isF u md k1 k2 k3 k4 k5 k6 k7 k8 k9 vo he we sr go pk, Φ r 0 a w x isE isF u md k1 k2 k3 k4 k5 k6 k7 k8 k9 vo he we sr go pk) : ∀ (m k : Nat) (f1 f2 f3 f4 f5 f6 f7 : Int32) (k1 k2 k3 k4 k5 k6 k7 k8 k9 vo he we sr go pk : Nat → Int32) (l2 l3 l4 : Int32), m = 100000000 - k → k ≤ 100000000 → lf_X8_first_35 ce ip ln be ca ic le mo ta ac ls tw lf lt cd x0 Φ (m + 1) 0 f1 f2 f3 f4 f5 f6 f7 k1 k2 k3 k4 k5 k6 k7 k8 k9 vo he we sr go pk l2 l3 l4 (nI k) := by
  obtain ⟨l, hr⟩ := h.rp (p := 0) (by decide) (by decide)
  obtain ⟨-, -, ⟨i, i2, hi, hx⟩, -⟩ := h 0 (by decide) (by decide)
  have hl : 0 < l := Nat.pos_of_ne_zero (fun e => hl0 (by rw [hr.2.1, e]; rfl))
  intro m
  induction m with
  | zero =>
    intro k f1 f2 f3 f4 f5 f6 f7 k1 k2 k3 k4 k5 k6 k7 k8 k9 vo he we sr go pk l2 l3 l4 hm hk
    show lb_X8_first_35 _ _ _ _ _ _ _ _ _ _ _ _ _ _ _ _ _ _ _ _ _ _ _ _ _ _ _ _ _ _ _ _ _ _ _ _ _ _ _ _ _ _ _ _ _
    unfold lb_X8_first_35
    exact sp_X8_inputsOf (p := 0) (by decide) hi i2 hx (fun q _ hq => ⟨fun _ => ⟨fun _ => ⟨fun _ => ⟨fun _ => hΦ _ _ _ _ _ _ _ _ _ _ _ _ _ _ _ _ _ _ _ _ _ _ _, fun _ => hΦ _ _ _ _ _ _ _ _ _ _ _ _ _ _ _ _ _ _ _ _ _ _ _⟩, fun _ => hΦ _ _ _ _ _ _ _ _ _ _ _ _ _ _ _ _ _ _ _ _ _ _ _⟩, fun _ => hΦ _ _ _ _ _ _ _ _ _ _ _ _ _ _ _ _ _ _ _ _ _ _ _⟩, fun z => absurd (nI_le (by omega) (by omega)) z⟩)
  | succ m ih =>
    intro k f1 f2 f3 f4 f5 f6 f7 k1 k2 k3 k4 k5 k6 k7 k8 k9 vo he we sr go pk l2 l3 l4 hm hk
    show lb_X8_first_35 _ _ _ _ _ _ _ _ _ _ _ _ _ _ _ _ _ _ _ _ _ _ _ _ _ _ _ _ _ _ _ _ _ _ _ _ _ _ _ _ _ _ _ _ _
    unfold lb_X8_first_35 kf_X8_first_75
    rw [nI_1]
    refine sp_X8_inputsOf (p := 0) (by decide) hi i2 hx (fun q _ hq => ⟨fun _ => ⟨fun _ => ⟨fun _ => ⟨fun _ => hΦ _ _ _ _ _ _ _ _ _ _ _ _ _ _ _ _ _ _ _ _ _ _ _, fun _ => hΦ _ _ _ _ _ _ _ _ _ _ _ _ _ _ _ _ _ _ _ _ _ _ _⟩, fun _ => hΦ _ _ _ _ _ _ _ _ _ _ _ _ _ _ _ _ _ _ _ _ _ _ _⟩, fun _ => hΦ _ _ _ _ _ _ _ _ _ _ _ _ _ _ _ _ _ _ _ _ _ _ _⟩, fun _ => ?_⟩)
    have g := fun f1 f2 f3 f4 f5 f6 f7 k1 k2 k3 k4 k5 k6 k7 k8 k9 vo he we sr go pk l2 l3 l4 => ih (k + 1) f1 f2 f3 f4 f5 f6 f7 k1 k2 k3 k4 k5 k6 k7 k8 k9 vo he we sr go pk l2 l3 l4 (by omega) (by omega)
    exact sp_X8_tries (p := 0) hr hl (fun _ _ _ _ _ _ _ _ _ _ _ _ _ _ _ _ _ _ _ _ _ _ _ => ⟨fun _ => g _ _ _ _ _ _ _ _ _ _ _ _ _ _ _ _ _ _ _ _ _ _ _ _ _, fun _ => ⟨fun _ => g _ _ _ _ _ _ _ _ _ _ _ _ _ _ _ _ _ _ _ _ _ _ _ _ _, fun _ => ⟨fun _ => g _ _ _ _ _ _ _ _ _ _ _ _ _ _ _ _ _ _ _ _ _ _ _ _ _, fun _ => g _ _ _ _ _ _ _ _ _ _ _ _ _ _ _ _ _ _ _ _ _ _ _ _ _⟩⟩⟩)
theorem sp_X8_first {Φ : PTa} {x0 f0 f1 f2 f3 f4 f5 f6 f7 : Int32} {k1 k2 k3 k4 k5 k6 k7 k8 k9 vo he we sr go pk : Nat → Int32} (h : GM st ce ip ln le mo ta ac ls lf lt cd) (hΦ : ∀ r a w x isE isF u md k1 k2 k3 k4 k5 k6 k7 k8 k9 vo he we sr go pk, Φ r 0 a w x isE isF u md k1 k2 k3 k4 k5 k6 k7 k8 k9 vo he we sr go pk) : wp_X8_first ce ip ln be ca ic le mo ta ac ls tw lf lt cd x0 f0 f1 f2 f3 f4 f5 f6 f7 k1 k2 k3 k4 k5 k6 k7 k8 k9 vo he we sr go pk Φ := by
  unfold wp_X8_first
  exact sp_X8_within (fun _ _ => ⟨fun _ => hΦ _ _ _ _ _ _ _ _ _ _ _ _ _ _ _ _ _ _ _ _ _ _ _, fun _ => ⟨fun hl0 => ⟨100000000 - 0 + 1, sp_first35 h hl0 hΦ (100000000 - 0) 0 _ _ _ _ _ _ _ _ _ _ _ _ _ _ _ _ _ _ _ _ _ _ _ _ _ rfl (by decide)⟩, fun _ => hΦ _ _ _ _ _ _ _ _ _ _ _ _ _ _ _ _ _ _ _ _ _ _ _⟩⟩) (fun _ => ⟨fun _ => hΦ _ _ _ _ _ _ _ _ _ _ _ _ _ _ _ _ _ _ _ _ _ _ _, fun z => absurd rfl z⟩)
end WEARS
end
section
section ALIKE
variable {st ce ip ln be ca ic le mo ta ac ls tw lf lt cd : Nat → Int32}
abbrev PAl : Type := Int32 → Int32 → Int32 → Int32 → Int32 → Int32 → Int32 → Int32 → (Nat → Int32) → (Nat → Int32) → (Nat → Int32) → (Nat → Int32) → (Nat → Int32) → (Nat → Int32) → (Nat → Int32) → (Nat → Int32) → (Nat → Int32) → (Nat → Int32) → (Nat → Int32) → (Nat → Int32) → (Nat → Int32) → (Nat → Int32) → (Nat → Int32) → (Nat → Int32) → Prop
def AH (Φ : PAl) : Prop := ∀ r a w x isE isF u md k1 k2 k3 k4 k5 k6 k7 k8 k9 vo he we sr go pk ot, (r = 0 ∨ r = 1) → Φ r a w x isE isF u md k1 k2 k3 k4 k5 k6 k7 k8 k9 vo he we sr go pk ot
theorem sp_wa87 {Φ : PAl} {x0 x1 x2 x3 x4 x5 : Int32} {u : Nat} (hu : u ≤ 1000) (hΦ : AH Φ) {f1 f2 f3 f4 f5 f6 f7 : Int32} {k1 k2 k3 k4 k5 k6 k7 k8 k9 vo he we sr go pk ot : Nat → Int32} : ∀ m k : Nat, m = u - k → k ≤ u → lf_X8_writeAlike_87 ce ip ln be ca ic le mo ta ac ls tw lf lt cd x0 x1 x2 x3 x4 x5 Φ (m + 1) f1 f2 f3 f4 f5 f6 f7 k1 k2 k3 k4 k5 k6 k7 k8 k9 vo he we sr go pk ot (nI u) (nI k) := by
  intro m
  induction m with
  | zero =>
    intro k hm hk
    show lb_X8_writeAlike_87 _ _ _ _ _ _ _ _ _ _ _ _ _ _ _ _ _ _ _ _ _ _ _ _ _ _ _ _ _ _ _ _ _ _ _ _ _ _ _ _ _ _ _ _ _ _ _ _
    unfold lb_X8_writeAlike_87
    exact ⟨fun _ => hΦ _ _ _ _ _ _ _ _ _ _ _ _ _ _ _ _ _ _ _ _ _ _ _ _ (Or.inr rfl), fun z => absurd (nI_le (by omega) (by omega)) z⟩
  | succ m ih =>
    intro k hm hk
    show lb_X8_writeAlike_87 _ _ _ _ _ _ _ _ _ _ _ _ _ _ _ _ _ _ _ _ _ _ _ _ _ _ _ _ _ _ _ _ _ _ _ _ _ _ _ _ _ _ _ _ _ _ _ _
    unfold lb_X8_writeAlike_87
    rw [nI_1]
    have ik : vp_in (nI k) 1001 := pk_in k 1001 (by omega)
    exact ⟨fun _ => hΦ _ _ _ _ _ _ _ _ _ _ _ _ _ _ _ _ _ _ _ _ _ _ _ _ (Or.inr rfl), fun _ => ⟨ik, ik, fun _ => ih (k + 1) (by omega) (by omega), fun _ => hΦ _ _ _ _ _ _ _ _ _ _ _ _ _ _ _ _ _ _ _ _ _ _ _ _ (Or.inl rfl)⟩⟩
theorem sp_wa23 {Φ : PAl} {p2 l2 : Nat} {x0 x1 x3 x4 x5 l8 : Int32} {u : Nat} (h2 : RP p2 l2 ip ln le mo ta ac ls lf lt cd) (hl2 : 0 < l2) (hu : u ≤ 1000) (hΦ : AH Φ) {f1 f2 f3 f4 f5 f6 f7 : Int32} {k1 k2 k3 k4 k5 k6 k7 k8 k9 vo he we sr go pk : Nat → Int32} : ∀ (m k : Nat) (ot : Nat → Int32), m = u - k → k ≤ u → lf_X8_writeAlike_23 ce ip ln be ca ic le mo ta ac ls tw lf lt cd x0 x1 (nI p2) x3 x4 x5 Φ (m + 1) f1 f2 f3 f4 f5 f6 f7 k1 k2 k3 k4 k5 k6 k7 k8 k9 vo he we sr go pk ot (nI u) l8 (nI k) := by
  have fin : ∀ ot : Nat → Int32, wp_X8_tries ce ip ln be ca ic le mo ta ac ls tw lf lt cd (nI p2) x4 x3 f1 f2 f3 f4 f5 f6 f7 k1 k2 k3 k4 k5 k6 k7 k8 k9 vo he we sr go pk (fun g1 g2 g3 g4 g5 g6 g7 a1 a2 a3 a4 a5 a6 a7 a8 a9 a10 a11 a12 a13 a14 a15 => (¬ g6 = nI u → Φ 0 g1 g2 g3 g4 g5 g6 g7 a1 a2 a3 a4 a5 a6 a7 a8 a9 a10 a11 a12 a13 a14 a15 ot) ∧ (g6 = nI u → (x5 = 0 → (∃ n_, lf_X8_writeAlike_87 ce ip ln be ca ic le mo ta ac ls tw lf lt cd x0 x1 (nI p2) x3 x4 x5 Φ n_ g1 g2 g3 g4 g5 g6 g7 a1 a2 a3 a4 a5 a6 a7 a8 a9 a10 a11 a12 a13 a14 a15 ot (nI u) 0)) ∧ (¬ x5 = 0 → (l8 = g4 → (∃ n_, lf_X8_writeAlike_87 ce ip ln be ca ic le mo ta ac ls tw lf lt cd x0 x1 (nI p2) x3 x4 x5 Φ n_ g1 g2 g3 g4 g5 g6 g7 a1 a2 a3 a4 a5 a6 a7 a8 a9 a10 a11 a12 a13 a14 a15 ot (nI u) 0)) ∧ (¬ l8 = g4 → Φ 0 g1 g2 g3 g4 g5 g6 g7 a1 a2 a3 a4 a5 a6 a7 a8 a9 a10 a11 a12 a13 a14 a15 ot)))) := by
    intro ot
    exact sp_X8_tries h2 hl2 (fun _ _ _ _ _ _ _ _ _ _ _ _ _ _ _ _ _ _ _ _ _ _ _ => ⟨fun _ => hΦ _ _ _ _ _ _ _ _ _ _ _ _ _ _ _ _ _ _ _ _ _ _ _ _ (Or.inl rfl), fun _ => ⟨fun _ => ⟨u - 0 + 1, sp_wa87 hu hΦ (u - 0) 0 rfl (Nat.zero_le _)⟩, fun _ => ⟨fun _ => ⟨u - 0 + 1, sp_wa87 hu hΦ (u - 0) 0 rfl (Nat.zero_le _)⟩, fun _ => hΦ _ _ _ _ _ _ _ _ _ _ _ _ _ _ _ _ _ _ _ _ _ _ _ _ (Or.inl rfl)⟩⟩⟩)
  intro m
  induction m with
  | zero =>
    intro k ot hm hk
    show lb_X8_writeAlike_23 _ _ _ _ _ _ _ _ _ _ _ _ _ _ _ _ _ _ _ _ _ _ _ _ _ _ _ _ _ _ _ _ _ _ _ _ _ _ _ _ _ _ _ _ _ _ _ _ _
    unfold lb_X8_writeAlike_23
    exact ⟨fun _ => fin ot, fun z => absurd (nI_le (by omega) (by omega)) z⟩
  | succ m ih =>
    intro k ot hm hk
    show lb_X8_writeAlike_23 _ _ _ _ _ _ _ _ _ _ _ _ _ _ _ _ _ _ _ _ _ _ _ _ _ _ _ _ _ _ _ _ _ _ _ _ _ _ _ _ _ _ _ _ _ _ _ _ _
    unfold lb_X8_writeAlike_23
    rw [nI_1]
    have ik : vp_in (nI k) 1001 := pk_in k 1001 (by omega)
    exact ⟨fun _ => fin ot, fun _ => ⟨ik, ik, ih (k + 1) _ (by omega) (by omega)⟩⟩
theorem sp_X8_writeAlike {Φ : PAl} {p1 p2 l1 l2 : Nat} {x1 x3 x4 x5 f1 f2 f3 f4 f5 f6 f7 : Int32} {k1 k2 k3 k4 k5 k6 k7 k8 k9 vo he we sr go pk ot : Nat → Int32} (h1 : RP p1 l1 ip ln le mo ta ac ls lf lt cd) (hl1 : 0 < l1) (h2 : RP p2 l2 ip ln le mo ta ac ls lf lt cd) (hl2 : 0 < l2) (hΦ : AH Φ) : wp_X8_writeAlike ce ip ln be ca ic le mo ta ac ls tw lf lt cd (nI p1) x1 (nI p2) x3 x4 x5 f1 f2 f3 f4 f5 f6 f7 k1 k2 k3 k4 k5 k6 k7 k8 k9 vo he we sr go pk ot Φ := by
  unfold wp_X8_writeAlike
  exact sp_X8_tries h1 hl1 (fun _ _ _ u _ _ _ _ _ _ _ _ _ _ _ _ _ _ _ _ _ hu _ => ⟨u - 0 + 1, sp_wa23 h2 hl2 (by omega) hΦ (u - 0) 0 ot rfl (Nat.zero_le _)⟩)
abbrev PAm : Type := Int32 → PAl
def AM (Φ : PAm) : Prop := ∀ r a w x isE isF u md k1 k2 k3 k4 k5 k6 k7 k8 k9 vo he we sr go pk ot, Φ r 0 a w x isE isF u md k1 k2 k3 k4 k5 k6 k7 k8 k9 vo he we sr go pk ot
theorem ln_pos {l : Nat} {y : Int32} (h : y = nI l) (h0 : ¬ y = 0) : 0 < l := Nat.pos_of_ne_zero (fun e => h0 (by rw [h, e]; rfl))
theorem sp_X8_apart {Φ : PAm} {f0 f1 f2 f3 f4 f5 f6 f7 : Int32} {k1 k2 k3 k4 k5 k6 k7 k8 k9 vo he we sr go pk ot : Nat → Int32} (h : GM st ce ip ln le mo ta ac ls lf lt cd) (hΦ : AM Φ) : wp_X8_apart ce ip ln be ca ic le mo ta ac ls tw lf lt cd f0 f1 f2 f3 f4 f5 f6 f7 k1 k2 k3 k4 k5 k6 k7 k8 k9 vo he we sr go pk ot Φ := by
  obtain ⟨l, hr⟩ := h.rp (p := 0) (by decide) (by decide)
  obtain ⟨-, -, ⟨i, i2, hi, hx⟩, -⟩ := h 0 (by decide) (by decide)
  unfold wp_X8_apart
  refine ⟨fun hl0 => ?_, fun _ => hΦ _ _ _ _ _ _ _ _ _ _ _ _ _ _ _ _ _ _ _ _ _ _ _ _⟩
  have hl := ln_pos hr.2.1 hl0
  have key : ∀ (m k : Nat) (f1 f2 f3 f4 f5 f6 f7 : Int32) (k1 k2 k3 k4 k5 k6 k7 k8 k9 vo he we sr go pk ot : Nat → Int32), m = 100000000 - k → k ≤ 100000000 → lf_X8_apart_18 ce ip ln be ca ic le mo ta ac ls tw lf lt cd Φ (m + 1) 0 f1 f2 f3 f4 f5 f6 f7 k1 k2 k3 k4 k5 k6 k7 k8 k9 vo he we sr go pk ot (nI k) := by
    intro m
    induction m with
    | zero =>
      intro k f1 f2 f3 f4 f5 f6 f7 k1 k2 k3 k4 k5 k6 k7 k8 k9 vo he we sr go pk ot hm hk
      show lb_X8_apart_18 _ _ _ _ _ _ _ _ _ _ _ _ _ _ _ _ _ _ _ _ _ _ _ _ _ _ _ _ _ _ _ _ _ _ _ _ _ _ _ _ _ _
      unfold lb_X8_apart_18
      exact sp_X8_inputsOf (p := 0) (by decide) hi i2 hx (fun q _ hq => ⟨fun _ => hΦ _ _ _ _ _ _ _ _ _ _ _ _ _ _ _ _ _ _ _ _ _ _ _ _, fun z => absurd (nI_le (by omega) (by omega)) z⟩)
    | succ m ih =>
      intro k f1 f2 f3 f4 f5 f6 f7 k1 k2 k3 k4 k5 k6 k7 k8 k9 vo he we sr go pk ot hm hk
      show lb_X8_apart_18 _ _ _ _ _ _ _ _ _ _ _ _ _ _ _ _ _ _ _ _ _ _ _ _ _ _ _ _ _ _ _ _ _ _ _ _ _ _ _ _ _ _
      unfold lb_X8_apart_18
      rw [nI_1]
      exact sp_X8_inputsOf (p := 0) (by decide) hi i2 hx (fun q _ hq => ⟨fun _ => hΦ _ _ _ _ _ _ _ _ _ _ _ _ _ _ _ _ _ _ _ _ _ _ _ _, fun _ => sp_X8_writeAlike (p1 := 0) (p2 := 0) hr hl hr hl (fun _ _ _ _ _ _ _ _ _ _ _ _ _ _ _ _ _ _ _ _ _ _ _ _ _ => ⟨fun _ => ih (k + 1) _ _ _ _ _ _ _ _ _ _ _ _ _ _ _ _ _ _ _ _ _ _ _ (by omega) (by omega), fun _ => hΦ _ _ _ _ _ _ _ _ _ _ _ _ _ _ _ _ _ _ _ _ _ _ _ _⟩)⟩)
  exact ⟨100000000 - 0 + 1, key (100000000 - 0) 0 _ _ _ _ _ _ _ _ _ _ _ _ _ _ _ _ _ _ _ _ _ _ _ rfl (by decide)⟩
theorem sp_X8_same {Φ : PAm} {il : Nat → Int32} {x0 f0 f1 f2 f3 f4 f5 f6 f7 : Int32} {k1 k2 k3 k4 k5 k6 k7 k8 k9 vo he we sr go pk ot : Nat → Int32} (h : GM st ce ip ln le mo ta ac ls lf lt cd) (hΦ : AM Φ) : wp_X8_same ce ip ln be ca ic le mo ta ac ls tw lf lt cd il x0 f0 f1 f2 f3 f4 f5 f6 f7 k1 k2 k3 k4 k5 k6 k7 k8 k9 vo he we sr go pk ot Φ := by
  unfold wp_X8_same
  refine sp_X8_within (fun a b => ⟨fun _ => hΦ _ _ _ _ _ _ _ _ _ _ _ _ _ _ _ _ _ _ _ _ _ _ _ _, fun _ => ?_⟩) (fun _ => ⟨fun _ => hΦ _ _ _ _ _ _ _ _ _ _ _ _ _ _ _ _ _ _ _ _ _ _ _ _, fun z => absurd rfl z⟩)
  obtain ⟨q, hq, rfl⟩ := nI_of a
  have q4 : q < 4 := Nat.lt_of_not_le (fun z => b (nI_lt (a := 3) (by omega) hq))
  have e2 : (2 : Int32) + nI q = nI (2 + q) := by rw [show (2 : Int32) = nI 2 from rfl, nI_add]
  rw [e2, nI_clamp (n := 2 + q) (by omega)]
  obtain ⟨l, hr⟩ := h.rp (p := 0) (by decide) (by decide)
  obtain ⟨l2, hr2⟩ := h.rp (p := 2 + q) (by omega) (by omega)
  obtain ⟨-, -, ⟨i, i2, hi, hx⟩, -⟩ := h 0 (by decide) (by decide)
  obtain ⟨-, -, ⟨j, j2, hj, hy⟩, -⟩ := h (2 + q) (by omega) (by omega)
  refine ⟨pk_in q 4 q4, fun _ => ⟨fun _ => hΦ _ _ _ _ _ _ _ _ _ _ _ _ _ _ _ _ _ _ _ _ _ _ _ _, fun hl0 => ⟨pk_in (2 + q) 6 (by omega), fun _ => hΦ _ _ _ _ _ _ _ _ _ _ _ _ _ _ _ _ _ _ _ _ _ _ _ _, fun hl1 => ?_⟩⟩, fun _ => hΦ _ _ _ _ _ _ _ _ _ _ _ _ _ _ _ _ _ _ _ _ _ _ _ _⟩
  have hl := ln_pos hr.2.1 hl0
  have hl2 := ln_pos hr2.2.1 hl1
  refine sp_X8_inputsOf (p := 0) (by decide) hi i2 hx (fun _ _ _ => sp_X8_inputsOf (p := 2 + q) (by omega) hj j2 hy (fun _ _ _ => ⟨fun _ => ?_, fun _ => hΦ _ _ _ _ _ _ _ _ _ _ _ _ _ _ _ _ _ _ _ _ _ _ _ _⟩))
  have key : ∀ (m k : Nat) (f1 f2 f3 f4 f5 f6 f7 : Int32) (k1 k2 k3 k4 k5 k6 k7 k8 k9 vo he we sr go pk ot : Nat → Int32), m = 100000000 - k → k ≤ 100000000 → lf_X8_same_66 ce ip ln be ca ic le mo ta ac ls tw lf lt cd il (nI q) Φ (m + 1) 0 f1 f2 f3 f4 f5 f6 f7 k1 k2 k3 k4 k5 k6 k7 k8 k9 vo he we sr go pk ot (nI (2 + q)) (nI k) := by
    intro m
    induction m with
    | zero =>
      intro k f1 f2 f3 f4 f5 f6 f7 k1 k2 k3 k4 k5 k6 k7 k8 k9 vo he we sr go pk ot hm hk
      show lb_X8_same_66 _ _ _ _ _ _ _ _ _ _ _ _ _ _ _ _ _ _ _ _ _ _ _ _ _ _ _ _ _ _ _ _ _ _ _ _ _ _ _ _ _ _ _ _ _
      unfold lb_X8_same_66
      exact sp_X8_inputsOf (p := 0) (by decide) hi i2 hx (fun q _ hq => ⟨fun _ => hΦ _ _ _ _ _ _ _ _ _ _ _ _ _ _ _ _ _ _ _ _ _ _ _ _, fun z => absurd (nI_le (by omega) (by omega)) z⟩)
    | succ m ih =>
      intro k f1 f2 f3 f4 f5 f6 f7 k1 k2 k3 k4 k5 k6 k7 k8 k9 vo he we sr go pk ot hm hk
      show lb_X8_same_66 _ _ _ _ _ _ _ _ _ _ _ _ _ _ _ _ _ _ _ _ _ _ _ _ _ _ _ _ _ _ _ _ _ _ _ _ _ _ _ _ _ _ _ _ _
      unfold lb_X8_same_66
      rw [nI_1 k]
      exact sp_X8_inputsOf (p := 0) (by decide) hi i2 hx (fun q _ hq => ⟨fun _ => hΦ _ _ _ _ _ _ _ _ _ _ _ _ _ _ _ _ _ _ _ _ _ _ _ _, fun _ => sp_X8_writeAlike (p1 := 0) hr hl hr2 hl2 (fun _ _ _ _ _ _ _ _ _ _ _ _ _ _ _ _ _ _ _ _ _ _ _ _ _ => ⟨fun _ => ih (k + 1) _ _ _ _ _ _ _ _ _ _ _ _ _ _ _ _ _ _ _ _ _ _ _ (by omega) (by omega), fun _ => hΦ _ _ _ _ _ _ _ _ _ _ _ _ _ _ _ _ _ _ _ _ _ _ _ _⟩)⟩)
  exact ⟨100000000 - 0 + 1, key (100000000 - 0) 0 _ _ _ _ _ _ _ _ _ _ _ _ _ _ _ _ _ _ _ _ _ _ _ rfl (by decide)⟩
theorem sp_X8_rounds {Φ : PTa} {x0 f0 f1 f2 f3 f4 f5 f6 f7 : Int32} {k1 k2 k3 k4 k5 k6 k7 k8 k9 vo he we sr go pk : Nat → Int32} (h : GM st ce ip ln le mo ta ac ls lf lt cd) (hΦ : ∀ r a w x isE isF u md k1 k2 k3 k4 k5 k6 k7 k8 k9 vo he we sr go pk, Φ r 0 a w x isE isF u md k1 k2 k3 k4 k5 k6 k7 k8 k9 vo he we sr go pk) : wp_X8_rounds ce ip ln be ca ic le mo ta ac ls tw lf lt cd x0 f0 f1 f2 f3 f4 f5 f6 f7 k1 k2 k3 k4 k5 k6 k7 k8 k9 vo he we sr go pk Φ := by
  obtain ⟨l, hr⟩ := h.rp (p := 0) (by decide) (by decide)
  unfold wp_X8_rounds
  refine sp_X8_isInput h ⟨fun z => absurd rfl z, fun _ => hΦ _ _ _ _ _ _ _ _ _ _ _ _ _ _ _ _ _ _ _ _ _ _ _⟩ (fun a b => ⟨fun _ => ?_, fun z => absurd z (by decide)⟩)
  have hl0 := pos_of hr.2.1 a
  obtain ⟨hp, hl, h16, ⟨i, hi2, hi, hx⟩, hLN⟩ := hr
  have key : ∀ (m k : Nat) (f1 f2 f3 f4 f5 f6 f7 : Int32) (k1 k2 k3 k4 k5 k6 k7 k8 k9 vo he we sr go pk : Nat → Int32), m = 100 - k → k ≤ 100 → lf_X8_rounds_21 ce ip ln be ca ic le mo ta ac ls tw lf lt cd x0 Φ (m + 1) 0 f1 f2 f3 f4 f5 f6 f7 k1 k2 k3 k4 k5 k6 k7 k8 k9 vo he we sr go pk (nI k) := by
    intro m
    induction m with
    | zero =>
      intro k f1 f2 f3 f4 f5 f6 f7 k1 k2 k3 k4 k5 k6 k7 k8 k9 vo he we sr go pk hm hk
      have e : k = 100 := by omega
      subst e
      exact ⟨fun _ => hΦ _ _ _ _ _ _ _ _ _ _ _ _ _ _ _ _ _ _ _ _ _ _ _, fun z => absurd (by decide) z⟩
    | succ m ih =>
      intro k f1 f2 f3 f4 f5 f6 f7 k1 k2 k3 k4 k5 k6 k7 k8 k9 vo he we sr go pk hm hk
      show lb_X8_rounds_21 _ _ _ _ _ _ _ _ _ _ _ _ _ _ _ _ _ _ _ _ _ _ _ _ _ _ _ _ _ _ _ _ _ _ _ _ _ _ _ _ _ _
      unfold lb_X8_rounds_21
      rw [nI_1]
      exact ⟨fun _ => hΦ _ _ _ _ _ _ _ _ _ _ _ _ _ _ _ _ _ _ _ _ _ _ _, fun _ => sp_X8_begins (p := 0) hp hi hi2 hx (fun he' => sp_X8_goesOn (p := 0) (x := 0) (u := 0) hp hl h16 (by decide) hLN (Nat.zero_le _) (fun _ => hl0) (fun _ _ _ _ _ _ _ _ _ _ _ _ _ _ _ _ _ _ _ _ _ _ _ => ⟨fun _ => ih (k + 1) _ _ _ _ _ _ _ _ _ _ _ _ _ _ _ _ _ _ _ _ _ _ (by omega) (by omega), fun _ => hΦ _ _ _ _ _ _ _ _ _ _ _ _ _ _ _ _ _ _ _ _ _ _ _⟩))⟩
  exact sp_X8_freshens (fun we' => ⟨100 - 0 + 1, key (100 - 0) 0 _ _ _ _ _ _ _ _ _ _ _ _ _ _ _ _ _ _ _ _ _ _ rfl (by decide)⟩)
theorem sp_X8_better {l : Nat} {Φ : PTa} {sta hn hs hw x0 f0 f1 f2 f3 f4 f5 f6 f7 : Int32} {hc wo k1 k2 k3 k4 k5 k6 k7 k8 k9 vo he we sr go pk : Nat → Int32} (h : GM st ce ip ln le mo ta ac ls lf lt cd) (hl : ln 0 = nI l) (hl6 : l ≤ 16) (hH : HS l sta hn hs hw) (hΦ : ∀ r a w x isE isF u md k1 k2 k3 k4 k5 k6 k7 k8 k9 vo he we sr go pk, Φ r 0 a w x isE isF u md k1 k2 k3 k4 k5 k6 k7 k8 k9 vo he we sr go pk) : wp_X8_better sta hn ln be ta ac ls tw lf lt cd hc wo x0 f0 f1 f2 f3 f4 f5 f6 f7 k1 k2 k3 k4 k5 k6 k7 k8 k9 vo he we sr go pk Φ := by
  obtain ⟨l', hr⟩ := h.rp (p := 0) (by decide) (by decide)
  obtain ⟨hp, hl', h16, -, hLN⟩ := hr
  have e : l = l' := (nI_eq (by omega) (by omega)).mp (hl.symm.trans hl')
  subst e
  have key : ∀ j : Nat, j < l → hn = nI j → ∃ n_, lf_X8_better_39 sta hn ln be ta ac ls tw lf lt cd hc wo x0 Φ n_ 0 f1 f2 f3 f4 f5 f6 f7 k1 k2 k3 k4 k5 k6 k7 k8 k9 vo he we sr go pk (-1) (-1) 0 := by
    intro j hj ej
    subst ej
    have kk : ∀ (m k : Nat) (f1 f2 f3 f4 f5 f6 f7 : Int32) (k1 k2 k3 k4 k5 k6 k7 k8 k9 vo he we sr go pk : Nat → Int32) (l2 l3 : Int32), m = l - k → k ≤ l → lf_X8_better_39 sta (nI j) ln be ta ac ls tw lf lt cd hc wo x0 Φ (m + 1) 0 f1 f2 f3 f4 f5 f6 f7 k1 k2 k3 k4 k5 k6 k7 k8 k9 vo he we sr go pk l2 l3 (nI k) := by
      intro m
      induction m with
      | zero =>
        intro k f1 f2 f3 f4 f5 f6 f7 k1 k2 k3 k4 k5 k6 k7 k8 k9 vo he we sr go pk l2 l3 hm hk
        show lb_X8_better_39 _ _ _ _ _ _ _ _ _ _ _ _ _ _ _ _ _ _ _ _ _ _ _ _ _ _ _ _ _ _ _ _ _ _ _ _ _ _ _ _ _ _
        unfold lb_X8_better_39
        exact ⟨fun _ => ⟨fun _ => hΦ _ _ _ _ _ _ _ _ _ _ _ _ _ _ _ _ _ _ _ _ _ _ _, fun _ => hΦ _ _ _ _ _ _ _ _ _ _ _ _ _ _ _ _ _ _ _ _ _ _ _⟩, fun z => absurd (by rw [hl]; exact nI_le (by omega) (by omega)) z⟩
      | succ m ih =>
        intro k f1 f2 f3 f4 f5 f6 f7 k1 k2 k3 k4 k5 k6 k7 k8 k9 vo he we sr go pk l2 l3 hm hk
        show lb_X8_better_39 _ _ _ _ _ _ _ _ _ _ _ _ _ _ _ _ _ _ _ _ _ _ _ _ _ _ _ _ _ _ _ _ _ _ _ _ _ _ _ _ _ _
        unfold lb_X8_better_39
        rw [nI_1]
        refine ⟨fun _ => ⟨fun _ => hΦ _ _ _ _ _ _ _ _ _ _ _ _ _ _ _ _ _ _ _ _ _ _ _, fun _ => hΦ _ _ _ _ _ _ _ _ _ _ _ _ _ _ _ _ _ _ _ _ _ _ _⟩, fun _ => sp_X8_takesUp (fun he' we' => ⟨pk_in k 16 (by omega), ?_⟩)⟩
        have g := fun f1 f2 f3 f4 f5 f6 f7 k1 k2 k3 k4 k5 k6 k7 k8 k9 vo he we sr go pk l2 l3 => ih (k + 1) f1 f2 f3 f4 f5 f6 f7 k1 k2 k3 k4 k5 k6 k7 k8 k9 vo he we sr go pk l2 l3 (by omega) (by omega)
        exact sp_X8_goesOn (p := 0) (x := j) (u := 0) (isE := 0) hp hl h16 (by decide) hLN (by omega) (fun _ => hj) (fun _ _ _ _ _ _ _ _ _ _ _ _ _ _ _ _ _ _ _ _ _ _ _ => ⟨fun _ => g _ _ _ _ _ _ _ _ _ _ _ _ _ _ _ _ _ _ _ _ _ _ (nI k) _, fun _ => g _ _ _ _ _ _ _ _ _ _ _ _ _ _ _ _ _ _ _ _ _ _ l2 l3⟩)
    exact ⟨l - 0 + 1, kk (l - 0) 0 _ _ _ _ _ _ _ _ _ _ _ _ _ _ _ _ _ _ _ _ _ _ _ _ rfl (Nat.zero_le _)⟩
  unfold wp_X8_better
  refine sp_X8_within (fun _ _ => ⟨fun _ => hΦ _ _ _ _ _ _ _ _ _ _ _ _ _ _ _ _ _ _ _ _ _ _ _, fun _ => ⟨fun e1 => ?_, fun _ => ⟨fun e3 => ?_, fun _ => hΦ _ _ _ _ _ _ _ _ _ _ _ _ _ _ _ _ _ _ _ _ _ _ _⟩⟩⟩) (fun _ => ⟨fun _ => hΦ _ _ _ _ _ _ _ _ _ _ _ _ _ _ _ _ _ _ _ _ _ _ _, fun z => absurd rfl z⟩)
  · obtain ⟨j, hj, ej⟩ := hH.2.2 (Or.inl e1)
    exact key j hj ej
  · obtain ⟨j, hj, ej⟩ := hH.2.2 (Or.inr e3)
    exact key j hj ej
end ALIKE
end
section
theorem sp_X8_keeps {a : Nat} {x xb : Int32} {mk : Nat → Int32} {Φ : Int32 → Int32 → (Nat → Int32) → Prop} (ha : a < 1200) (h0 : xb = 0 → Φ x (nI (a + 1)) (upd mk a x)) (h1 : ¬ xb = 0 → Φ (mk a) (nI (a + 1)) mk) : wp_X8_keeps x xb (nI a) mk Φ := by
  unfold wp_X8_keeps
  rw [nI_1, nI_clamp (by omega)]
  exact ⟨fun e => ⟨pk_in a 1200 ha, h0 e⟩, fun e => ⟨pk_in a 1200 ha, h1 e⟩⟩
theorem sp_X8_keepsRow {n a : Nat} {xb : Int32} {mk r : Nat → Int32} {Φ : Int32 → (Nat → Int32) → (Nat → Int32) → Prop} (hn : n ≤ 200) (ha : a + n ≤ 1200) (hΦ : ∀ mk' r' : Nat → Int32, (∀ j, (j < a ∨ a + n ≤ j) → mk' j = mk j) → Φ (nI (a + n)) mk' r') : wp_X8_keepsRow n (nI n) xb (nI a) mk r Φ := by
  have key : ∀ (m k : Nat) (mk' r' : Nat → Int32), m = n - k → k ≤ n → (∀ j, (j < a ∨ a + n ≤ j) → mk' j = mk j) → lf_X8_keepsRow_3 n (nI n) xb Φ (m + 1) (nI (a + k)) mk' r' (nI k) := by
    intro m
    induction m with
    | zero =>
      intro k mk' r' hm hk hf
      have e : k = n := by omega
      subst e
      exact ⟨fun _ => hΦ _ _ hf, fun z => absurd (nI_le (Nat.le_refl _) (by omega)) z⟩
    | succ m ih =>
      intro k mk' r' hm hk hf
      show lb_X8_keepsRow_3 _ _ _ _ _ _ _ _ _
      unfold lb_X8_keepsRow_3
      rw [nI_1]
      have ik : vp_in (nI k) n := pk_in k n (by omega)
      refine ⟨fun z => absurd z (nI_ge (by omega) (by omega)), fun _ => ⟨ik, sp_X8_keeps (by omega) (fun _ => ⟨ik, ?_⟩) (fun _ => ⟨ik, ?_⟩)⟩⟩
      · refine ih (k + 1) _ _ (by omega) (by omega) (fun j hj => ?_)
        rw [pk_un (by omega)]
        exact hf j hj
      · exact ih (k + 1) _ _ (by omega) (by omega) hf
  exact ⟨n - 0 + 1, key (n - 0) 0 mk r rfl (Nat.zero_le _) (fun _ _ => rfl)⟩
/-- what a laid mark keeps of the hand -/
def MK (il mk ln : Nat → Int32) : Prop := ∀ m, m < 4 → ¬ il m = 0 → ∃ l : Nat, ln (2 + m) = nI l ∧ l ≤ 16 ∧ HS l (mk (300 * m)) (mk (300 * m + 1)) (mk (300 * m + 2)) (mk (300 * m + 3))
abbrev PMk : Type := Int32 → Int32 → Int32 → Int32 → Int32 → Int32 → Int32 → (Nat → Int32) → (Nat → Int32) → (Nat → Int32) → (Nat → Int32) → (Nat → Int32) → (Nat → Int32) → (Nat → Int32) → (Nat → Int32) → (Nat → Int32) → (Nat → Int32) → (Nat → Int32) → (Nat → Int32) → (Nat → Int32) → (Nat → Int32) → (Nat → Int32) → (Nat → Int32) → (Nat → Int32) → (Nat → Int32) → (Nat → Int32) → (Nat → Int32) → (Nat → Int32) → (Nat → Int32) → Prop
section MARK
variable {st ce ip ln be co ca ic le mo ta ac ls tw lf lt cd hc wo hst il mk : Nat → Int32} {sta hn hs hw f0 fa x1 : Int32} {Φ : PMk}
theorem sp_mark59 {m : Nat} (hm : m < 4) (hΦ : ∀ (sta' hn' hs' hw' fa' : Int32) (hc' wo' hst' mk' : Nat → Int32), (x1 = 0 → (sta' = sta ∧ hn' = hn ∧ hs' = hs ∧ hw' = hw) ∧ mk' (300 * m) = sta ∧ mk' (300 * m + 1) = hn ∧ mk' (300 * m + 2) = hs ∧ mk' (300 * m + 3) = hw) → (¬ x1 = 0 → (sta' = mk (300 * m) ∧ hn' = mk (300 * m + 1) ∧ hs' = mk (300 * m + 2) ∧ hw' = mk (300 * m + 3)) ∧ ∀ j, j < 300 * m + 4 → mk' j = mk j) → (∀ j, (j < 300 * m ∨ 300 * m + 226 ≤ j) → mk' j = mk j) → Φ 1 f0 sta' hn' hs' hw' fa' st ce ip ln be co ca ic le mo ta ac ls tw lf lt cd hc' wo' hst' il mk') : kf_X8_mark_59 (nI m) x1 Φ f0 sta hn hs hw fa st ce ip ln be co ca ic le mo ta ac ls tw lf lt cd hc wo hst il mk := by
  unfold kf_X8_mark_59
  rw [show (300 : Int32) * nI m = nI (300 * m) by rw [show (300 : Int32) = nI 300 from rfl, pk_mul]]
  by_cases e : x1 = 0
  · refine sp_X8_keeps (by omega) (fun _ => ?_) (fun z => absurd e z)
    refine sp_X8_keeps (by omega) (fun _ => ?_) (fun z => absurd e z)
    refine sp_X8_keeps (by omega) (fun _ => ?_) (fun z => absurd e z)
    refine sp_X8_keeps (by omega) (fun _ => ?_) (fun z => absurd e z)
    refine sp_X8_keepsRow (n := 6) (by decide) (by omega) (fun m1 r1 h1 => ?_)
    refine sp_X8_keepsRow (n := 16) (by decide) (by omega) (fun m2 r2 h2 => ?_)
    refine sp_X8_keepsRow (n := 200) (by decide) (by omega) (fun m3 r3 h3 => ?_)
    refine hΦ _ _ _ _ _ _ _ _ _ (fun _ => ⟨⟨rfl, rfl, rfl, rfl⟩, ?_, ?_, ?_, ?_⟩) (fun z => absurd e z) (fun j hj => ?_)
    · rw [h3 _ (by omega), h2 _ (by omega), h1 _ (by omega), pk_un (by omega), pk_un (by omega), pk_un (by omega), pk_us]
    · rw [h3 _ (by omega), h2 _ (by omega), h1 _ (by omega), pk_un (by omega), pk_un (by omega), pk_us]
    · rw [h3 _ (by omega), h2 _ (by omega), h1 _ (by omega), pk_un (by omega), pk_us]
    · rw [h3 _ (by omega), h2 _ (by omega), h1 _ (by omega), pk_us]
    · rw [h3 _ (by omega), h2 _ (by omega), h1 _ (by omega), pk_un (by omega), pk_un (by omega), pk_un (by omega), pk_un (by omega)]
  · refine sp_X8_keeps (by omega) (fun z => absurd z e) (fun _ => ?_)
    refine sp_X8_keeps (by omega) (fun z => absurd z e) (fun _ => ?_)
    refine sp_X8_keeps (by omega) (fun z => absurd z e) (fun _ => ?_)
    refine sp_X8_keeps (by omega) (fun z => absurd z e) (fun _ => ?_)
    refine sp_X8_keepsRow (n := 6) (by decide) (by omega) (fun m1 r1 h1 => ?_)
    refine sp_X8_keepsRow (n := 16) (by decide) (by omega) (fun m2 r2 h2 => ?_)
    refine sp_X8_keepsRow (n := 200) (by decide) (by omega) (fun m3 r3 h3 => ?_)
    exact hΦ _ _ _ _ _ _ _ _ _ (fun z => absurd z e) (fun _ => ⟨⟨rfl, rfl, rfl, rfl⟩, fun j hj => by rw [h3 _ (by omega), h2 _ (by omega), h1 _ (by omega)]⟩) (fun j hj => by rw [h3 _ (by omega), h2 _ (by omega), h1 _ (by omega)])
theorem sp_X8_mark {l : Nat} {x0 : Int32} (h : GM st ce ip ln le mo ta ac ls lf lt cd) (hl : ln 0 = nI l) (hl6 : l ≤ 16) (hH : HS l sta hn hs hw) (hM : MK il mk ln)
    (h0 : (x0 < 0 ∨ 3 < x0 ∨ (¬ x1 = 0 ∧ il x0.toNatClampNeg = 0)) → Φ 0 0 sta hn hs hw fa st ce ip ln be co ca ic le mo ta ac ls tw lf lt cd hc wo hst il mk)
    (h1 : ∀ (m l' : Nat) (sta' hn' hs' hw' fa' : Int32) (st' ce' ip' ln' be' co' ca' ic' le' mo' ta' ac' ls' tw' lf' lt' cd' hc' wo' hst' mk' : Nat → Int32), m < 4 → x0 = nI m → (x1 = 0 ∨ ¬ il m = 0) → GM st' ce' ip' ln' le' mo' ta' ac' ls' lf' lt' cd' → ln' 0 = nI l' → l' ≤ 16 → HS l' sta' hn' hs' hw' → MK (upd il m (vp_nar .boolean 1)) mk' ln' → (CO co → CO co') → Φ 1 0 sta' hn' hs' hw' fa' st' ce' ip' ln' be' co' ca' ic' le' mo' ta' ac' ls' tw' lf' lt' cd' hc' wo' hst' (upd il m (vp_nar .boolean 1)) mk') : wp_X8_mark x0 x1 f0 sta hn hs hw fa st ce ip ln be co ca ic le mo ta ac ls tw lf lt cd hc wo hst il mk Φ := by
  unfold wp_X8_mark
  refine sp_X8_within (fun a b => ⟨fun z => absurd z (by decide), fun _ => ?_⟩) (fun z => ⟨fun _ => h0 (z.elim Or.inl (fun y => Or.inr (Or.inl y))), fun z => absurd rfl z⟩)
  obtain ⟨m, hm, rfl⟩ := nI_of a
  have m4 : m < 4 := Nat.lt_of_not_le (fun z => b (nI_lt (a := 3) (by omega) hm))
  have im : vp_in (nI m) 4 := pk_in m 4 m4
  have ecl : (nI m).toNatClampNeg = m := nI_clamp (by omega)
  rw [ecl] at h0
  rw [ecl]
  have e2 : (2 : Int32) + nI m = nI (2 + m) := by rw [show (2 : Int32) = nI 2 from rfl, nI_add]
  have go : (x1 = 0 ∨ ¬ il m = 0) → kf_X8_mark_29 (nI m) x1 Φ 0 sta hn hs hw fa st ce ip ln be co ca ic le mo ta ac ls tw lf lt cd hc wo hst il mk := by
    intro hor
    unfold kf_X8_mark_29
    rw [e2, nI_clamp (n := m) (by omega)]
    refine ⟨im, fun e => ?_, fun e => ?_⟩
    · refine sp_X8_lays (f := 0) (g := 2 + m) (cap := 1000 * 0 + 1000) (by decide) (by omega) (by omega) (Nat.le_refl _) (h 0 (by decide) (by decide)) (fun st' ce' ip' ln' be' co' ca' ic' le' mo' ta' ac' ls' tw' lf' lt' cd' hg hk hq hn0 hco => ?_)
      have hGM : GM st' ce' ip' ln' le' mo' ta' ac' ls' lf' lt' cd' := fun p hp hp1 => by
        by_cases ep : p = 2 + m
        · subst ep; exact hg
        · exact hk p _ hp ep (Nat.le_refl _) (h p hp hp1)
      refine sp_mark59 m4 (fun sta' hn' hs' hw' fa' hc' wo' hst' mk' c0 _ cf => ?_)
      obtain ⟨⟨rfl, rfl, rfl, rfl⟩, d0, d1, d2, d3⟩ := c0 e
      refine h1 m l _ _ _ _ _ _ _ _ _ _ _ _ _ _ _ _ _ _ _ _ _ _ _ _ _ _ m4 rfl hor hGM ((hn0 0 (by omega) (by decide)).trans hl) hl6 hH (fun q hq4 hil => ?_) hco
      by_cases eq : q = m
      · subst eq
        exact ⟨l, hq.2.2.2.trans hl, hl6, by rw [d0, d1, d2, d3]; exact hH⟩
      · rw [pk_un (by omega)] at hil
        obtain ⟨y, y1, y2, y3⟩ := hM q hq4 hil
        exact ⟨y, (hn0 (2 + q) (by omega) (by omega)).trans y1, y2, by rw [cf _ (by omega), cf _ (by omega), cf _ (by omega), cf _ (by omega)]; exact y3⟩
    · have him : ¬ il m = 0 := hor.resolve_left e
      obtain ⟨lm, g1, g2, g3⟩ := hM m m4 him
      refine sp_X8_lays (f := 2 + m) (g := 0) (cap := 1000 * (2 + m) + 1000) (by omega) (by decide) (by omega) (Nat.le_refl _) (h (2 + m) (by omega) (by omega)) (fun st' ce' ip' ln' be' co' ca' ic' le' mo' ta' ac' ls' tw' lf' lt' cd' hg hk hq hn0 hco => ?_)
      have hGM : GM st' ce' ip' ln' le' mo' ta' ac' ls' lf' lt' cd' := fun p hp hp1 => by
        by_cases ep : p = 0
        · subst ep; exact hg
        · exact hk p _ hp ep (Nat.le_refl _) (h p hp hp1)
      refine sp_mark59 m4 (fun sta' hn' hs' hw' fa' hc' wo' hst' mk' _ c1 cf => ?_)
      obtain ⟨⟨rfl, rfl, rfl, rfl⟩, d⟩ := c1 e
      refine h1 m lm _ _ _ _ _ _ _ _ _ _ _ _ _ _ _ _ _ _ _ _ _ _ _ _ _ _ m4 rfl hor hGM (hq.2.2.2.trans g1) g2 g3 (fun q hq4 hil => ?_) hco
      have hil' : ¬ il q = 0 := by
        by_cases eq : q = m
        · subst eq; exact him
        · rw [pk_un (by omega)] at hil; exact hil
      obtain ⟨y, y1, y2, y3⟩ := hM q hq4 hil'
      refine ⟨y, (hn0 (2 + q) (by omega) (by omega)).trans y1, y2, ?_⟩
      by_cases eq : q = m
      · subst eq
        rw [d _ (by omega), d _ (by omega), d _ (by omega), d _ (by omega)]; exact y3
      · rw [cf _ (by omega), cf _ (by omega), cf _ (by omega), cf _ (by omega)]; exact y3
  exact ⟨fun e => go (Or.inl e), fun e => ⟨im, fun z => go (Or.inr z), fun z => h0 (Or.inr (Or.inr ⟨e, z⟩))⟩⟩
end MARK
end
section
/-- lastsBy's answer -/
def lbv (be co mp de : Nat → Int32) (j c i t : Nat) : Int32 := if t ≤ c then (if (if mp j ≤ be i * nI t then co i * nI t else (1000000 : Int32)) + de (65 * (j + 1) + c - t) < (1000000 : Int32) then (if mp j ≤ be i * nI t then co i * nI t else (1000000 : Int32)) + de (65 * (j + 1) + c - t) else (1000000 : Int32)) else 1000000
section LB
variable {be co mp de : Nat → Int32}
theorem sp_X8_lastsBy {j c i t : Nat} {Φ : Int32 → Prop} (hj : j < 16) (hc : c ≤ 64) (hi : i < 24) (ht : t < 100) (hΦ : Φ (lbv be co mp de j c i t)) : wp_X8_lastsBy be co mp de (nI j) (nI c) (nI i) (nI t) Φ := by
  unfold wp_X8_lastsBy
  refine ⟨fun z => ?_, fun z => ?_⟩
  · have htc : t ≤ c := (nI_leI (by omega) (by omega)).mp z
    have e : (65 : Int32) * (nI j + 1) + nI c - nI t = nI (65 * (j + 1) + c - t) := by
      rw [nI_1, show (65 : Int32) = nI 65 from rfl, pk_mul, nI_add]
      obtain ⟨d, rfl⟩ : ∃ d, c = t + d := ⟨c - t, by omega⟩
      rw [show 65 * (j + 1) + (t + d) = (65 * (j + 1) + d) + t by omega, ← nI_add _ t, show 65 * (j + 1) + d + t - t = 65 * (j + 1) + d by omega]
      exact Int32.add_sub_cancel _ _
    have ee := nI_clamp (n := 65 * (j + 1) + c - t) (by omega)
    unfold lbv at hΦ
    rw [if_pos htc] at hΦ
    unfold wp_X8_layCost
    rw [e, ee, nI_clamp (n := i) (by omega), nI_clamp (n := j) (by omega)]
    refine ⟨pk_in i 24 hi, pk_in j 16 hj, fun w => ⟨pk_in i 24 hi, pk_in (65 * (j + 1) + c - t) 1105 (by omega), ?_⟩, fun w => ⟨pk_in (65 * (j + 1) + c - t) 1105 (by omega), ?_⟩⟩
    · rw [if_pos w] at hΦ; exact hΦ
    · rw [if_neg w] at hΦ; exact hΦ
  · have htc : ¬ t ≤ c := fun y => z (nI_le y (by omega))
    unfold lbv at hΦ
    rw [if_neg htc] at hΦ
    exact hΦ
theorem lbv_nat {j c i t : Nat} (hC : CO co) (ht4 : t ≤ 4) (hn : t ≤ c → ∃ a : Nat, a ≤ 1000000 ∧ de (65 * (j + 1) + c - t) = nI a) : ∃ b : Nat, b ≤ 1000000 ∧ lbv be co mp de j c i t = nI b ∧ (b < 1000000 → t ≤ c ∧ ∃ a : Nat, a < 1000000 ∧ de (65 * (j + 1) + c - t) = nI a) := by
  unfold lbv
  by_cases htc : t ≤ c
  · rw [if_pos htc]
    obtain ⟨a, ha, ea⟩ := hn htc
    obtain ⟨r, hr, er⟩ : ∃ r : Nat, r ≤ 1000000 ∧ (if mp j ≤ be i * nI t then co i * nI t else (1000000 : Int32)) = nI r := by
      by_cases w : mp j ≤ be i * nI t
      · rw [if_pos w]
        obtain ⟨x, hx, ex⟩ := hC i
        refine ⟨x * t, ?_, by rw [ex, pk_mul]⟩
        have := Nat.mul_le_mul hx ht4
        omega
      · rw [if_neg w]; exact ⟨1000000, Nat.le_refl _, rfl⟩
    rw [er, ea, nI_add]
    by_cases w : nI (r + a) < (1000000 : Int32)
    · rw [if_pos w]
      have hlt : r + a < 1000000 := (nI_ltI (b := 1000000) (by omega) (by decide)).mp w
      exact ⟨r + a, by omega, rfl, fun _ => ⟨htc, a, by omega, rfl⟩⟩
    · rw [if_neg w]; exact ⟨1000000, Nat.le_refl _, rfl, fun z => absurd z (Nat.lt_irrefl _)⟩
  · rw [if_neg htc]; exact ⟨1000000, Nat.le_refl _, rfl, fun z => absurd z (Nat.lt_irrefl _)⟩
def WB (s : Nat) (be co mp de : Nat → Int32) (j c b : Nat) : Prop := b ≤ 1000000 ∧ (b < 1000000 → ∃ i t : Nat, i < s ∧ 1 ≤ t ∧ t ≤ 4 ∧ lbv be co mp de j c i t = nI b)
theorem lbv_upd {j c i t q : Nat} {v : Int32} (hq : q < 65 * (j + 1)) : lbv be co mp (upd de q v) j c i t = lbv be co mp de j c i t := by
  unfold lbv
  by_cases htc : t ≤ c
  · rw [if_pos htc, if_pos htc, pk_un (by omega)]
  · rw [if_neg htc, if_neg htc]
theorem WB.up {s j c b q : Nat} {v : Int32} (h : WB s be co mp de j c b) (hq : q < 65 * (j + 1)) : WB s be co mp (upd de q v) j c b := ⟨h.1, fun z => by
  obtain ⟨i, t, a1, a2, a3, a4⟩ := h.2 z
  exact ⟨i, t, a1, a2, a3, by rw [lbv_upd hq]; exact a4⟩⟩
def DQ (l s : Nat) (be co mp de : Nat → Int32) (j0 c0 : Nat) : Prop := (∀ c, c ≤ 64 → ∃ b : Nat, b ≤ 1000000 ∧ de (65 * l + c) = nI b) ∧ ∀ j c, c ≤ 64 → j < l → (j0 < j ∨ (j = j0 ∧ c < c0)) → ∃ b : Nat, de (65 * j + c) = nI b ∧ WB s be co mp de j c b
theorem DQ.next {l s j0 c0 j x : Nat} (h : DQ l s be co mp de j0 c0) (hj : j < l) (h0 : j0 ≤ j) (hx : x ≤ 64) : ∃ a : Nat, a ≤ 1000000 ∧ de (65 * (j + 1) + x) = nI a := by
  by_cases e : j + 1 = l
  · rw [e]; exact h.1 x hx
  · obtain ⟨b, b1, b2⟩ := h.2 (j + 1) x hx (by omega) (by omega)
    exact ⟨b, b2.1, b1⟩
theorem DQ.step {l s j0 c0 b : Nat} (h : DQ l s be co mp de j0 c0) (hj : j0 < l) (hc : c0 ≤ 64) (hb : WB s be co mp de j0 c0 b) : DQ l s be co mp (upd de (65 * j0 + c0) (nI b)) j0 (c0 + 1) := by
  refine ⟨fun c hc' => ?_, fun j c hc' hjl hor => ?_⟩
  · obtain ⟨x, x1, x2⟩ := h.1 c hc'
    exact ⟨x, x1, by rw [pk_un (by omega)]; exact x2⟩
  · by_cases e : j = j0 ∧ c = c0
    · obtain ⟨rfl, rfl⟩ := e
      exact ⟨b, pk_us, hb.up (by omega)⟩
    · obtain ⟨x, x1, x2⟩ := h.2 j c hc' hjl (by omega)
      exact ⟨x, by rw [pk_un (by omega)]; exact x1, x2.up (by omega)⟩
theorem DQ.wrap {l s j : Nat} (h : DQ l s be co mp de (j + 1) 65) : DQ l s be co mp de j 0 := ⟨h.1, fun j' c hc hjl hor => h.2 j' c hc hjl (by omega)⟩
end LB
end
section
abbrev K56 : Type := Int32 → Int32 → Int32 → Int32 → Int32 → Int32 → Int32 → (Nat → Int32) → (Nat → Int32) → (Nat → Int32) → (Nat → Int32) → (Nat → Int32) → (Nat → Int32) → (Nat → Int32) → (Nat → Int32) → (Nat → Int32) → (Nat → Int32) → (Nat → Int32) → (Nat → Int32) → (Nat → Int32) → (Nat → Int32) → (Nat → Int32) → (Nat → Int32) → (Nat → Int32) → (Nat → Int32) → (Nat → Int32) → Int32 → Prop
abbrev K63 : Type := Int32 → Int32 → Int32 → Int32 → Int32 → Int32 → Int32 → (Nat → Int32) → (Nat → Int32) → (Nat → Int32) → (Nat → Int32) → (Nat → Int32) → (Nat → Int32) → (Nat → Int32) → (Nat → Int32) → (Nat → Int32) → (Nat → Int32) → (Nat → Int32) → (Nat → Int32) → (Nat → Int32) → (Nat → Int32) → (Nat → Int32) → (Nat → Int32) → (Nat → Int32) → (Nat → Int32) → (Nat → Int32) → Int32 → Int32 → Prop
abbrev K78 : Type := Int32 → Int32 → Int32 → Int32 → Int32 → Int32 → Int32 → (Nat → Int32) → (Nat → Int32) → (Nat → Int32) → (Nat → Int32) → (Nat → Int32) → (Nat → Int32) → (Nat → Int32) → (Nat → Int32) → (Nat → Int32) → (Nat → Int32) → (Nat → Int32) → (Nat → Int32) → (Nat → Int32) → (Nat → Int32) → (Nat → Int32) → (Nat → Int32) → (Nat → Int32) → (Nat → Int32) → (Nat → Int32) → Int32 → Int32 → Int32 → Int32 → Prop
abbrev PIl : Type := Int32 → Int32 → Int32 → Int32 → Int32 → Int32 → Int32 → Int32 → (Nat → Int32) → (Nat → Int32) → (Nat → Int32) → (Nat → Int32) → (Nat → Int32) → (Nat → Int32) → (Nat → Int32) → (Nat → Int32) → (Nat → Int32) → (Nat → Int32) → (Nat → Int32) → (Nat → Int32) → (Nat → Int32) → (Nat → Int32) → (Nat → Int32) → (Nat → Int32) → (Nat → Int32) → (Nat → Int32) → (Nat → Int32) → Prop
section IL
variable {st ce ip ln be co ca ic le mo ta ac ls tw lf lt cd : Nat → Int32} {x0 f1 f2 f3 f4 f5 f6 f7 : Int32} {k1 k2 k3 k4 k5 k6 k7 k8 k9 vo he we sr go pk mg mb mp : Nat → Int32} {l s : Nat} {Φ : PIl}
theorem sp_il92 {κ56 : K56} {κ63 : K63} {κ78 : K78} {de : Nat → Int32} {j c i : Nat} (hC : CO co) (hs : s ≤ 4) (hi : i < s) (hl6 : l ≤ 16) (hj : j < l) (hc : c ≤ 64) (hD : DQ l s be co mp de j c) (hκ : ∀ b : Nat, WB s be co mp de j c b → κ78 f1 f2 f3 f4 f5 f6 f7 k1 k2 k3 k4 k5 k6 k7 k8 k9 vo he we sr go pk mg mb mp de (nI j) (nI c) (nI b) (nI i + 1)) : ∀ m t b : Nat, m = 5 - t → 1 ≤ t → t ≤ 5 → WB s be co mp de j c b → lf_X8_isLasting_92 st ce ip ln be co ca ic le mo ta ac ls tw lf lt cd x0 κ56 κ63 κ78 Φ (m + 1) f1 f2 f3 f4 f5 f6 f7 k1 k2 k3 k4 k5 k6 k7 k8 k9 vo he we sr go pk mg mb mp de (nI j) (nI c) (nI b) (nI i) (nI t) := by
  intro m
  induction m with
  | zero =>
    intro t b hm h1 h5 hb
    have e : t = 5 := by omega
    subst e
    exact ⟨fun _ => hκ b hb, fun z => absurd (by decide) z⟩
  | succ m ih =>
    intro t b hm h1 h5 hb
    show lb_X8_isLasting_92 _ _ _ _ _ _ _ _ _ _ _ _ _ _ _ _ _ _ _ _ _ _ _ _ _ _ _ _ _ _ _ _ _ _ _ _ _ _ _ _ _ _ _ _ _ _ _ _ _ _ _ _ _ _
    unfold lb_X8_isLasting_92
    rw [nI_1 t]
    refine ⟨fun _ => hκ b hb, fun _ => sp_X8_lastsBy (by omega) hc (by omega) (by omega) ?_⟩
    obtain ⟨b', b1, b2, b3⟩ := lbv_nat (be := be) (mp := mp) (j := j) (c := c) (i := i) (t := t) hC (by omega) (fun htc => by
      obtain ⟨a, a1, a2⟩ := hD.next hj (Nat.le_refl _) (x := c - t) (by omega)
      exact ⟨a, a1, by rw [show 65 * (j + 1) + c - t = 65 * (j + 1) + (c - t) by omega]; exact a2⟩)
    have hb1 := hb.1
    clear b3
    rw [b2]
    by_cases w : nI b' < nI b
    · rw [if_pos w]
      exact ih (t + 1) b' (by omega) (by omega) (by omega) ⟨b1, fun _ => ⟨i, t, hi, h1, by omega, b2⟩⟩
    · rw [if_neg w]
      exact ih (t + 1) b (by omega) (by omega) (by omega) hb
theorem sp_il78 {κ56 : K56} {κ63 : K63} {de : Nat → Int32} {j c : Nat} (hC : CO co) (hs0 : st 0 = nI s) (hs : s ≤ 4) (hl6 : l ≤ 16) (hj : j < l) (hc : c ≤ 64) (hD : DQ l s be co mp de j c) (hκ : ∀ b : Nat, WB s be co mp de j c b → κ63 f1 f2 f3 f4 f5 f6 f7 k1 k2 k3 k4 k5 k6 k7 k8 k9 vo he we sr go pk mg mb mp (upd de (65 * j + c) (nI b)) (nI j) (nI c + 1)) : ∀ m i b : Nat, m = s - i → i ≤ s → WB s be co mp de j c b → lf_X8_isLasting_78 st ce ip ln be co ca ic le mo ta ac ls tw lf lt cd x0 κ56 κ63 Φ (m + 1) f1 f2 f3 f4 f5 f6 f7 k1 k2 k3 k4 k5 k6 k7 k8 k9 vo he we sr go pk mg mb mp de (nI j) (nI c) (nI b) (nI i) := by
  have ix : (65 : Int32) * nI j + nI c = nI (65 * j + c) := by rw [show (65 : Int32) = nI 65 from rfl, pk_mul, nI_add]
  intro m
  induction m with
  | zero =>
    intro i b hm hi hb
    show lb_X8_isLasting_78 _ _ _ _ _ _ _ _ _ _ _ _ _ _ _ _ _ _ _ _ _ _ _ _ _ _ _ _ _ _ _ _ _ _ _ _ _ _ _ _ _ _ _ _ _ _ _ _ _ _ _ _
    unfold lb_X8_isLasting_78
    rw [ix, nI_clamp (n := 65 * j + c) (by omega)]
    exact ⟨fun _ => ⟨pk_in (65 * j + c) 1105 (by omega), hκ b hb⟩, fun z => absurd (by rw [hs0]; exact nI_le (by omega) (by omega)) z⟩
  | succ m ih =>
    intro i b hm hi hb
    show lb_X8_isLasting_78 _ _ _ _ _ _ _ _ _ _ _ _ _ _ _ _ _ _ _ _ _ _ _ _ _ _ _ _ _ _ _ _ _ _ _ _ _ _ _ _ _ _ _ _ _ _ _ _ _ _ _ _
    unfold lb_X8_isLasting_78
    rw [ix, nI_clamp (n := 65 * j + c) (by omega)]
    refine ⟨fun _ => ⟨pk_in (65 * j + c) 1105 (by omega), hκ b hb⟩, fun _ => ⟨5 - 1 + 1, sp_il92 hC hs (by omega) hl6 hj hc hD (fun b' hb' => ?_) (5 - 1) 1 b rfl (by decide) (by decide) hb⟩⟩
    rw [nI_1]
    exact ih (i + 1) b' (by omega) (by omega) hb'
theorem sp_il63 {κ56 : K56} {j : Nat} (hC : CO co) (hs0 : st 0 = nI s) (hs : s ≤ 4) (hl6 : l ≤ 16) (hj : j < l) (hκ : ∀ de, DQ l s be co mp de j 65 → κ56 f1 f2 f3 f4 f5 f6 f7 k1 k2 k3 k4 k5 k6 k7 k8 k9 vo he we sr go pk mg mb mp de (nI j + (-1))) : ∀ (m c : Nat) (de : Nat → Int32), m = 65 - c → c ≤ 65 → DQ l s be co mp de j c → lf_X8_isLasting_63 st ce ip ln be co ca ic le mo ta ac ls tw lf lt cd x0 κ56 Φ (m + 1) f1 f2 f3 f4 f5 f6 f7 k1 k2 k3 k4 k5 k6 k7 k8 k9 vo he we sr go pk mg mb mp de (nI j) (nI c) := by
  intro m
  induction m with
  | zero =>
    intro c de hm hc hD
    have e : c = 65 := by omega
    subst e
    exact ⟨fun _ => hκ de hD, fun z => absurd (by decide) z⟩
  | succ m ih =>
    intro c de hm hc hD
    show lb_X8_isLasting_63 _ _ _ _ _ _ _ _ _ _ _ _ _ _ _ _ _ _ _ _ _ _ _ _ _ _ _ _ _ _ _ _ _ _ _ _ _ _ _ _ _ _ _ _ _ _ _ _ _
    unfold lb_X8_isLasting_63
    refine ⟨fun z => absurd z (nI_nlt (b := c) (a := 64) (by omega) (by decide)), fun _ => ⟨s - 0 + 1, sp_il78 hC hs0 hs hl6 hj (by omega) hD (fun b hb => ?_) (s - 0) 0 1000000 rfl (Nat.zero_le _) ⟨Nat.le_refl _, fun z => absurd z (Nat.lt_irrefl _)⟩⟩⟩
    rw [nI_1]
    exact ih (c + 1) _ (by omega) (by omega) (hD.step hj (by omega) hb)
def LH (l s : Nat) (x0 : Int32) (be co : Nat → Int32) (Φ : PIl) : Prop := ∀ r f1 f2 f3 f4 f5 f6 f7 k1 k2 k3 k4 k5 k6 k7 k8 k9 vo he we sr go pk mg mb mp de, (r = 0 ∨ r = 1) → (r = 1 → (∃ c a : Nat, x0 = nI c ∧ c ≤ 64 ∧ a < 1000000 ∧ de c = nI a) ∧ DQ l s be co mp de 0 65) → Φ r f1 f2 f3 f4 f5 f6 f7 k1 k2 k3 k4 k5 k6 k7 k8 k9 vo he we sr go pk mg mb mp de
theorem sp_il56 {c0 : Nat} (hC : CO co) (hs0 : st 0 = nI s) (hs : s ≤ 4) (hl6 : l ≤ 16) (hx : x0 = nI c0) (hx6 : c0 ≤ 64) (hl0 : 0 < l) (hΦ : LH l s x0 be co Φ) : ∀ (m : Nat) (de : Nat → Int32), m < l → DQ l s be co mp de m 0 → lf_X8_isLasting_56 st ce ip ln be co ca ic le mo ta ac ls tw lf lt cd x0 Φ (m + 2) f1 f2 f3 f4 f5 f6 f7 k1 k2 k3 k4 k5 k6 k7 k8 k9 vo he we sr go pk mg mb mp de (nI m) := by
  intro m
  induction m with
  | zero =>
    intro de hm hD
    show lb_X8_isLasting_56 _ _ _ _ _ _ _ _ _ _ _ _ _ _ _ _ _ _ _ _ _ _ _ _ _ _ _ _ _ _ _ _ _ _ _ _ _ _ _ _ _ _ _ _ _ _ _
    unfold lb_X8_isLasting_56
    refine ⟨fun z => absurd z (by decide), fun _ => ⟨65 - 0 + 1, sp_il63 hC hs0 hs hl6 hm (fun de' hD' => ?_) (65 - 0) 0 de rfl (by decide) hD⟩⟩
    show lb_X8_isLasting_56 _ _ _ _ _ _ _ _ _ _ _ _ _ _ _ _ _ _ _ _ _ _ _ _ _ _ _ _ _ _ _ _ _ _ _ _ _ _ _ _ _ _ _ _ _ _ _
    unfold lb_X8_isLasting_56
    refine ⟨fun _ => ⟨by rw [hx]; exact pk_in c0 1105 (by omega), fun _ => hΦ _ _ _ _ _ _ _ _ _ _ _ _ _ _ _ _ _ _ _ _ _ _ _ _ _ _ _ (Or.inl rfl) (fun z => absurd z (by decide)), fun z => hΦ _ _ _ _ _ _ _ _ _ _ _ _ _ _ _ _ _ _ _ _ _ _ _ _ _ _ _ (Or.inr rfl) (fun _ => ⟨?_, hD'⟩)⟩, fun z => absurd (by decide) z⟩
    obtain ⟨b, b1, b2⟩ := hD'.2 0 c0 hx6 hm (by omega)
    rw [show 65 * 0 + c0 = c0 by omega] at b1
    have hb1 := b2.1
    rw [hx, nI_clamp (n := c0) (by omega), b1] at z
    exact ⟨c0, b, hx, hx6, Nat.lt_of_not_le (fun y => z (nI_le (a := 1000000) y (by omega))), b1⟩
  | succ m ih =>
    intro de hm hD
    show lb_X8_isLasting_56 _ _ _ _ _ _ _ _ _ _ _ _ _ _ _ _ _ _ _ _ _ _ _ _ _ _ _ _ _ _ _ _ _ _ _ _ _ _ _ _ _ _ _ _ _ _ _
    unfold lb_X8_isLasting_56
    refine ⟨fun z => absurd z (nI_pos (by omega)), fun _ => ⟨65 - 0 + 1, sp_il63 hC hs0 hs hl6 hm (fun de' hD' => ?_) (65 - 0) 0 de rfl (by decide) hD⟩⟩
    rw [show nI (m + 1) + (-1) = nI m by rw [← Int32.sub_eq_add_neg]; exact nI_pred m]
    exact ih de' (by omega) hD'.wrap
end IL
end
section
abbrev K78a : Type := Int32 → Int32 → Int32 → Int32 → Int32 → Int32 → Int32 → (Nat → Int32) → (Nat → Int32) → (Nat → Int32) → (Nat → Int32) → (Nat → Int32) → (Nat → Int32) → (Nat → Int32) → (Nat → Int32) → (Nat → Int32) → (Nat → Int32) → (Nat → Int32) → (Nat → Int32) → (Nat → Int32) → (Nat → Int32) → (Nat → Int32) → (Nat → Int32) → (Nat → Int32) → (Nat → Int32) → (Nat → Int32) → Int32 → Int32 → Int32 → Prop
section IL2
variable {st ce ip ln be co ca ic le mo ta ac ls tw lf lt cd : Nat → Int32} {x0 : Int32} {l s : Nat}
theorem sp_X8_isLasting {Φ : PIl} {f1 f2 f3 f4 f5 f6 f7 : Int32} {k1 k2 k3 k4 k5 k6 k7 k8 k9 vo he we sr go pk mg mb mp de : Nat → Int32} (h : GM st ce ip ln le mo ta ac ls lf lt cd) (hC : CO co) (hs0 : st 0 = nI s) (hs : s ≤ 4) (hl : ln 0 = nI l) (hl6 : l ≤ 16) (hΦ : LH l s x0 be co Φ) : wp_X8_isLasting st ce ip ln be co ca ic le mo ta ac ls tw lf lt cd x0 f1 f2 f3 f4 f5 f6 f7 k1 k2 k3 k4 k5 k6 k7 k8 k9 vo he we sr go pk mg mb mp de Φ := by
  unfold wp_X8_isLasting
  refine sp_X8_within (fun a b => ⟨fun _ => hΦ _ _ _ _ _ _ _ _ _ _ _ _ _ _ _ _ _ _ _ _ _ _ _ _ _ _ _ (Or.inl rfl) (fun z => absurd z (by decide)), fun _ => ?_⟩) (fun _ => ⟨fun _ => hΦ _ _ _ _ _ _ _ _ _ _ _ _ _ _ _ _ _ _ _ _ _ _ _ _ _ _ _ (Or.inl rfl) (fun z => absurd z (by decide)), fun z => absurd rfl z⟩)
  have hx0 : ∃ c0 : Nat, x0 = nI c0 ∧ c0 ≤ 64 := by
    have n0 : ¬ x0 < 0 := fun z => a (Int32.lt_trans z (by decide))
    obtain ⟨c0, hc0, e⟩ := nI_of n0
    refine ⟨c0, e, Nat.le_of_not_lt (fun z => b ?_)⟩
    rw [e]; exact nI_lt (a := 64) z hc0
  obtain ⟨c0, hx, hx6⟩ := hx0
  have key : ∀ (m c : Nat) (f1 f2 f3 f4 f5 f6 f7 : Int32) (k1 k2 k3 k4 k5 k6 k7 k8 k9 vo he we sr go pk mg mb mp de : Nat → Int32), m = 65 - c → c ≤ 65 → (∀ y, y < c → de (65 * l + y) = nI 0) → lf_X8_isLasting_28 st ce ip ln be co ca ic le mo ta ac ls tw lf lt cd x0 Φ (m + 1) f1 f2 f3 f4 f5 f6 f7 k1 k2 k3 k4 k5 k6 k7 k8 k9 vo he we sr go pk mg mb mp de (nI l) (nI c) := by
    have ix : ∀ c : Nat, (65 : Int32) * nI l + nI c = nI (65 * l + c) := fun c => by rw [show (65 : Int32) = nI 65 from rfl, pk_mul, nI_add]
    intro m
    induction m with
    | zero =>
      intro c f1 f2 f3 f4 f5 f6 f7 k1 k2 k3 k4 k5 k6 k7 k8 k9 vo he we sr go pk mg mb mp de hm hc hr
      have e : c = 65 := by omega
      subst e
      refine ⟨fun _ => ?_, fun z => absurd (by decide) z⟩
      rcases Nat.eq_zero_or_pos l with e0 | e0
      · subst e0
        refine ⟨1, ?_⟩
        show lb_X8_isLasting_56 _ _ _ _ _ _ _ _ _ _ _ _ _ _ _ _ _ _ _ _ _ _ _ _ _ _ _ _ _ _ _ _ _ _ _ _ _ _ _ _ _ _ _ _ _ _ _
        unfold lb_X8_isLasting_56
        refine ⟨fun _ => ⟨by rw [hx]; exact pk_in c0 1105 (by omega), fun _ => hΦ _ _ _ _ _ _ _ _ _ _ _ _ _ _ _ _ _ _ _ _ _ _ _ _ _ _ _ (Or.inl rfl) (fun z => absurd z (by decide)), fun z => hΦ _ _ _ _ _ _ _ _ _ _ _ _ _ _ _ _ _ _ _ _ _ _ _ _ _ _ _ (Or.inr rfl) (fun _ => ⟨⟨c0, 0, hx, hx6, by decide, ?_⟩, fun c hc => ⟨0, by decide, hr c (by omega)⟩, fun j c _ hj => absurd hj (Nat.not_lt_zero _)⟩)⟩, fun z => absurd (by decide) z⟩
        have := hr c0 (by omega)
        rw [show 65 * 0 + c0 = c0 by omega] at this
        exact this
      · obtain ⟨l', rfl⟩ : ∃ l', l = l' + 1 := ⟨l - 1, by omega⟩
        rw [nI_pred]
        exact ⟨l' + 2, sp_il56 hC hs0 hs hl6 hx hx6 e0 hΦ l' de (by omega) ⟨fun c hc => ⟨0, by decide, hr c (by omega)⟩, fun j c _ hj hor => by omega⟩⟩
    | succ m ih =>
      intro c f1 f2 f3 f4 f5 f6 f7 k1 k2 k3 k4 k5 k6 k7 k8 k9 vo he we sr go pk mg mb mp de hm hc hr
      show lb_X8_isLasting_28 _ _ _ _ _ _ _ _ _ _ _ _ _ _ _ _ _ _ _ _ _ _ _ _ _ _ _ _ _ _ _ _ _ _ _ _ _ _ _ _ _ _ _ _ _ _ _ _
      unfold lb_X8_isLasting_28
      rw [ix, nI_1, nI_clamp (n := 65 * l + c) (by omega)]
      refine ⟨fun z => absurd z (nI_nlt (b := c) (a := 64) (by omega) (by decide)), fun _ => ⟨pk_in (65 * l + c) 1105 (by omega), ih (c + 1) _ _ _ _ _ _ _ _ _ _ _ _ _ _ _ _ _ _ _ _ _ _ _ _ _ _ (by omega) (by omega) (fun y hy => ?_)⟩⟩
      by_cases e : y = c
      · subst e; exact pk_us
      · rw [pk_un (by omega)]; exact hr y (by omega)
  refine sp_X8_wears h (fun r _ _ _ _ _ _ _ _ _ _ _ _ _ _ _ _ _ _ _ _ _ _ _ _ _ _ => ⟨fun _ => ?_, fun _ => hΦ _ _ _ _ _ _ _ _ _ _ _ _ _ _ _ _ _ _ _ _ _ _ _ _ _ _ _ (Or.inl rfl) (fun z => absurd z (by decide))⟩)
  rw [hl]
  exact ⟨65 - 0 + 1, key (65 - 0) 0 _ _ _ _ _ _ _ _ _ _ _ _ _ _ _ _ _ _ _ _ _ _ _ _ _ _ rfl (by decide) (fun y hy => absurd hy (Nat.not_lt_zero _))⟩
abbrev PIm : Type := Int32 → PIl
def LM (Φ : PIm) : Prop := ∀ r f1 f2 f3 f4 f5 f6 f7 k1 k2 k3 k4 k5 k6 k7 k8 k9 vo he we sr go pk mg mb mp de, Φ r 0 f1 f2 f3 f4 f5 f6 f7 k1 k2 k3 k4 k5 k6 k7 k8 k9 vo he we sr go pk mg mb mp de
theorem sp_X8_lasting {Φ : PIm} {f0 f1 f2 f3 f4 f5 f6 f7 : Int32} {k1 k2 k3 k4 k5 k6 k7 k8 k9 vo he we sr go pk mg mb mp de : Nat → Int32} (h : GM st ce ip ln le mo ta ac ls lf lt cd) (hC : CO co) (hΦ : LM Φ) : wp_X8_lasting st ce ip ln be co ca ic le mo ta ac ls tw lf lt cd x0 f0 f1 f2 f3 f4 f5 f6 f7 k1 k2 k3 k4 k5 k6 k7 k8 k9 vo he we sr go pk mg mb mp de Φ := by
  obtain ⟨⟨s, s4, hs⟩, -, -, ⟨l, l16, hl, -⟩⟩ := h 0 (by decide) (by decide)
  unfold wp_X8_lasting
  refine sp_X8_isLasting h hC hs s4 hl l16 (fun r _ _ _ _ _ _ _ _ _ _ _ _ _ _ _ _ _ _ _ _ _ _ _ _ _ _ hr hg => ⟨fun _ => hΦ _ _ _ _ _ _ _ _ _ _ _ _ _ _ _ _ _ _ _ _ _ _ _ _ _ _ _, fun e => ⟨?_, hΦ _ _ _ _ _ _ _ _ _ _ _ _ _ _ _ _ _ _ _ _ _ _ _ _ _ _ _⟩⟩)
  obtain ⟨⟨c, a, hx, hc, -⟩, -⟩ := hg (hr.resolve_left e)
  rw [hx]
  exact pk_in c 1105 (by omega)
theorem q4 : ∀ k : Fin 16, nI k.val / 4 = nI (k.val / 4) ∧ (1 : Int32) + (nI k.val - nI k.val / 4 * 4) = nI (1 + k.val % 4) := by decide
theorem sp_X8_lasts {Φ : PIm} {x1 x2 f0 f1 f2 f3 f4 f5 f6 f7 : Int32} {k1 k2 k3 k4 k5 k6 k7 k8 k9 vo he we sr go pk mg mb mp de : Nat → Int32} (h : GM st ce ip ln le mo ta ac ls lf lt cd) (hC : CO co) (hΦ : LM Φ) : wp_X8_lasts st ce ip ln be co ca ic le mo ta ac ls tw lf lt cd x0 x1 x2 f0 f1 f2 f3 f4 f5 f6 f7 k1 k2 k3 k4 k5 k6 k7 k8 k9 vo he we sr go pk mg mb mp de Φ := by
  obtain ⟨⟨s, s4, hs⟩, -, -, ⟨l, l16, hl, -⟩⟩ := h 0 (by decide) (by decide)
  unfold wp_X8_lasts
  refine sp_X8_isLine (fun a b => ⟨fun _ => hΦ _ _ _ _ _ _ _ _ _ _ _ _ _ _ _ _ _ _ _ _ _ _ _ _ _ _ _, fun _ => ?_⟩) ⟨fun _ => hΦ _ _ _ _ _ _ _ _ _ _ _ _ _ _ _ _ _ _ _ _ _ _ _ _ _ _ _, fun z => absurd rfl z⟩
  refine sp_X8_within (fun _ _ => ⟨fun _ => hΦ _ _ _ _ _ _ _ _ _ _ _ _ _ _ _ _ _ _ _ _ _ _ _ _ _ _ _, fun _ => ?_⟩) (fun _ => ⟨fun _ => hΦ _ _ _ _ _ _ _ _ _ _ _ _ _ _ _ _ _ _ _ _ _ _ _ _ _ _ _, fun z => absurd rfl z⟩)
  refine sp_X8_isLasting h hC hs s4 hl l16 (fun r f1 f2 f3 f4 f5 f6 f7 k1 k2 k3 k4 k5 k6 k7 k8 k9 vo he we sr go pk mg mb mp de hr hg => ⟨fun e => ?_, fun _ => hΦ _ _ _ _ _ _ _ _ _ _ _ _ _ _ _ _ _ _ _ _ _ _ _ _ _ _ _⟩)
  obtain ⟨⟨c, a, hx, hc, ha, hda⟩, hD⟩ := hg (hr.resolve_left e)
  have k38 : ∀ (m j c a : Nat), m = l - j → j ≤ l → c ≤ 64 → a < 1000000 → de (65 * j + c) = nI a → lf_X8_lasts_38 st ce ip ln be co ca ic le mo ta ac ls tw lf lt cd x0 x1 x2 Φ (m + 1) 0 f1 f2 f3 f4 f5 f6 f7 k1 k2 k3 k4 k5 k6 k7 k8 k9 vo he we sr go pk mg mb mp de (nI c) (nI j) := by
    intro m
    induction m with
    | zero =>
      intro j c a hm hj hc ha hda
      show lb_X8_lasts_38 _ _ _ _ _ _ _ _ _ _ _ _ _ _ _ _ _ _ _ _ _ _ _ _ _ _ _ _ _ _ _ _ _ _ _ _ _ _ _ _ _ _ _ _ _ _ _ _ _ _ _
      unfold lb_X8_lasts_38
      exact ⟨fun _ => hΦ _ _ _ _ _ _ _ _ _ _ _ _ _ _ _ _ _ _ _ _ _ _ _ _ _ _ _, fun z => absurd (by rw [hl]; exact nI_le (by omega) (by omega)) z⟩
    | succ m0 ih' =>
      intro j c a hm hj hc ha hda
      show lb_X8_lasts_38 _ _ _ _ _ _ _ _ _ _ _ _ _ _ _ _ _ _ _ _ _ _ _ _ _ _ _ _ _ _ _ _ _ _ _ _ _ _ _ _ _ _ _ _ _ _ _ _ _ _ _
      unfold lb_X8_lasts_38
      refine ⟨fun _ => hΦ _ _ _ _ _ _ _ _ _ _ _ _ _ _ _ _ _ _ _ _ _ _ _ _ _ _ _, fun _ => ?_⟩
      have hjl : j < l := by omega
      obtain ⟨b, b1, b2⟩ := hD.2 j c hc hjl (by omega)
      have eab : a = b := (nI_eq (by omega) (by have := b2.1; omega)).mp (hda.symm.trans b1)
      subst eab
      obtain ⟨i, t, i1, t1, t4, ev⟩ := b2.2 ha
      have ix : (65 : Int32) * nI j + nI c = nI (65 * j + c) := by rw [show (65 : Int32) = nI 65 from rfl, pk_mul, nI_add]
      have k52 : ∀ m k : Nat, m = 4 * i + (t - 1) - k → k ≤ 4 * i + (t - 1) → lf_X8_lasts_52 st ce ip ln be co ca ic le mo ta ac ls tw lf lt cd x0 x1 x2 (lf_X8_lasts_38 st ce ip ln be co ca ic le mo ta ac ls tw lf lt cd x0 x1 x2 Φ (m0 + 1)) Φ (m + 1) 0 f1 f2 f3 f4 f5 f6 f7 k1 k2 k3 k4 k5 k6 k7 k8 k9 vo he we sr go pk mg mb mp de (nI c) (nI j) (nI k) := by
        have body : ∀ (k : Nat) (κ : Int32 → K78a), k ≤ 4 * i + (t - 1) → (k < 4 * i + (t - 1) → κ 0 f1 f2 f3 f4 f5 f6 f7 k1 k2 k3 k4 k5 k6 k7 k8 k9 vo he we sr go pk mg mb mp de (nI c) (nI j) (nI (k + 1))) → lb_X8_lasts_52 st ce ip ln be co ca ic le mo ta ac ls tw lf lt cd x0 x1 x2 (lf_X8_lasts_38 st ce ip ln be co ca ic le mo ta ac ls tw lf lt cd x0 x1 x2 Φ (m0 + 1)) Φ κ 0 f1 f2 f3 f4 f5 f6 f7 k1 k2 k3 k4 k5 k6 k7 k8 k9 vo he we sr go pk mg mb mp de (nI c) (nI j) (nI k) := by
          intro k κ hk hκ
          unfold lb_X8_lasts_52
          have hq := q4 ⟨k, by omega⟩
          simp only at hq
          rw [hq.2, hq.1, ix, nI_1 k, nI_1 j, nI_clamp (n := 65 * j + c) (by omega)]
          refine sp_X8_lastsBy (by omega) hc (by omega) (by omega) ⟨pk_in (65 * j + c) 1105 (by omega), fun ee => ?_, fun ee => ?_⟩
          · obtain ⟨b', c1, c2, c3⟩ := lbv_nat (be := be) (mp := mp) (de := de) (j := j) (c := c) (i := k / 4) (t := 1 + k % 4) hC (by omega) (fun htc => by
              obtain ⟨y, y1, y2⟩ := hD.next hjl (Nat.zero_le _) (x := c - (1 + k % 4)) (by omega)
              exact ⟨y, y1, by rw [show 65 * (j + 1) + c - (1 + k % 4) = 65 * (j + 1) + (c - (1 + k % 4)) by omega]; exact y2⟩)
            have e3 : b' = a := (nI_eq (by omega) (by omega)).mp (c2.symm.trans (ee.trans hda))
            subst e3
            obtain ⟨w1, y, y1, y2⟩ := c3 ha
            clear c3
            refine ⟨fun _ => ?_, fun _ => ⟨fun _ => hΦ _ _ _ _ _ _ _ _ _ _ _ _ _ _ _ _ _ _ _ _ _ _ _ _ _ _ _, fun _ => hΦ _ _ _ _ _ _ _ _ _ _ _ _ _ _ _ _ _ _ _ _ _ _ _ _ _ _ _⟩⟩
            have es : nI c - nI (1 + k % 4) = nI (c - (1 + k % 4)) := by
              obtain ⟨d, rfl⟩ : ∃ d, c = d + (1 + k % 4) := ⟨c - (1 + k % 4), by omega⟩
              rw [← nI_add d, show d + (1 + k % 4) - (1 + k % 4) = d by omega]
              exact Int32.add_sub_cancel _ _
            rw [es]
            exact ih' (j + 1) (c - (1 + k % 4)) y (by omega) (by omega) (by omega) y1 (by rw [show 65 * (j + 1) + (c - (1 + k % 4)) = 65 * (j + 1) + c - (1 + k % 4) by omega]; exact y2)
          · refine hκ (Nat.lt_of_le_of_ne hk (fun e4 => ee ?_))
            rw [show k / 4 = i by omega, show 1 + k % 4 = t by omega, ev, b1]
        intro m
        induction m with
        | zero => exact fun k hm hk => body k _ hk (fun z => by omega)
        | succ m ihm => exact fun k hm hk => body k _ hk (fun z => ihm (k + 1) (by omega) (by omega))
      exact ⟨4 * i + (t - 1) - 0 + 1, k52 (4 * i + (t - 1) - 0) 0 rfl (Nat.zero_le _)⟩
  have tt := k38 (l - 0) 0 c a rfl (Nat.zero_le _) hc ha (by rw [show 65 * 0 + c = c by omega]; exact hda)
  rw [← hx] at tt
  exact ⟨l - 0 + 1, tt⟩
end IL2
end
section
/-- the byte that feed looks at in turn k -/
def fby (xa xb xc : Int64) (k : Nat) : Int32 := ((((((if k < 8 then xa else if k < 16 then xb else xc)).toUInt64 >>> ((56 - (8 * (nI k &&& 7))).toInt64.toUInt64 &&& Int64.toUInt64 63)).toInt64) &&& 255).toInt32)
abbrev fok (v : Int32) : Prop := v = 10 ∨ (¬ v < 32 ∧ ¬ 126 < v)
/-- how many bytes lie on the tape behind the turns k .. k + m -/
def fcn (xa xb xc : Int64) : Nat → Nat → Nat → Nat
  | 0, _, n => n
  | m + 1, k, n => fcn xa xb xc m (k + 1) (if n < 1000 ∧ fok (fby xa xb xc k) then n + 1 else n)
theorem fcn_le (xa xb xc : Int64) : ∀ m k n, n ≤ 1000 → fcn xa xb xc m k n ≤ 1000 := by
  intro m
  induction m with
  | zero => intro k n h; exact h
  | succ m ih =>
    intro k n h
    show fcn xa xb xc m (k + 1) _ ≤ 1000
    refine ih (k + 1) _ ?_
    by_cases e : n < 1000 ∧ fok (fby xa xb xc k)
    · rw [if_pos e]; omega
    · rw [if_neg e]; exact h
theorem sp_X8_feed {xa xb xc : Int64} {n : Nat} {F : Int32} {t : Nat → Int32} {Φ : Int32 → Int32 → Int32 → (Nat → Int32) → Prop} (hn : n ≤ 1000) (hΦ : ∀ t', Φ (nI (fcn xa xb xc 24 0 n)) 0 (nI (fcn xa xb xc 24 0 n)) t') : wp_X8_feed xa xb xc F (nI n) t Φ := by
  have key : ∀ (m k n : Nat) (t : Nat → Int32), m = 24 - k → k ≤ 24 → n ≤ 1000 → (∀ t', Φ (nI (fcn xa xb xc m k n)) 0 (nI (fcn xa xb xc m k n)) t') → lf_X8_feed_8 xa xb xc Φ (m + 1) 0 (nI n) t (nI k) := by
    intro m
    induction m with
    | zero =>
      intro k n t hm hk hn hΦ
      have e : k = 24 := by omega
      subst e
      exact ⟨fun _ => hΦ t, fun z => absurd (by decide) z⟩
    | succ m ih =>
      intro k n t hm hk hn hΦ
      show lb_X8_feed_8 _ _ _ _ _ _ _ _ _
      unfold lb_X8_feed_8
      have hv : ∀ w : Int64, w = (if k < 8 then xa else if k < 16 then xb else xc) → kf_X8_feed_39 xa xb xc (lf_X8_feed_8 xa xb xc Φ (m + 1)) Φ 0 (nI n) t (nI k) w := by
        intro w hw
        subst hw
        unfold kf_X8_feed_39 kf_X8_feed_93
        have ev : ((((((if k < 8 then xa else if k < 16 then xb else xc)).toUInt64 >>> ((56 - (8 * (nI k &&& 7))).toInt64.toUInt64 &&& Int64.toUInt64 63)).toInt64) &&& 255).toInt32) = fby xa xb xc k := rfl
        rw [ev, nI_1, nI_1]
        have no : (¬ (n < 1000 ∧ fok (fby xa xb xc k))) → ∀ t, lf_X8_feed_8 xa xb xc Φ (m + 1) 0 (nI n) t (nI (k + 1)) := fun z t => ih (k + 1) n t (by omega) (by omega) hn (fun t' => by
          have := hΦ t'
          unfold fcn at this
          rw [if_neg z] at this
          exact this)
        have ys : n < 1000 → fok (fby xa xb xc k) → vp_in (nI n) 1000 ∧ lf_X8_feed_8 xa xb xc Φ (m + 1) 0 (nI (n + 1)) (upd t (nI n).toNatClampNeg (fby xa xb xc k)) (nI (k + 1)) := fun y z => ⟨pk_in n 1000 y, ih (k + 1) (n + 1) _ (by omega) (by omega) (by omega) (fun t' => by
          have := hΦ t'
          unfold fcn at this
          rw [if_pos ⟨y, z⟩] at this
          exact this)⟩
        refine ⟨fun z => no (fun y => nI_ge (b := 1000) y.1 (by decide) z) t, fun z => ?_⟩
        have hlt : n < 1000 := Nat.lt_of_not_le (fun y => z (nI_le (a := 1000) y (by omega)))
        refine ⟨fun e => ys hlt (Or.inl e), fun e => ⟨fun e2 => no (fun y => ?_) t, fun e2 => ⟨fun e3 => no (fun y => ?_) t, fun e3 => ys hlt (Or.inr ⟨e2, e3⟩)⟩⟩⟩
        · rcases y.2 with y | y
          · exact e y
          · exact y.1 e2
        · rcases y.2 with y | y
          · exact e y
          · exact y.2 e3
      refine ⟨fun z => absurd z (nI_ge (b := 24) (by omega) (by decide)), fun _ => ⟨fun z8 => ⟨fun z16 => hv xc ?_, fun z16 => hv xb ?_⟩, fun z8 => hv xa ?_⟩⟩
      · rw [if_neg (fun y => nI_ge (b := 8) y (by decide) z8), if_neg (fun y => nI_ge (b := 16) y (by decide) z16)]
      · rw [if_neg (fun y => nI_ge (b := 8) y (by decide) z8), if_pos (Nat.lt_of_not_le (fun y => z16 (nI_le (a := 16) y (by omega))))]
      · rw [if_pos (Nat.lt_of_not_le (fun y => z8 (nI_le (a := 8) y (by omega))))]
  exact ⟨24 - 0 + 1, key (24 - 0) 0 n t rfl (by decide) hn hΦ⟩
end
section
theorem fcn_add (xa xb xc : Int64) : ∀ a b k n, fcn xa xb xc (a + b) k n = fcn xa xb xc b (k + a) (fcn xa xb xc a k n) := by
  intro a
  induction a with
  | zero => intro b k n; rw [Nat.zero_add]; rfl
  | succ a ih =>
    intro b k n
    rw [show a + 1 + b = (a + b) + 1 by omega]
    show fcn xa xb xc (a + b) (k + 1) _ = fcn xa xb xc b (k + (a + 1)) (fcn xa xb xc a (k + 1) _)
    rw [ih, show k + 1 + a = k + (a + 1) by omega]
theorem by_and (x : Int64) : x.toInt32 &&& 255 = (x &&& 255).toInt32 := by
  rw [Int64.toInt32_and]; rfl
def ab (i : Nat) : Int32 := 56 - 8 * nI i
theorem ab_step : ∀ i : Fin 8, ¬ ab i.val < 0 ∧ ab i.val + (-8) = ab (i.val + 1) := by decide
theorem ab_sh : ∀ q : Fin 3, ∀ i : Fin 8, ab i.val = 56 - 8 * (nI (8 * q.val + i.val) &&& 7) := by decide
theorem sp_X5_addBytes {xa xb xc w : Int64} {q n : Nat} {sg : Nat → Int32} {Φ : Int32 → (Nat → Int32) → Prop} (hq : q < 3) (hw : w = (if q = 0 then xa else if q = 1 then xb else xc)) (hn : n ≤ 1000) (hΦ : ∀ sg', Φ (nI (fcn xa xb xc 8 (8 * q) n)) sg') : wp_X5_addBytes w (nI n) sg Φ := by
  have key : ∀ (m i n : Nat) (sg : Nat → Int32), m = 8 - i → i ≤ 8 → n ≤ 1000 → (∀ sg', Φ (nI (fcn xa xb xc m (8 * q + i) n)) sg') → lf_X5_addBytes_3 w Φ (m + 1) (nI n) sg (ab i) := by
    intro m
    induction m with
    | zero =>
      intro i n sg hm hi hn hΦ
      have e : i = 8 := by omega
      subst e
      exact ⟨fun _ => hΦ sg, fun z => absurd (by decide) z⟩
    | succ m ih =>
      intro i n sg hm hi hn hΦ
      show lb_X5_addBytes_3 _ _ _ _ _ _
      unfold lb_X5_addBytes_3 kf_X5_addBytes_48
      have s1 := ab_step ⟨i, by omega⟩
      have s2 := ab_sh ⟨q, hq⟩ ⟨i, by omega⟩
      simp only at s1 s2
      have ew : w = (if 8 * q + i < 8 then xa else if 8 * q + i < 16 then xb else xc) := by
        rw [hw]
        by_cases e0 : q = 0
        · rw [if_pos e0, if_pos (show 8 * q + i < 8 by omega)]
        · rw [if_neg e0, if_neg (show ¬ 8 * q + i < 8 by omega)]
          by_cases e1 : q = 1
          · rw [if_pos e1, if_pos (show 8 * q + i < 16 by omega)]
          · rw [if_neg e1, if_neg (show ¬ 8 * q + i < 16 by omega)]
      have ev : ((((w).toUInt64 >>> ((ab i).toInt64.toUInt64 &&& Int64.toUInt64 63)).toInt64).toInt32) &&& 255 = fby xa xb xc (8 * q + i) := by
        rw [by_and, s2, ew]; rfl
      rw [ev, nI_1, s1.2]
      have no : (¬ (n < 1000 ∧ fok (fby xa xb xc (8 * q + i)))) → ∀ sg, lf_X5_addBytes_3 w Φ (m + 1) (nI n) sg (ab (i + 1)) := fun z sg => ih (i + 1) n sg (by omega) (by omega) hn (fun t' => by
        have := hΦ t'
        unfold fcn at this
        rw [if_neg z] at this
        exact this)
      have ys : n < 1000 → fok (fby xa xb xc (8 * q + i)) → ∀ sg, vp_in (nI n) 1000 ∧ lf_X5_addBytes_3 w Φ (m + 1) (nI (n + 1)) sg (ab (i + 1)) := fun y z sg => ⟨pk_in n 1000 y, ih (i + 1) (n + 1) sg (by omega) (by omega) (by omega) (fun t' => by
        have := hΦ t'
        unfold fcn at this
        rw [if_pos ⟨y, z⟩] at this
        exact this)⟩
      refine ⟨fun z => absurd z s1.1, fun _ => ⟨fun z => no (fun y => nI_ge (b := 1000) y.1 (by decide) z) _, fun z => ?_⟩⟩
      have hlt : n < 1000 := Nat.lt_of_not_le (fun y => z (nI_le (a := 1000) y (by omega)))
      refine ⟨fun e => ys hlt (Or.inl e) _, fun e => ⟨fun e2 => no (fun y => ?_) _, fun e2 => ⟨fun e3 => no (fun y => ?_) _, fun e3 => ys hlt (Or.inr ⟨e2, e3⟩) _⟩⟩⟩
      · rcases y.2 with y | y
        · exact e y
        · exact y.1 e2
      · rcases y.2 with y | y
        · exact e y
        · exact y.2 e3
  exact ⟨8 - 0 + 1, key (8 - 0) 0 n sg rfl (by decide) hn hΦ⟩
theorem sp_X7_feed {xa xb xc : Int64} {n : Nat} {sg : Nat → Int32} {Φ : Int32 → Int32 → (Nat → Int32) → Prop} (hn : n ≤ 1000) (hΦ : ∀ sg', Φ (nI (fcn xa xb xc 24 0 n)) (nI (fcn xa xb xc 24 0 n)) sg') : wp_X7_feed xa xb xc (nI n) sg Φ := by
  unfold wp_X7_feed
  refine sp_X5_addBytes (xa := xa) (xb := xb) (xc := xc) (q := 0) (by decide) rfl hn (fun s1 => ?_)
  have h1 := fcn_le xa xb xc 8 (8 * 0) n hn
  refine sp_X5_addBytes (xa := xa) (xb := xb) (xc := xc) (q := 1) (by decide) rfl h1 (fun s2 => ?_)
  have h2 := fcn_le xa xb xc 8 (8 * 1) _ h1
  refine sp_X5_addBytes (xa := xa) (xb := xb) (xc := xc) (q := 2) (by decide) rfl h2 (fun s3 => ?_)
  have e : fcn xa xb xc 24 0 n = fcn xa xb xc 8 (8 * 2) (fcn xa xb xc 8 (8 * 1) (fcn xa xb xc 8 (8 * 0) n)) := by
    rw [show (24 : Nat) = 8 + (8 + 8) from rfl, fcn_add, fcn_add]
  rw [← e]
  exact hΦ s3
end
section
/-- the tokens laid down so far -/
def TK (c : Nat) (tk : Nat → Nat) : Prop := c ≤ 1001 ∧ ∀ j, j < c → tk j < 31
abbrev PTk : Type := Int32 → (Nat → Nat) → (Nat → Int32) → (Nat → Int64) → Prop
def TH (c : Nat) (Φ : PTk) : Prop := ∀ (c' : Nat) tk' pl' vl', TK c' tk' → c ≤ c' → c' ≤ c + 1 → Φ (nI c') tk' pl' vl'
theorem sp_X5_isBlank {x : Int32} {Φ : Int32 → Prop} (h1 : Φ 1) (h0 : ¬ x = 10 → ¬ x = 32 → Φ 0) : wp_X5_isBlank x Φ := ⟨fun _ => h1, fun a => ⟨fun b => h0 a b, fun _ => h1⟩⟩
theorem sp_X5_kindOf {x : Int32} {Φ : Int32 → Prop} (h0 : Φ 0) (h1 : Φ 48) (h2 : Φ 97) : wp_X5_kindOf x Φ := by
  unfold wp_X5_kindOf kf_X5_kindOf_15
  have k : (x < 48 → Φ 0) ∧ (¬ x < 48 → (57 < x → Φ 0) ∧ (¬ 57 < x → Φ 48)) := ⟨fun _ => h0, fun _ => ⟨fun _ => h0, fun _ => h1⟩⟩
  exact ⟨fun _ => k, fun _ => ⟨fun _ => k, fun _ => h2⟩⟩
theorem sp_X5_add {t c : Nat} {p : Int32} {v : Int64} {tk : Nat → Nat} {pl : Nat → Int32} {vl : Nat → Int64} {Φ : PTk} (ht : t < 31) (h : TK c tk) (hΦ : TH c Φ) : wp_X5_add t p v (nI c) tk pl vl Φ := by
  unfold wp_X5_add
  have h1 := h.1
  refine ⟨fun _ => hΦ c _ _ _ h (Nat.le_refl _) (by omega), fun z => ?_⟩
  have hlt : c < 1001 := Nat.lt_of_not_le (fun y => z (nI_le (a := 1001) y (by omega)))
  have ic : vp_in (nI c) 1001 := pk_in c 1001 hlt
  rw [nI_1, nI_clamp (n := c) (by omega)]
  refine ⟨ic, ht, ic, ic, hΦ (c + 1) _ _ _ ⟨by omega, fun j hj => ?_⟩ (by omega) (by omega)⟩
  by_cases e : j = c
  · subst e; simp [updN, ht]
  · simp [updN, e]; exact h.2 j (by omega)
theorem sp_X5_spelled {v : Int64} {t : Nat} {Φ : Nat → Prop} (ht : t < 31) (hΦ : ∀ r, r < 31 → Φ r) : wp_X5_spelled v t Φ := by
  have key : ∀ m k : Nat, m = 31 - k → k ≤ 31 → lf_X5_spelled_11 v t Φ (m + 1) 31 (nI k) := by
    intro m
    induction m with
    | zero =>
      intro k hm hk
      have e : k = 31 := by omega
      subst e
      exact ⟨fun _ => hΦ t ht, fun z => absurd (by decide) z⟩
    | succ m ih =>
      intro k hm hk
      show lb_X5_spelled_11 _ _ _ _ _ _
      unfold lb_X5_spelled_11
      rw [nI_1, nI_clamp (n := k) (by omega)]
      exact ⟨fun z => absurd z (nI_ge (b := 31) (by omega) (by decide)), fun _ => ⟨pk_in k 31 (by omega), by omega, fun _ => ih (k + 1) (by omega) (by omega), fun _ => hΦ k (by omega)⟩⟩
  exact ⟨31 - 0 + 1, key (31 - 0) 0 rfl (by decide)⟩
end
section
section AW
variable {sg : Nat → Int32} {a e c : Nat} {tk : Nat → Nat} {pl : Nat → Int32} {vl : Nat → Int64} {Φ : PTk}
theorem sp_X5_addWord (he : e ≤ 1000) (ha : a ≤ e) (h : TK c tk) (hΦ : TH c Φ) : wp_X5_addWord sg (nI a) (nI e) (nI c) tk pl vl Φ := by
  have key : ∀ (m k : Nat) (v : Int64), m = e - k → k ≤ e → lf_X5_addWord_5 sg (nI a) (nI e) Φ (m + 1) (nI c) tk pl vl v (nI k) := by
    intro m
    induction m with
    | zero =>
      intro k v hm hk
      show lb_X5_addWord_5 _ _ _ _ _ _ _ _ _ _ _
      unfold lb_X5_addWord_5
      exact ⟨fun _ => ⟨fun _ => sp_X5_spelled (by decide) (fun r hr => sp_X5_add hr h hΦ), fun _ => sp_X5_add (by decide) h hΦ⟩, fun z => absurd (nI_le (by omega) (by omega)) z⟩
    | succ m ih =>
      intro k v hm hk
      show lb_X5_addWord_5 _ _ _ _ _ _ _ _ _ _ _
      unfold lb_X5_addWord_5
      rw [nI_1]
      exact ⟨fun z => absurd z (nI_ge (by omega) (by omega)), fun _ => ⟨pk_in k 1000 (by omega), ih (k + 1) _ (by omega) (by omega)⟩⟩
  exact ⟨e - a + 1, key (e - a) a 0 rfl ha⟩
theorem sp_X5_addNumber (he : e ≤ 1000) (ha : a ≤ e) (h : TK c tk) (hΦ : TH c Φ) : wp_X5_addNumber sg (nI a) (nI e) (nI c) tk pl vl Φ := by
  have key : ∀ (m k : Nat) (v : Int64), m = e - k → k ≤ e → lf_X5_addNumber_5 sg (nI a) (nI e) Φ (m + 1) (nI c) tk pl vl v (nI k) := by
    intro m
    induction m with
    | zero =>
      intro k v hm hk
      show lb_X5_addNumber_5 _ _ _ _ _ _ _ _ _ _ _
      unfold lb_X5_addNumber_5
      exact ⟨fun _ => ⟨fun _ => sp_X5_add (by decide) h hΦ, fun _ => sp_X5_add (by decide) h hΦ⟩, fun z => absurd (nI_le (by omega) (by omega)) z⟩
    | succ m ih =>
      intro k v hm hk
      show lb_X5_addNumber_5 _ _ _ _ _ _ _ _ _ _ _
      unfold lb_X5_addNumber_5
      rw [nI_1]
      exact ⟨fun z => absurd z (nI_ge (by omega) (by omega)), fun _ => ⟨pk_in k 1000 (by omega), ih (k + 1) _ (by omega) (by omega)⟩⟩
  exact ⟨e - a + 1, key (e - a) a 0 rfl ha⟩
end AW
end
section
section SP
variable {sg : Nat → Int32} {a e c l : Nat} {tk : Nat → Nat} {pl : Nat → Int32} {vl : Nat → Int64}
theorem sp_X5_addE {t : Nat} {p : Int32} {v : Int64} {Φ : PTk} (ht : t < 31) (hc : c < 1001) (hΦ : ∀ pl' vl', Φ (nI (c + 1)) (updN tk c t) pl' vl') : wp_X5_add t p v (nI c) tk pl vl Φ := by
  unfold wp_X5_add
  have ic : vp_in (nI c) 1001 := pk_in c 1001 hc
  rw [nI_1, nI_clamp (n := c) (by omega)]
  exact ⟨fun z => absurd z (nI_ge (b := 1001) hc (by decide)), fun _ => ⟨ic, ht, ic, ic, hΦ _ _⟩⟩
theorem sp_X5_splitOne {Φ : Int32 → PTk} (hl : l ≤ 1000) (ha : a < l) (h : TK c tk) (hΦ : ∀ e, a < e → e ≤ l → TH c (Φ (nI e))) : wp_X5_splitOne (nI l) sg (nI a) (nI c) tk pl vl Φ := by
  unfold wp_X5_splitOne
  have out : ∀ (k : Int32) (e : Nat), a < e → e ≤ l → kf_X5_splitOne_53 (nI l) sg (nI a) Φ (nI c) tk pl vl k (nI e) := by
    intro k e h1 h2
    unfold kf_X5_splitOne_53
    exact ⟨fun _ => ⟨fun _ => ⟨pk_in a 1000 (by omega), sp_X5_spelled (by decide) (fun r hr => sp_X5_add hr h (hΦ e h1 h2))⟩, fun _ => sp_X5_addNumber (by omega) (by omega) h (hΦ e h1 h2)⟩, fun _ => sp_X5_addWord (by omega) (by omega) h (hΦ e h1 h2)⟩
  have key : ∀ (k : Int32) (m e : Nat), m = l - e → a < e → e ≤ l → lf_X5_splitOne_17 (nI l) sg (nI a) Φ (m + 1) (nI c) tk pl vl k (nI e) (nI e) := by
    intro k m
    induction m with
    | zero =>
      intro e hm h1 h2
      show lb_X5_splitOne_17 _ _ _ _ _ _ _ _ _ _ _ _
      unfold lb_X5_splitOne_17
      exact ⟨fun _ => out k e h1 h2, fun z => absurd (nI_le (by omega) (by omega)) z⟩
    | succ m ih =>
      intro e hm h1 h2
      show lb_X5_splitOne_17 _ _ _ _ _ _ _ _ _ _ _ _
      unfold lb_X5_splitOne_17
      have k2 : ∀ r : Int32, (¬ r = k → kf_X5_splitOne_53 (nI l) sg (nI a) Φ (nI c) tk pl vl k (nI e)) ∧ (r = k → lf_X5_splitOne_17 (nI l) sg (nI a) Φ (m + 1) (nI c) tk pl vl k (nI e + 1) (nI e + 1)) := fun r => ⟨fun _ => out k e h1 h2, fun _ => by rw [nI_1]; exact ih (e + 1) (by omega) (by omega) (by omega)⟩
      exact ⟨fun _ => out k e h1 h2, fun _ => ⟨fun _ => out k e h1 h2, fun _ => ⟨pk_in e 1000 (by omega), sp_X5_kindOf (k2 _) (k2 _) (k2 _)⟩⟩⟩
  have fin : ∀ k : Int32, ∃ n_, lf_X5_splitOne_17 (nI l) sg (nI a) Φ n_ (nI c) tk pl vl k (nI a + 1) (nI a + 1) := by
    intro k
    rw [nI_1]
    exact ⟨l - (a + 1) + 1, key k (l - (a + 1)) (a + 1) rfl (by omega) (by omega)⟩
  exact ⟨pk_in a 1000 (by omega), sp_X5_kindOf (fin _) (fin _) (fin _)⟩
/-- all tokens that a tape has: the last is the end -/
def TT (c : Nat) (tk : Nat → Nat) : Prop := 1 ≤ c ∧ c ≤ 1001 ∧ (∀ j, j < c → tk j < 31) ∧ tk (c - 1) = 0
theorem sp_X5_split {C : Int32} {Φ : PTk} (hl : l ≤ 1000) (hΦ : ∀ c' tk' pl' vl', TT c' tk' → Φ (nI c') tk' pl' vl') : wp_X5_split (nI l) sg C tk pl vl Φ := by
  have out : ∀ (i c : Nat) (tk : Nat → Nat) (pl : Nat → Int32) (vl : Nat → Int64), i ≤ 1000 → c ≤ i → TK c tk → wp_X5_add 0 (nI l) 0 (nI c) tk pl vl Φ := by
    intro i c tk pl vl hi hc h
    refine sp_X5_addE (by decide) (by omega) (fun pl' vl' => hΦ (c + 1) _ _ _ ⟨by omega, by omega, fun j hj => ?_, ?_⟩)
    · by_cases e : j = c
      · subst e; simp [updN]
      · simp [updN, e]; exact h.2 j (by omega)
    · simp [updN]
  have key : ∀ (m i a c : Nat) (tk : Nat → Nat) (pl : Nat → Int32) (vl : Nat → Int64), m = 1000 - i → i ≤ 1000 → a ≤ l → c ≤ i → TK c tk → lf_X5_split_9 (nI l) sg Φ (m + 1) (nI c) tk pl vl (nI a) (nI i) := by
    intro m
    induction m with
    | zero =>
      intro i a c tk pl vl hm hi ha hc h
      have e : i = 1000 := by omega
      subst e
      show lb_X5_split_9 _ _ _ _ _ _ _ _ _ _
      unfold lb_X5_split_9
      exact ⟨fun _ => out 1000 c tk pl vl (by omega) hc h, fun z => absurd (by decide) z⟩
    | succ m ih =>
      intro i a c tk pl vl hm hi ha hc h
      show lb_X5_split_9 _ _ _ _ _ _ _ _ _ _
      unfold lb_X5_split_9
      refine ⟨fun z => absurd z (nI_ge (b := 1000) (by omega) (by decide)), fun _ => pk_le l a (fun _ => out i c tk pl vl hi hc h) (fun hal => ⟨pk_in a 1000 (by omega), ?_⟩)⟩
      have k0 : ∀ r : Int32, (r = 0 → wp_X5_splitOne (nI l) sg (nI a) (nI c) tk pl vl (fun r_24 Tcnt_20 Ttoks_21 Tplc_22 Tvals_23 => lf_X5_split_9 (nI l) sg Φ (m + 1) Tcnt_20 Ttoks_21 Tplc_22 Tvals_23 r_24 (nI i + 1))) ∧ (¬ r = 0 → lf_X5_split_9 (nI l) sg Φ (m + 1) (nI c) tk pl vl (nI a + 1) (nI i + 1)) := by
        intro r
        rw [nI_1, nI_1]
        exact ⟨fun _ => sp_X5_splitOne hl hal h (fun e h1 h2 c' tk' pl' vl' h3 h4 h5 => ih (i + 1) e c' tk' pl' vl' (by omega) (by omega) h2 (by omega) h3), fun _ => ih (i + 1) (a + 1) c tk pl vl (by omega) (by omega) (by omega) (by omega) h⟩
      exact sp_X5_isBlank (k0 _) (fun _ _ => k0 _)
  exact ⟨1000 - 0 + 1, key (1000 - 0) 0 0 0 tk pl vl rfl (by decide) (by omega) (by decide) ⟨by decide, fun j hj => absurd hj (by omega)⟩⟩
end SP
end
section
theorem and15 (k x : Int32) : (k + 16 * x) &&& 15 = k &&& 15 := by
  rw [pk_and (k + 16 * x) 4 (by decide), pk_and k 4 (by decide)]
  congr 1
  rw [Int32.toBitVec_add, Int32.toBitVec_mul, BitVec.toNat_add, BitVec.toNat_mul, show (16 : Int32).toBitVec.toNat = 16 by decide]
  omega
/-- a code that reads a cell reads one of six -/
def CK (x : Int32) : Prop := ¬ 1 < (x &&& 15) → ¬ (x &&& 15) = 0 → vp_in (x >>> ((4 : Int32) &&& 31)) 6
def CD (f : Nat → Int32) (n : Nat) : Prop := ∀ i, i < n → CK (f i)
theorem ck_op1 : ∀ t : Fin 31, 1 < ((tkO t.val + 16 * 0) &&& 15) := by decide
theorem ck_op {t : Nat} (h : t < 31) : CK (tkO t + 16 * 0) := fun z _ => absurd (ck_op1 ⟨t, h⟩) z
theorem ck_2 : CK (2 + 16 * 0) := fun z _ => absurd (by decide) z
theorem ck_3 : CK (3 + 16 * 0) := fun z _ => absurd (by decide) z
theorem ck_n (x : Int32) : CK (0 + 16 * x) := fun _ z => absurd (by rw [and15]; decide) z
theorem ck_c1 : ∀ c : Fin 6, ¬ ((1 + 16 * nI c.val) >>> ((4 : Int32) &&& 31) < 0 ∨ 6 ≤ ((1 + 16 * nI c.val) >>> ((4 : Int32) &&& 31)).toNatClampNeg) := by decide
theorem ck_c {c : Nat} (h : c < 6) : CK (1 + 16 * nI c) := fun _ _ => ck_c1 ⟨c, h⟩
section RD
variable {c t tok d : Nat} {tk : Nat → Nat} {pl : Nat → Int32} {vl : Nat → Int64} {p f : Int32} {v : Int64} {code : Nat → Int32}
theorem sp_X3_put {o a : Int32} {Φ : Int32 → (Nat → Int32) → Prop} (hd : d ≤ 1000) (hc : CD code d) (hk : CK (o + 16 * a)) (hΦ : ∀ d' code', d' ≤ d + 1 → d' ≤ 1000 → CD code' d' → Φ (nI d') code') : wp_X3_put o a (nI d) code Φ := by
  unfold wp_X3_put
  refine pk_le 1000 d (fun _ => hΦ d code (by omega) hd hc) (fun h => ⟨pk_in d 1000 h, ?_⟩)
  rw [nI_1, nI_clamp (n := d) (by omega)]
  refine hΦ (d + 1) _ (by omega) (by omega) (fun i hi => ?_)
  by_cases e : i = d
  · subst e; simp only [upd, if_true]; exact hk
  · simp only [upd, e, if_false]; exact hc i (by omega)
def RT (c : Nat) (tk : Nat → Nat) (t tok : Nat) : Prop := 1 ≤ t ∧ t ≤ c ∧ tok = tk (t - 1)
theorem RT.lt (h : RT c tk t tok) (hT : TT c tk) : tok < 31 := by
  rw [h.2.2]; exact hT.2.2.1 _ (by have := h.1; have := h.2.1; omega)
theorem RT.ne (h : RT c tk t tok) (hT : TT c tk) (hn : ¬ tok = 0) : t < c := by
  refine Nat.lt_of_le_of_ne h.2.1 (fun e => hn ?_)
  rw [h.2.2, e]; exact hT.2.2.2
theorem sp_X3_advance {Φ : Int32 → Nat → Int32 → Int64 → Prop} (hT : TT c tk) (h : RT c tk t tok) (hΦ : ∀ t' tok' p' v', RT c tk t' tok' → t ≤ t' → (¬ tok = 0 → t' = t + 1) → Φ (nI t') tok' p' v') : wp_X3_advance (nI c) tk pl vl (nI t) tok p v Φ := by
  unfold wp_X3_advance
  have h1 := h.1
  have h2 := h.2.1
  have h3 := hT.2.1
  refine pk_le c t (fun z => hΦ t tok p v h (Nat.le_refl _) (fun e => absurd (h.ne hT e) (by omega))) (fun z => ?_)
  rw [nI_1, nI_clamp (n := t) (by omega)]
  exact ⟨pk_in t 1001 (by omega), hT.2.2.1 t z, pk_in t 1001 (by omega), pk_in t 1001 (by omega), hΦ (t + 1) _ _ _ ⟨by omega, by omega, rfl⟩ (by omega) (fun _ => rfl)⟩
theorem sp_X3_advance0 {Φ : Int32 → Nat → Int32 → Int64 → Prop} (hT : TT c tk) (hΦ : ∀ tok' p' v', RT c tk 1 tok' → Φ (nI 1) tok' p' v') : wp_X3_advance (nI c) tk pl vl 0 tok p v Φ := by
  unfold wp_X3_advance
  have h1 := hT.1
  have h3 := hT.2.1
  refine pk_le c 0 (fun z => absurd z (by omega)) (fun z => ?_)
  exact ⟨pk_in 0 1001 (by omega), hT.2.2.1 0 z, pk_in 0 1001 (by omega), pk_in 0 1001 (by omega), hΦ _ _ _ ⟨by omega, by omega, rfl⟩⟩
theorem sp_X3_fail {k : Int32} {Φ : Int32 → Prop} (hk : ¬ (k &&& 15) = 0) (hΦ : ∀ f', ¬ f' = 0 → Φ f') : wp_X3_fail p k f Φ := by
  unfold wp_X3_fail
  refine ⟨fun z => hΦ _ z, fun _ => hΦ _ (fun z => hk ?_)⟩
  rw [← and15 k p, z]; decide
/-- what taking a token leaves -/
def AV (c : Nat) (tk : Nat → Nat) (t : Nat) (Φ : Int32 → Nat → Int32 → Int64 → Int32 → Prop) : Prop := ∀ t' tok' p' v' f', RT c tk t' tok' → t ≤ t' → Φ (nI t') tok' p' v' f'
theorem AV.adv {Φ : Int32 → Nat → Int32 → Int64 → Int32 → Prop} (hT : TT c tk) (h : RT c tk t tok) (hΦ : AV c tk t Φ) (f : Int32) : wp_X3_advance (nI c) tk pl vl (nI t) tok p v (fun a b d e => Φ a b d e f) := sp_X3_advance hT h (fun t' tok' p' v' h1 h2 _ => hΦ t' tok' p' v' f h1 h2)
theorem sp_X3_expect {w : Nat} {Φ : Int32 → Nat → Int32 → Int64 → Int32 → Prop} (hT : TT c tk) (h : RT c tk t tok) (hw : w < 31) (hΦ : AV c tk t Φ) : wp_X3_expect (nI c) tk pl vl w (nI t) tok p v f Φ := by
  unfold wp_X3_expect
  exact ⟨h.lt hT, hw, fun _ => hΦ.adv hT h f, fun _ => sp_X3_fail (by decide) (fun f' _ => hΦ.adv hT h f')⟩
theorem sp_X3_numberHere {lo hi : Int32} {Φ : Int32 → Int32 → Prop} (hT : TT c tk) (h : RT c tk t tok) (hΦ : ∀ r f', Φ r f') : wp_X3_numberHere tok p v lo hi f Φ := by
  unfold wp_X3_numberHere
  exact ⟨h.lt hT, fun _ => ⟨fun _ => sp_X3_fail (by decide) (fun f' _ => hΦ _ _), fun _ => ⟨fun _ => hΦ _ _, fun _ => sp_X3_fail (by decide) (fun f' _ => hΦ _ _)⟩⟩, fun _ => sp_X3_fail (by decide) (fun f' _ => hΦ _ _)⟩
theorem sp_X3_takeNumber {lo hi : Int32} {Φ : Int32 → Int32 → Nat → Int32 → Int64 → Int32 → Prop} (hT : TT c tk) (h : RT c tk t tok) (hΦ : ∀ r, AV c tk t (Φ r)) : wp_X3_takeNumber (nI c) tk pl vl lo hi (nI t) tok p v f Φ :=
  sp_X3_numberHere hT h (fun r f' => (hΦ r).adv hT h f')
theorem sp_X3_find {n : Nat} {k : Int32} {an : Nat → Int64} {Φ : Int32 → Prop} (hn : n ≤ 1000) (h0 : Φ (-1)) (h1 : ∀ j, j < n → Φ (nI j)) : wp_X3_find v an n k Φ := by
  have key : ∀ m i : Nat, m = n - i → i ≤ n → lf_X3_find_2 v an n k Φ (m + 1) (nI i) := by
    intro m
    induction m with
    | zero =>
      intro i hm hi
      show lb_X3_find_2 _ _ _ _ _ _ _
      unfold lb_X3_find_2
      exact ⟨fun _ => h0, fun _ => ⟨fun _ => h0, fun z => absurd (nI_le (by omega) (by omega)) z⟩⟩
    | succ m ih =>
      intro i hm hi
      show lb_X3_find_2 _ _ _ _ _ _ _
      unfold lb_X3_find_2
      rw [nI_1]
      exact ⟨fun _ => h0, fun _ => ⟨fun _ => h0, fun _ => ⟨pk_in i n (by omega), fun _ => ih (i + 1) (by omega) (by omega), fun _ => h1 i (by omega)⟩⟩⟩
  exact ⟨n - 0 + 1, key (n - 0) 0 rfl (by omega)⟩
theorem sp_X3_takeNewName {sn cn : Nat → Int64} {a b : Int32} {Φ : Int64 → Int32 → Nat → Int32 → Int64 → Int32 → Prop} (hT : TT c tk) (h : RT c tk t tok) (hΦ : ∀ r, AV c tk t (Φ r)) : wp_X3_takeNewName sn cn (nI c) tk pl vl a b (nI t) tok p v f Φ := by
  unfold wp_X3_takeNewName
  have k3 := fun (f : Int32) => (hΦ v).adv (pl := pl) (vl := vl) (p := p) (v := v) hT h f
  have kf : ∀ k : Int32, ¬ (k &&& 15) = 0 → wp_X3_fail p k f (fun f' => wp_X3_advance (nI c) tk pl vl (nI t) tok p v (fun x y z w => Φ v x y z w f')) := fun k hk => sp_X3_fail hk (fun f' _ => k3 f')
  have k2 : ∀ r : Int32, (r = (-1) → wp_X3_advance (nI c) tk pl vl (nI t) tok p v (fun x y z w => Φ v x y z w f)) ∧ (¬ r = (-1) → wp_X3_fail p 3 f (fun f' => wp_X3_advance (nI c) tk pl vl (nI t) tok p v (fun x y z w => Φ v x y z w f'))) := fun r => ⟨fun _ => k3 f, fun _ => kf 3 (by decide)⟩
  have k1 : ∀ r : Int32, (¬ r = (-1) → wp_X3_fail p 3 f (fun f' => wp_X3_advance (nI c) tk pl vl (nI t) tok p v (fun x y z w => Φ v x y z w f'))) ∧ (r = (-1) → wp_X3_find v cn 6 b (fun r => (r = (-1) → wp_X3_advance (nI c) tk pl vl (nI t) tok p v (fun x y z w => Φ v x y z w f)) ∧ (¬ r = (-1) → wp_X3_fail p 3 f (fun f' => wp_X3_advance (nI c) tk pl vl (nI t) tok p v (fun x y z w => Φ v x y z w f'))))) := fun r => ⟨fun _ => kf 3 (by decide), fun _ => sp_X3_find (by decide) (k2 _) (fun j _ => k2 _)⟩
  exact ⟨h.lt hT, fun _ => sp_X3_find (by decide) (k1 _) (fun j _ => k1 _), fun _ => kf 1 (by decide)⟩
theorem sp_X3_toldHere {n : Nat} {k : Int32} {an : Nat → Int64} {Φ : Int32 → Int32 → Prop} (hn : n ≤ 1000) (h0n : 0 < n) (hT : TT c tk) (h : RT c tk t tok) (hΦ : ∀ j f', j < n → Φ (nI j) f') : wp_X3_toldHere tok p v an n k f Φ := by
  unfold wp_X3_toldHere
  have k1 : ∀ r : Int32, (¬ r = (-1) → ∃ j, j < n ∧ r = nI j) → (¬ r = (-1) → Φ r f) ∧ (r = (-1) → wp_X3_fail p 2 f (fun f' => Φ 0 f')) := fun r hr => ⟨fun z => by obtain ⟨j, hj, e⟩ := hr z; rw [e]; exact hΦ j f hj, fun _ => sp_X3_fail (by decide) (fun f' _ => hΦ 0 f' h0n)⟩
  exact ⟨h.lt hT, fun _ => sp_X3_find hn (k1 _ (fun z => absurd rfl z)) (fun j hj => k1 _ (fun _ => ⟨j, hj, rfl⟩)), fun _ => sp_X3_fail (by decide) (fun f' _ => hΦ 0 f' h0n)⟩
theorem sp_X3_takeStuff {k : Int32} {an : Nat → Int64} {Φ : Int32 → Int32 → Nat → Int32 → Int64 → Int32 → Prop} (hT : TT c tk) (h : RT c tk t tok) (hΦ : ∀ j, j < 4 → AV c tk t (Φ (nI j))) : wp_X3_takeStuff an (nI c) tk pl vl k (nI t) tok p v f Φ :=
  sp_X3_toldHere (by decide) (by decide) hT h (fun j f' hj => (hΦ j hj).adv hT h f')
theorem sp_X3_takeCell {k : Int32} {an : Nat → Int64} {Φ : Int32 → Int32 → Nat → Int32 → Int64 → Int32 → Prop} (hT : TT c tk) (h : RT c tk t tok) (hΦ : ∀ j, j < 6 → AV c tk t (Φ (nI j))) : wp_X3_takeCell an (nI c) tk pl vl k (nI t) tok p v f Φ :=
  sp_X3_toldHere (by decide) (by decide) hT h (fun j f' hj => (hΦ j hj).adv hT h f')
theorem sp_X3_isGiven {g : Nat} {gc : Nat → Int32} {x : Int32} {Φ : Int32 → Prop} (hg : g ≤ 2) (h0 : Φ 0) (h1 : Φ 1) : wp_X3_isGiven (nI g) gc x Φ := by
  have key : ∀ m i : Nat, m = g - i → i ≤ g → lf_X3_isGiven_2 (nI g) gc x Φ (m + 1) (nI i) := by
    intro m
    induction m with
    | zero =>
      intro i hm hi
      show lb_X3_isGiven_2 _ _ _ _ _ _
      unfold lb_X3_isGiven_2
      exact ⟨fun _ => h0, fun z => absurd (nI_le (by omega) (by omega)) z⟩
    | succ m ih =>
      intro i hm hi
      show lb_X3_isGiven_2 _ _ _ _ _ _
      unfold lb_X3_isGiven_2
      rw [nI_1]
      exact ⟨fun _ => h0, fun _ => ⟨pk_in i 2 (by omega), fun _ => ih (i + 1) (by omega) (by omega), fun _ => h1⟩⟩
  exact ⟨g - 0 + 1, key (g - 0) 0 rfl (by omega)⟩
theorem sp_X2_inputCountW {g : Nat} {le gr : Nat → Int32} {Φ : Int32 → Prop} (hg : g ≤ 2) (hΦ : ∀ r, Φ r) : wp_X2_inputCountW (nI g) le gr Φ := by
  have key : ∀ (m i : Nat) (x : Int32), m = g - i → i ≤ g → lf_X2_inputCountW_4 (nI g) le gr Φ (m + 1) x (nI i) := by
    intro m
    induction m with
    | zero =>
      intro i x hm hi
      show lb_X2_inputCountW_4 _ _ _ _ _ _ _
      unfold lb_X2_inputCountW_4
      exact ⟨fun _ => hΦ _, fun z => absurd (nI_le (by omega) (by omega)) z⟩
    | succ m ih =>
      intro i x hm hi
      show lb_X2_inputCountW_4 _ _ _ _ _ _ _
      unfold lb_X2_inputCountW_4 wp_X2_widthW
      rw [nI_1]
      exact ⟨fun _ => hΦ _, fun _ => ⟨pk_in i 2 (by omega), pk_in i 2 (by omega), ih (i + 1) _ (by omega) (by omega)⟩⟩
  exact ⟨g - 0 + 1, key (g - 0) 0 1 rfl (by omega)⟩
end RD
end
section
section EX
variable {c : Nat} {tk : Nat → Nat} {pl : Nat → Int32} {vl : Nat → Int64} {cn : Nat → Int64} {ce : Int32}
abbrev PXe : Type := Int32 → Int32 → Nat → Int32 → Int64 → Int32 → (Nat → Int32) → Prop
/-- what reading an E leaves: no more code than tokens were taken -/
def EP (c : Nat) (tk : Nat → Nat) (t d : Nat) (Φ : PXe) : Prop := ∀ (d' t' tok' : Nat) (p' : Int32) (v' : Int64) (f' : Int32) (code' : Nat → Int32), RT c tk t' tok' → t ≤ t' → d' + t ≤ d + t' → d' ≤ 1000 → CD code' d' → Φ (nI d') (nI t') tok' p' v' f' code'
theorem sp_X3_beginsPart {tok : Nat} {Φ : Int32 → Prop} (ht : tok < 31) (h1 : (tok = 2 ∨ tok = 3 ∨ tok = 4 ∨ tok = 27 ∨ tok = 28) → Φ 1) (h0 : Φ 0) : wp_X3_beginsPart tok Φ := by
  unfold wp_X3_beginsPart
  exact ⟨ht, fun e => h1 (by omega), fun _ => ⟨ht, fun e => h1 (by omega), fun _ => ⟨ht, fun e => h1 (by omega), fun _ => ⟨ht, fun e => h1 (by omega), fun _ => ⟨ht, fun _ => h0, fun e => h1 (by omega)⟩⟩⟩⟩⟩
theorem sp_ep (hT : TT c tk) : ∀ n : Nat, (∀ (lv ne t tok d : Nat) (p f : Int32) (v : Int64) (code : Nat → Int32) (Φ : PXe), lv ≤ 4 → ne ≤ 5 → 6 * (5 - ne) + 2 + (4 - lv) ≤ n → RT c tk t tok → d ≤ 1000 → CD code d → EP c tk t d Φ → (ep_X3_expression cn (nI c) tk pl vl ce n).1 (nI lv) (nI ne) (nI d) (nI t) tok p v f code Φ) ∧ (∀ (ne t tok d : Nat) (p f : Int32) (v : Int64) (code : Nat → Int32) (Φ : PXe), ne ≤ 5 → 6 * (5 - ne) + 1 ≤ n → RT c tk t tok → d ≤ 1000 → CD code d → EP c tk t d Φ → (ep_X3_expression cn (nI c) tk pl vl ce n).2 (nI ne) (nI d) (nI t) tok p v f code Φ) := by
  intro n
  induction n with
  | zero => exact ⟨fun lv ne t tok d p f v code Φ _ _ h => absurd h (by omega), fun ne t tok d p f v code Φ _ h => absurd h (by omega)⟩
  | succ n ih =>
    refine ⟨?_, ?_⟩
    · intro lv ne t tok d p f v code Φ hlv hne hn hR hd hc hΦ
      show wp_X3_expression cn (nI c) tk pl vl ce (ep_X3_expression cn (nI c) tk pl vl ce n).1 (ep_X3_expression cn (nI c) tk pl vl ce n).2 (nI lv) (nI ne) (nI d) (nI t) tok p v f code Φ
      unfold wp_X3_expression
      rw [nI_1]
      refine pk_lt lv 4 (fun h4 => ?_) (fun h4 => ih.2 ne t tok d p f v code _ hne (by omega) hR hd hc hΦ)
      have loop : ∀ M : Nat, M ≤ 1000 → ∀ (m i d' t' tok' : Nat) (p' : Int32) (v' : Int64) (f' : Int32) (code' : Nat → Int32), m = M - i → i ≤ M → RT c tk t' tok' → t ≤ t' → d' + t ≤ d + t' → d' ≤ 1000 → CD code' d' → lf_X3_expression_35 cn (nI c) tk pl vl ce (ep_X3_expression cn (nI c) tk pl vl ce n).1 (ep_X3_expression cn (nI c) tk pl vl ce n).2 (nI lv) (nI ne) Φ (m + 1) (nI d') (nI t') tok' p' v' f' code' (nI M) (nI i) := by
        intro M hM m
        induction m with
        | zero =>
          intro i d' t' tok' p' v' f' code' hm hi r1 r2 r3 r4 r5
          show lb_X3_expression_35 _ _ _ _ _ _ _ _ _ _ _ _ _ _ _ _ _ _ _ _ _
          unfold lb_X3_expression_35
          exact ⟨fun _ => hΦ _ _ _ _ _ _ _ r1 r2 r3 r4 r5, fun z => absurd (nI_le (by omega) (by omega)) z⟩
        | succ m ihm =>
          intro i d' t' tok' p' v' f' code' hm hi r1 r2 r3 r4 r5
          show lb_X3_expression_35 _ _ _ _ _ _ _ _ _ _ _ _ _ _ _ _ _ _ _ _ _
          unfold lb_X3_expression_35
          rw [nI_1, nI_1]
          have go := hΦ d' t' tok' p' v' f' code' r1 r2 r3 r4 r5
          refine ⟨fun _ => go, fun _ => ⟨fun _ => go, fun _ => ⟨r1.lt hT, fun _ => go, fun e => ⟨r1.lt hT, ?_⟩⟩⟩⟩
          have nz : ¬ tok' = 0 := by
            intro z
            rw [z] at e
            have : (4 : Nat) = lv := (nI_eq (a := 4) (b := lv) (by decide) (by omega)).mp e
            omega
          refine sp_X3_advance hT r1 (fun t1 tok1 p1 v1 q1 q2 q3 => ?_)
          have e1 := q3 nz
          refine ih.1 (lv + 1) ne t1 tok1 d' p1 f' v1 code' _ (by omega) hne (by omega) q1 r4 r5 (fun d2 t2 tok2 p2 v2 f2 code2 s1 s2 s3 s4 s5 => ?_)
          exact sp_X3_put s4 s5 (ck_op (r1.lt hT)) (fun d3 code3 u1 u2 u3 => ihm (i + 1) d3 t2 tok2 p2 v2 f2 code3 (by omega) (by omega) s1 (by omega) (by omega) u2 u3)
      refine ih.1 (lv + 1) ne t tok d p f v code _ (by omega) hne (by omega) hR hd hc (fun d' t' tok' p' v' f' code' r1 r2 r3 r4 r5 => ?_)
      exact ⟨fun _ => ⟨1000 - 0 + 1, loop 1000 (by decide) (1000 - 0) 0 d' t' tok' p' v' f' code' rfl (by omega) r1 r2 r3 r4 r5⟩, fun _ => ⟨1 - 0 + 1, loop 1 (by decide) (1 - 0) 0 d' t' tok' p' v' f' code' rfl (by omega) r1 r2 r3 r4 r5⟩⟩
    · intro ne t tok d p f v code Φ hne hn hR hd hc hΦ
      show wp_X3_part cn (nI c) tk pl vl ce (ep_X3_expression cn (nI c) tk pl vl ce n).1 (ep_X3_expression cn (nI c) tk pl vl ce n).2 (nI ne) (nI d) (nI t) tok p v f code Φ
      unfold wp_X3_part
      have hlt := hR.lt hT
      have k57 : ∀ (f : Int32) (j : Nat), j < 6 → (f = 0 → ne < 5 ∧ (tok = 2 ∨ tok = 3 ∨ tok = 4 ∨ tok = 27 ∨ tok = 28)) → kf_X3_part_57 cn (nI c) tk pl vl ce (ep_X3_expression cn (nI c) tk pl vl ce n).1 (ep_X3_expression cn (nI c) tk pl vl ce n).2 (nI ne) Φ (nI d) (nI t) tok p v f code tok (nI j) := by
        intro f j hj hf
        unfold kf_X3_part_57
        rw [nI_1]
        refine ⟨fun e => ?_, fun _ => hΦ d t tok p v f code hR (Nat.le_refl _) (by omega) hd hc⟩
        obtain ⟨h5, hm⟩ := hf e
        refine sp_X3_advance hT hR (fun t1 tok1 p1 v1 q1 q2 q3 => ?_)
        have e1 := q3 (by omega)
        refine ⟨hlt, fun _ => ⟨hlt, fun _ => ⟨hlt, fun _ => ?_, fun _ => ?_⟩, fun _ => ?_⟩, fun _ => ?_⟩
        · refine ih.2 (ne + 1) t1 tok1 d p1 f v1 code _ (by omega) (by omega) q1 hd hc (fun d2 t2 tok2 p2 v2 f2 code2 s1 s2 s3 s4 s5 => ⟨hlt, fun _ => ?_, fun _ => ?_⟩)
          · exact sp_X3_put s4 s5 ck_3 (fun d3 code3 u1 u2 u3 => hΦ d3 t2 tok2 p2 v2 f2 code3 s1 (by omega) (by omega) u2 u3)
          · exact sp_X3_put s4 s5 ck_2 (fun d3 code3 u1 u2 u3 => hΦ d3 t2 tok2 p2 v2 f2 code3 s1 (by omega) (by omega) u2 u3)
        · refine ih.1 0 (ne + 1) t1 tok1 d p1 f v1 code _ (by omega) (by omega) (by omega) q1 hd hc (fun d2 t2 tok2 p2 v2 f2 code2 s1 s2 s3 s4 s5 => ?_)
          exact sp_X3_expect hT s1 (by decide) (fun t3 tok3 p3 v3 f3 w1 w2 => hΦ d2 t3 tok3 p3 v3 f3 code2 w1 (by omega) (by omega) s4 s5)
        · exact sp_X3_put hd hc (ck_c hj) (fun d3 code3 u1 u2 u3 => hΦ d3 t1 tok1 p1 v1 f code3 q1 q2 (by omega) u2 u3)
        · exact sp_X3_put hd hc (ck_n _) (fun d3 code3 u1 u2 u3 => hΦ d3 t1 tok1 p1 v1 f code3 q1 q2 (by omega) u2 u3)
      have k31 : ∀ (f : Int32) (j : Nat), j < 6 → kf_X3_part_31 cn (nI c) tk pl vl ce (ep_X3_expression cn (nI c) tk pl vl ce n).1 (ep_X3_expression cn (nI c) tk pl vl ce n).2 (nI ne) Φ (nI d) (nI t) tok p v f code tok (nI j) := by
        intro f j hj
        unfold kf_X3_part_31
        have kf : ∀ k : Int32, ¬ (k &&& 15) = 0 → wp_X3_fail p k f (fun f' => kf_X3_part_57 cn (nI c) tk pl vl ce (ep_X3_expression cn (nI c) tk pl vl ce n).1 (ep_X3_expression cn (nI c) tk pl vl ce n).2 (nI ne) Φ (nI d) (nI t) tok p v f' code tok (nI j)) := fun k hk => sp_X3_fail hk (fun f' hf' => k57 f' j hj (fun z => absurd z hf'))
        refine sp_X3_beginsPart hlt (fun hm => ⟨fun _ => ?_, fun z => absurd z (by decide)⟩) ⟨fun z => absurd rfl z, fun _ => kf 1 (by decide)⟩
        exact pk_lt ne 5 (fun h5 => k57 f j hj (fun _ => ⟨h5, hm⟩)) (fun _ => kf 5 (by decide))
      exact ⟨hlt, fun _ => k31 f 0 (by decide), fun _ => sp_X3_toldHere (by decide) (by decide) hT hR (fun j f' hj => k31 f' j hj)⟩
theorem sp_X3_expressionF {t tok d : Nat} {p f : Int32} {v : Int64} {code : Nat → Int32} {Φ : PXe} (hT : TT c tk) (hR : RT c tk t tok) (hd : d ≤ 1000) (hc : CD code d) (hΦ : EP c tk t d Φ) : wp_X3_expressionF cn (nI c) tk pl vl ce 0 0 (nI d) (nI t) tok p v f code Φ :=
  (sp_ep hT 40).1 0 0 t tok d p f v code Φ (by decide) (by decide) (by decide) hR hd hc hΦ
end EX
end
