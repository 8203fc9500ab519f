theorem sp_fill {N : Nat} {x : Int32} {ar : Nat → Int32} {Φ : (Nat → Int32) → Prop} (hN : N ≤ 1000000) (hΦ : ∀ ar', Φ ar') : wp_J7_fill_53178 N x ar Φ := by
  have key : ∀ (m i : Nat) (ar : Nat → Int32), m = N - i → i ≤ N → lf_J7_fill_53178_5 N x Φ (m + 1) ar (nI i) (nI N) := by
    intro m
    induction m with
    | zero =>
      intro i ar hm hi
      show lb_J7_fill_53178_5 _ _ _ _ _ _ _
      unfold lb_J7_fill_53178_5
      exact ⟨fun _ => hΦ _, fun z => absurd (nI_le (by omega) (by omega)) z⟩
    | succ m ih =>
      intro i ar hm hi
      show lb_J7_fill_53178_5 _ _ _ _ _ _ _
      unfold lb_J7_fill_53178_5
      rw [nI_1]
      exact ⟨fun z => absurd z (nI_ge (by omega) (by omega)), fun _ => ⟨pk_in i N (by omega), ih (i + 1) _ (by omega) (by omega)⟩⟩
  exact ⟨N - 0 + 1, key (N - 0) 0 ar rfl (by omega)⟩
theorem sp_X7_within {x y : Int32} {Φ : Int32 → Prop} (h0 : Φ 0) (h1 : ¬ x < 0 → ¬ y ≤ x → Φ 1) : wp_X7_within x y Φ := ⟨fun _ => h0, fun a => ⟨fun _ => h0, fun b => h1 a b⟩⟩
theorem inO {x : Int32} {l N : Nat} (hl : l ≤ N) (hN : N ≤ 1000000) (a : ¬ x < 0) (b : ¬ nI l ≤ x) : vp_in x N := by
  obtain ⟨j, hj, e, _⟩ := pk_mu a b (by omega)
  exact pk_in j N (by omega) e
theorem AL.in {N l : Nat} {f : Nat → Int32} (h : AL N f) (hN : N ≤ 1000) : vp_in (f l) N := by
  obtain ⟨s, h1, h2⟩ := h l
  exact pk_in s N h1 h2
theorem AL.cpy {N n : Nat} {f g : Nat → Int32} (hf : AL N f) (hg : AL N g) : AL N (va_cpy f g 0 0 n) := by
  intro l
  by_cases h : l < n
  · rw [pk_cpy_in (Nat.zero_le l) (by omega)]; exact hf _
  · rw [pk_cpy_out (Or.inr (by omega))]; exact hg _
/-- the stuffs that lines are laid of -/
def AS (f : Nat → Int32) : Prop := ∀ l, l < 16 → vp_in (f l) 4
theorem AS.cpy {f g : Nat → Int32} (hf : AS f) : AS (va_cpy f g 0 0 16) := by
  intro l hl
  rw [pk_cpy_in (Nat.zero_le l) (by omega)]; exact hf _ (by omega)
theorem AL.as {f g : Nat → Int32} (hf : AL 4 f) : AS (va_cpy f g 0 0 16) := by
  intro l hl
  rw [pk_cpy_in (Nat.zero_le l) (by omega)]; exact hf.in (by decide)
theorem AS.up {f : Nat → Int32} {x : Int32} {k : Nat} (hf : AS f) (hx : vp_in x 4) : AS (upd f k x) := by
  intro l hl
  by_cases e : l = k
  · simp only [upd, e, if_true]; exact hx
  · simp only [upd, e, if_false]; exact hf l hl
section MA
variable {l cl kn : Nat} {st tw wo ce ke sk tg be ac fr mi en cd : Nat → Int32} {wy : Int32}
theorem sp_X1_lineOf {v : Int32} {Φ : Int32 → Prop} (h16 : l ≤ 16) (h : ∀ j, j < 16 → Φ (nI j)) : wp_X1_lineOf (nI l) v Φ := by
  unfold wp_X1_lineOf
  refine ⟨fun z => ?_, fun _ => h 0 (by decide)⟩
  have h0 : 0 < l := Nat.pos_of_ne_zero (fun e => z (by rw [e]; rfl))
  have e := lnOf_eq v (v - v / nI l * nI l) h0 h16 rfl
  have hk := lnOf_lt v h0
  refine ⟨z, fun y => ?_, fun y => ?_⟩
  · rw [e.2 (Int32.not_lt.mpr y)]; exact h _ (by omega)
  · rw [e.1 (Int32.not_le.mp y)]; exact h _ (by omega)
theorem sp_X1_write {x : Int32} {u : Nat} {Φ : Int32 → (Nat → Int32) → Prop} (hu : u < 2 ^ 31) (hk : kn ≤ 1000) (h : ∀ ke', Φ (nI (u + 1)) ke') : wp_X1_write kn x (nI u) ke Φ := by
  unfold wp_X1_write
  rw [nI_1]
  exact pk_le kn u (fun _ => h _) (fun z => ⟨pk_in u kn z, h _⟩)
theorem sp_X1_mend {x : Int32} {j : Nat} {Φ : (Nat → Int32) → Prop} (hj : j < 16) (h : ∀ wo', Φ wo') : wp_X1_mend (nI j) x wo Φ := by
  unfold wp_X1_mend
  exact ⟨fun _ => h _, fun _ => ⟨pk_in j 16 hj, pk_in j 16 hj, h _⟩⟩
theorem sp_X1_joined {o a b : Int32} {Φ : Int32 → Prop} (h : ∀ r, Φ r) : wp_X1_joined o a b Φ := by
  unfold wp_X1_joined
  exact ⟨fun _ => ⟨fun _ => h _, fun _ => ⟨fun _ => h _, fun _ => h _⟩⟩, fun _ => ⟨fun _ => h _, fun _ => ⟨fun _ => h _, fun _ => h _⟩⟩, fun _ => ⟨fun _ => h _, fun _ => h _⟩, fun _ => ⟨fun _ => h _, fun _ => h _⟩, fun _ => h _, fun _ => h _, fun _ => h _⟩
theorem sp_X1_bearing {x : Int32} {Φ : Int32 → Prop} (hx : vp_in x 16) (hs : AS st) (h : ∀ r, Φ r) : wp_X1_bearing st tw be x Φ := ⟨hx, hs _ (vp_lt hx), hx, h _⟩
theorem sp_X1_isEndless {s : Int32} {Φ : Int32 → Prop} (h0 : Φ 0) (h1 : Φ 1) : wp_X1_isEndless s Φ := ⟨fun _ => h0, fun _ => h1⟩
theorem sp_X1_fallIfHole {x s : Int32} {Φ : Int32 → Prop} (hl : l ≤ 16) (hs : AS st) (h : ∀ s', Φ s') : wp_X1_fallIfHole wy x st tw wo (nI l) be s Φ := by
  unfold wp_X1_fallIfHole
  exact ⟨fun _ => h _, fun _ => ⟨fun _ => h _, fun _ => sp_X7_within ⟨fun _ => h _, fun z => absurd rfl z⟩ (fun a b => ⟨fun _ => h _, fun _ => ⟨inO hl (by decide) a b, sp_X1_bearing (inO hl (by decide) a b) hs (fun r => ⟨fun _ => h _, fun _ => h _⟩)⟩⟩)⟩⟩
theorem sp_X1_reckon {xf xt : Int32} {Φ : Int32 → (Nat → Int32) → Prop} (hl : l ≤ 16) (hcl : cl < 1000) (hcd : CD cd cl) (h : ∀ r sk', Φ r sk') : wp_X1_reckon wo ce (nI l) cd cl xf xt sk Φ := by
  unfold wp_X1_reckon
  have le4 : (if (nI cl) < xt then (nI cl) else xt) ≤ nI cl := by
    by_cases z : nI cl < xt
    · rw [if_pos z]; exact Int32.le_refl _
    · rw [if_neg z]; exact Int32.not_lt.mp z
  have l5 : ∃ i : Nat, i < 2 ^ 31 ∧ (if (0 : Int32) < xf then xf else (0 : Int32)) = nI i := by
    by_cases z : (0 : Int32) < xf
    · rw [if_pos z]; exact nI_of (Int32.not_lt.mpr (Int32.le_of_lt z))
    · rw [if_neg z]; exact ⟨0, by decide, rfl⟩
  obtain ⟨i0, hi0, ei0⟩ := l5
  rw [ei0]
  generalize (if (nI cl) < xt then (nI cl) else xt) = l4 at le4 ⊢
  have key : ∀ (m i k : Nat) (sk : Nat → Int32), cl - i ≤ m → i < 2 ^ 31 → k ≤ 32 → lf_X1_reckon_23 wo ce (nI l) cd cl xf xt Φ (m + 1) sk (nI k) l4 (nI i) := by
    intro m
    induction m with
    | zero =>
      intro i k sk hm hi hk
      show lb_X1_reckon_23 _ _ _ _ _ _ _ _ _ _ _ _ _
      unfold lb_X1_reckon_23
      refine ⟨fun _ => ⟨fun _ => h _ _, fun _ => h _ _⟩, fun z => absurd (Int32.le_trans le4 (nI_le (by omega) hi)) z⟩
    | succ m ih =>
      intro i k sk hm hi hk
      show lb_X1_reckon_23 _ _ _ _ _ _ _ _ _ _ _ _ _
      unfold lb_X1_reckon_23
      refine ⟨fun _ => ⟨fun _ => h _ _, fun _ => h _ _⟩, fun z => ?_⟩
      have hic : i < cl := Nat.lt_of_not_le (fun y => z (Int32.le_trans le4 (nI_le y hi)))
      have ii : vp_in (nI i) cl := pk_in i cl hic
      rw [nI_clamp (n := i) hi, nI_1, nI_1]
      have bk : ∀ (k' : Nat) (sk' : Nat → Int32), k' ≤ 32 → lf_X1_reckon_23 wo ce (nI l) cd cl xf xt Φ (m + 1) sk' (nI k') l4 (nI (i + 1)) := fun k' sk' h' => ih (i + 1) k' sk' (by omega) (by omega) h'
      have k175 : ∀ o : Int32, kf_X1_reckon_175 wo ce (nI l) cd cl xf xt (lf_X1_reckon_23 wo ce (nI l) cd cl xf xt Φ (m + 1)) Φ sk (nI k) l4 (nI i) o := by
        intro o
        unfold kf_X1_reckon_175
        rw [nI_1]
        refine pk_le k 1 (fun _ => bk _ _ hk) (fun h1 => ?_)
        obtain ⟨j, rfl⟩ : ∃ j, k = j + 2 := ⟨k - 2, by omega⟩
        rw [pk_m1, nI_pred]
        exact ⟨pk_in j 32 (by omega), pk_in (j + 1) 32 (by omega), sp_X1_joined (fun r => ⟨pk_in j 32 (by omega), bk _ _ (by omega)⟩)⟩
      have k138 : ∀ o : Int32, kf_X1_reckon_138 wo ce (nI l) cd cl xf xt (lf_X1_reckon_23 wo ce (nI l) cd cl xf xt Φ (m + 1)) Φ sk (nI k) l4 (nI i) o := by
        intro o
        unfold kf_X1_reckon_138
        rw [nI_1]
        refine ⟨fun _ => k175 o, fun _ => pk_le k 0 (fun _ => k175 o) (fun h1 => ?_)⟩
        obtain ⟨j, rfl⟩ : ∃ j, k = j + 1 := ⟨k - 1, by omega⟩
        rw [nI_pred]
        exact ⟨pk_in j 32 (by omega), fun _ => ⟨pk_in j 32 (by omega), bk _ _ hk⟩, fun _ => ⟨pk_in j 32 (by omega), bk _ _ hk⟩⟩
      have k100 : ∀ o : Int32, kf_X1_reckon_100 wo ce (nI l) cd cl xf xt (lf_X1_reckon_23 wo ce (nI l) cd cl xf xt Φ (m + 1)) Φ sk (nI k) l4 (nI i) o := by
        intro o
        unfold kf_X1_reckon_100
        rw [nI_1]
        refine ⟨fun _ => k138 o, fun _ => pk_le k 0 (fun _ => k138 o) (fun h1 => ?_)⟩
        obtain ⟨j, rfl⟩ : ∃ j, k = j + 1 := ⟨k - 1, by omega⟩
        rw [nI_pred]
        exact ⟨pk_in j 32 (by omega), sp_X1_lineOf hl (fun r hr => ⟨pk_in r 16 hr, pk_in j 32 (by omega), bk _ _ hk⟩)⟩
      refine ⟨ii, ii, fun _ => k100 _, fun z1 => pk_le 32 k (fun _ => k100 _) (fun hk2 => ⟨fun z2 => ?_, fun _ => ?_⟩)⟩
      · exact ⟨hcd i hic z1 z2, pk_in k 32 hk2, bk _ _ (by omega)⟩
      · exact ⟨pk_in k 32 hk2, bk _ _ (by omega)⟩
  exact ⟨cl + 1, key cl i0 0 sk (by omega) hi0 (by decide)⟩
theorem sp_X1_work {j u : Nat} {Φ : Int32 → Int32 → (Nat → Int32) → (Nat → Int32) → (Nat → Int32) → (Nat → Int32) → Prop} (hj : j < 16) (hl : l ≤ 16) (hcl : cl < 1000) (hcd : CD cd cl) (htg : AL 6 tg) (hu : u < 2 ^ 31) (hk : kn ≤ 1000) (h : ∀ r u' wo' ce' ke' sk', u ≤ u' → u' ≤ u + 1 → Φ r (nI u') wo' ce' ke' sk') : wp_X1_work (nI l) ac tg fr mi en cd kn cl (nI j) (nI u) wo ce ke sk Φ := by
  unfold wp_X1_work
  have ij : vp_in (nI j) 16 := pk_in j 16 hj
  have it : ∀ i, vp_in (tg i) 6 := fun i => htg.in (by decide)
  have z : ∀ r wo' ce' ke' sk', Φ r (nI u) wo' ce' ke' sk' := fun r wo' ce' ke' sk' => h r u wo' ce' ke' sk' (Nat.le_refl _) (by omega)
  refine ⟨ij, ij, sp_X1_reckon hl hcl hcd (fun r1 s1 => ⟨ij, ij, sp_X1_reckon hl hcl hcd (fun r2 s2 => ⟨ij, fun _ => ⟨ij, it _, z _ _ _ _ _⟩, fun _ => ?_, fun _ => ?_, fun _ => ⟨fun _ => z _ _ _ _ _, fun _ => ?_⟩, fun _ => ⟨ij, it _, ?_⟩, fun _ => ?_, fun _ => z _ _ _ _ _⟩)⟩)⟩
  · exact sp_X1_write hu hk (fun ke' => h _ (u + 1) _ _ _ _ (by omega) (Nat.le_refl _))
  · exact sp_X1_lineOf hl (fun r _ => z _ _ _ _ _)
  · exact sp_X1_lineOf hl (fun r _ => z _ _ _ _ _)
  · exact sp_X1_lineOf hl (fun r _ => z _ _ _ _ _)
  · exact sp_X1_lineOf hl (fun r hr => sp_X1_mend hr (fun wo' => z _ _ _ _ _))
abbrev PSq : Type := Int32 → Int32 → Int32 → Int32 → Int32 → (Nat → Int32) → (Nat → Int32) → (Nat → Int32) → (Nat → Int32) → Prop
/-- what the machine may trust of its programme and laying -/
def MJ (l cl kn : Nat) (tg cd st : Nat → Int32) : Prop := l ≤ 16 ∧ cl < 1000 ∧ kn ≤ 1000 ∧ AL 6 tg ∧ CD cd cl ∧ AS st
theorem sp_X1_step {x s0 : Int32} {s u : Nat} {Φ : PSq} (hM : MJ l cl kn tg cd st) (hu : u < 2 ^ 31) (h : ∀ r s0' x' s' u' wo' ce' ke' sk', s ≤ s' → s' ≤ s + 1 → u ≤ u' → u' + s ≤ u + s' → Φ r s0' x' (nI s') (nI u') wo' ce' ke' sk') : wp_X1_step wy st tw (nI l) be ac tg fr mi en cd kn cl s0 x (nI s) (nI u) wo ce ke sk Φ := by
  obtain ⟨hl, hcl, hk, htg, hcd, hst⟩ := hM
  unfold wp_X1_step
  refine sp_X1_fallIfHole hl hst (fun s1 => ?_)
  have z : ∀ r s' x' wo' ce' ke' sk', Φ r s' x' (nI s) (nI u) wo' ce' ke' sk' := fun r s' x' wo' ce' ke' sk' => h _ _ _ s u _ _ _ _ (Nat.le_refl _) (by omega) (Nat.le_refl _) (by omega)
  refine ⟨fun _ => z _ _ _ _ _ _ _, fun _ => sp_X7_within ⟨fun y => absurd rfl y, fun _ => z _ _ _ _ _ _ _⟩ (fun a b => ?_)⟩
  obtain ⟨j, hj, e, _⟩ := pk_mu a b (by omega)
  have k52 : ∀ wo : Nat → Int32, kf_X1_step_52 wy st tw (nI l) be ac tg fr mi en cd kn cl Φ s1 x (nI s) (nI u) wo ce ke sk := by
    intro wo
    unfold kf_X1_step_52
    rw [nI_1, e]
    refine sp_X1_work (by omega) hl hcl hcd htg hu hk (fun r u' wo' ce' ke' sk' h1 h2 => ?_)
    exact ⟨fun _ => h _ _ _ (s + 1) u' _ _ _ _ (by omega) (by omega) h1 (by omega), fun _ => h _ _ _ (s + 1) u' _ _ _ _ (by omega) (by omega) h1 (by omega)⟩
  have ix : vp_in x 16 := pk_in j 16 (by omega) e
  exact ⟨fun _ => ⟨fun _ => k52 _, fun _ => ⟨ix, ix, k52 _⟩⟩, fun y => absurd y (by decide)⟩
theorem sp_X1_go {x s0 : Int32} {s u M : Nat} {Φ : PSq} (hM : MJ l cl kn tg cd st) (hu : u ≤ 1000000) (hm : M ≤ 1000000) (h : ∀ r s0' x' s' u' wo' ce' ke' sk', s ≤ s' → s' ≤ s + M → u ≤ u' → u' + s ≤ u + s' → Φ r s0' x' (nI s') (nI u') wo' ce' ke' sk') : wp_X1_go wy st tw (nI l) be ac tg fr mi en cd kn cl (nI M) s0 x (nI s) (nI u) wo ce ke sk Φ := by
  have key : ∀ (m i : Nat) (r s0 x : Int32) (s' u' : Nat) (wo ce ke sk : Nat → Int32), m = M - i → i ≤ M → s ≤ s' → s' ≤ s + i → u ≤ u' → u' + s ≤ u + s' → lf_X1_go_4 wy st tw (nI l) be ac tg fr mi en cd kn cl (nI M) Φ (m + 1) s0 x (nI s') (nI u') wo ce ke sk r (nI i) := by
    intro m
    induction m with
    | zero =>
      intro i r s0 x s' u' wo ce ke sk h1 h2 h3 h4 h5 h6
      show lb_X1_go_4 _ _ _ _ _ _ _ _ _ _ _ _ _ _ _ _ _ _ _ _ _ _ _ _ _ _
      unfold lb_X1_go_4
      exact ⟨fun _ => h _ _ _ s' u' _ _ _ _ h3 (by omega) h5 h6, fun z => absurd (nI_le (by omega) (by omega)) z⟩
    | succ m ih =>
      intro i r s0 x s' u' wo ce ke sk h1 h2 h3 h4 h5 h6
      show lb_X1_go_4 _ _ _ _ _ _ _ _ _ _ _ _ _ _ _ _ _ _ _ _ _ _ _ _ _ _
      unfold lb_X1_go_4
      rw [nI_1]
      refine ⟨fun _ => h _ _ _ s' u' _ _ _ _ h3 (by omega) h5 h6, fun _ => ?_⟩
      refine sp_X1_step hM (by omega) (fun r1 s1 x1 s2 u2 wo' ce' ke' sk' g1 g2 g3 g4 => ⟨fun _ => ?_, fun _ => ?_⟩)
      · exact h _ _ _ s2 u2 _ _ _ _ (by omega) (by omega) (by omega) (by omega)
      · exact ih (i + 1) _ _ _ s2 u2 _ _ _ _ (by omega) (by omega) (by omega) (by omega) (by omega) (by omega)
  exact ⟨M - 0 + 1, key (M - 0) 0 0 s0 x s u wo ce ke sk rfl (by omega) (Nat.le_refl _) (by omega) (Nat.le_refl _) (by omega)⟩
end MA
