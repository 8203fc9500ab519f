section LY
variable {s l pg : Nat} {be co pk : Nat → Int32} {ro : Nat → Nat → Int32}
theorem sp_X0_leastCost {x : Int32} {Φ : Int32 → Prop} (hx : vp_in x 65) (h : ∀ r, Φ r) : wp_X0_leastCost ro x Φ := ⟨hx, fun _ => h _, fun _ => ⟨hx, h _⟩⟩
theorem sp_X0_find {a r : Nat} {u v : Int32} {Φ : Int32 → Int32 → Int32 → Prop} (hs : s ≤ 4) (ha : a < 16) (hr : r ≤ 64) (h : ∀ (b u' : Int32) (t : Nat), t ≤ r → Φ b u' (nI t)) : wp_X0_find pk ro (nI s) be co (nI a) (nI r) u v Φ := by
  have k31 : ∀ (κ : Int32 → Int32 → Int32 → Int32 → Prop) (i : Nat), i < 4 → (∀ (u b : Int32) (t : Nat), t ≤ r → κ u (nI t) b (nI (i + 1))) → ∀ (m t : Nat) (u b : Int32) (lt : Nat), m = 5 - t → t ≤ 5 → lt ≤ r → lf_X0_find_31 pk ro (nI s) be co (nI a) (nI r) κ Φ (m + 1) u (nI lt) b (nI i) (nI t) := by
    intro κ i hi hκ m
    induction m with
    | zero =>
      intro t u b lt hm ht hlt
      have et : t = 5 := by omega
      subst et
      show lb_X0_find_31 _ _ _ _ _ _ _ _ _ _ _ _ _ _ _
      unfold lb_X0_find_31
      rw [nI_1]
      exact ⟨fun _ => hκ _ _ _ hlt, fun z => absurd (by decide) z⟩
    | succ m ih =>
      intro t u b lt hm ht hlt
      show lb_X0_find_31 _ _ _ _ _ _ _ _ _ _ _ _ _ _ _
      unfold lb_X0_find_31
      rw [nI_1, nI_1, nI_1]
      refine ⟨fun _ => hκ _ _ _ hlt, fun _ => pk_lt r t (fun _ => hκ _ _ _ hlt) (fun htr => ?_)⟩
      rw [pk_sub htr]
      exact ⟨pk_in i 4 hi, pk_in (a + 1) 17 (by omega), pk_in (r - t) 65 (by omega), pk_in i 4 hi, pk_in a 16 ha, fun _ => ih (t + 1) _ _ _ (by omega) (by omega) hlt, fun _ => ⟨fun _ => ih (t + 1) _ _ _ (by omega) (by omega) hlt, fun _ => ih (t + 1) _ _ t (by omega) (by omega) htr⟩⟩
  have k16 : ∀ (m i : Nat) (u b : Int32) (lt : Nat), m = s - i → i ≤ s → lt ≤ r → lf_X0_find_16 pk ro (nI s) be co (nI a) (nI r) Φ (m + 1) u (nI lt) b (nI i) := by
    intro m
    induction m with
    | zero =>
      intro i u b lt hm hi hlt
      show lb_X0_find_16 _ _ _ _ _ _ _ _ _ _ _ _ _
      unfold lb_X0_find_16
      exact ⟨fun _ => h _ _ _ hlt, fun z => absurd (nI_le (by omega) (by omega)) z⟩
    | succ m ih =>
      intro i u b lt hm hi hlt
      show lb_X0_find_16 _ _ _ _ _ _ _ _ _ _ _ _ _
      unfold lb_X0_find_16
      exact ⟨fun _ => h _ _ _ hlt, fun _ => ⟨5 - 1 + 1, k31 _ i (by omega) (fun u b t ht => ih (i + 1) u b t (by omega) (by omega) ht) (5 - 1) 1 u b lt rfl (by decide) hlt⟩⟩
  exact ⟨s - 0 + 1, k16 (s - 0) 0 _ _ 0 rfl (by omega) (by omega)⟩
theorem sp_X0_choose {r j : Nat} {u v : Int32} {Φ : Int32 → Int32 → Prop} (hs : s ≤ 4) (hj : j < 16) (hr : r ≤ 64) (h : ∀ u' v', Φ u' v') : wp_X0_choose pk ro (nI s) be co (nI r) (nI j) u v Φ := by
  have key : ∀ (m i q : Nat) (u v : Int32), m = j + 1 - i → i ≤ j + 1 → q ≤ 64 → lf_X0_choose_5 pk ro (nI s) be co (nI r) (nI j) Φ (m + 1) u v (nI q) (nI i) := by
    intro m
    induction m with
    | zero =>
      intro i q u v hm hi hq
      show lb_X0_choose_5 _ _ _ _ _ _ _ _ _ _ _ _ _
      unfold lb_X0_choose_5
      exact ⟨fun _ => h _ _, fun z => absurd (nI_lt (by omega) (by omega)) z⟩
    | succ m ih =>
      intro i q u v hm hi hq
      show lb_X0_choose_5 _ _ _ _ _ _ _ _ _ _ _ _ _
      unfold lb_X0_choose_5
      rw [nI_1]
      exact ⟨fun _ => h _ _, fun _ => ⟨fun _ => h _ _, fun _ => sp_X0_find hs (by omega) hq (fun b u' t ht => by rw [pk_sub ht]; exact ih (i + 1) (q - t) _ _ (by omega) (by omega) (by omega))⟩⟩
  exact ⟨j + 1 - 0 + 1, key (j + 1 - 0) 0 r u v rfl (by omega) hr⟩
theorem sp_X0_make {ap : Nat → Int32} {lp : Nat} {u v : Int32} {Φ : Nat → Int32 → Int32 → (Nat → Int32) → (Nat → Nat → Int32) → Prop} (hs : s ≤ 4) (hl : l ≤ 16) (h : ∀ u' v' pk' ro', Φ pg u' v' pk' ro') : wp_X0_make ap (nI s) (nI l) be co pg lp u v pk ro Φ := by
  unfold wp_X0_make
  rw [Int32.sub_eq_add_neg]
  have k50 : ∀ (κ : Nat → Int32 → Int32 → (Nat → Int32) → (Nat → Nat → Int32) → Int32 → Prop) (i : Nat), i < 16 → (∀ u v pk ro, κ pg u v pk ro (nI i + (-1))) → ∀ (m j : Nat) (u v : Int32) (pk : Nat → Int32) (ro : Nat → Nat → Int32), m = 65 - j → j ≤ 65 → lf_X0_make_50 ap (nI s) (nI l) be co pg κ Φ (m + 1) pg u v pk ro (nI i) (nI j) := by
    intro κ i hi hκ m
    induction m with
    | zero =>
      intro j u v pk ro hm hj
      have ej : j = 65 := by omega
      subst ej
      show lb_X0_make_50 _ _ _ _ _ _ _ _ _ _ _ _ _ _ _ _
      unfold lb_X0_make_50
      exact ⟨fun _ => hκ _ _ _ _, fun z => absurd (by decide) z⟩
    | succ m ih =>
      intro j u v pk ro hm hj
      show lb_X0_make_50 _ _ _ _ _ _ _ _ _ _ _ _ _ _ _ _
      unfold lb_X0_make_50
      rw [nI_1]
      exact ⟨fun _ => hκ _ _ _ _, fun _ => ⟨pk_in i 17 (by omega), rfl, sp_X0_find hs hi (by omega) (fun b u' t _ => ⟨pk_in j 65 (by omega), ih (j + 1) _ _ _ _ (by omega) (by omega)⟩)⟩⟩
  have k43 : ∀ (m : Nat) (u v : Int32) (pk : Nat → Int32) (ro : Nat → Nat → Int32), m ≤ 16 → lf_X0_make_43 ap (nI s) (nI l) be co pg Φ (m + 1) pg u v pk ro (nI m + -1) := by
    intro m
    induction m with
    | zero =>
      intro u v pk ro hm
      show lb_X0_make_43 _ _ _ _ _ _ _ _ _ _ _ _ _ _
      unfold lb_X0_make_43
      exact ⟨fun _ => h _ _ _ _, fun z => absurd (by decide) z⟩
    | succ m ih =>
      intro u v pk ro hm
      show lb_X0_make_43 _ _ _ _ _ _ _ _ _ _ _ _ _ _
      unfold lb_X0_make_43
      rw [pk_m1]
      exact ⟨fun z => absurd z (nI_pos (by omega)), fun _ => ⟨65 - 0 + 1, k50 _ m (by omega) (fun u v pk ro => ih u v pk ro (by omega)) (65 - 0) 0 u v pk ro rfl (by decide)⟩⟩
  exact ⟨pk_in l 17 (by omega), sp_fill (by decide) (fun ar => ⟨l + 1, k43 l _ _ _ _ hl⟩)⟩
end LY
section SV
variable {s e g l cl pg : Nat} {hst htw be co to_ gc le gr ac tg fr mi en cd : Nat → Int32}
theorem sp_X4_open {of : Option Nat} {n : Int32} {a b c : Nat → Int32} {Φ : Option Nat → Int32 → (Nat → Int32) → (Nat → Int32) → (Nat → Int32) → Prop} (h : ∀ a' b' c', Φ (some pg) 0 a' b' c') : wp_X4_open pg of n a b c Φ :=
  sp_fill (by decide) (fun a' => sp_fill (by decide) (fun b' => sp_fill (by decide) (fun c' => h a' b' c')))
abbrev PAd : Type := Int32 → (Nat → Int32) → (Nat → Int32) → (Nat → Int32) → (Nat → Int32) → Int32 → Int32 → Int32 → Int32 → Int32 → (Nat → Int32) → (Nat → Int32) → (Nat → Int32) → (Nat → Int32) → Prop
theorem sp_X4_add {x sn ww ws wn wa wb : Int32} {so2 sb sp sv wst wtw wwo wce wke wsk : Nat → Int32} {Φ : PAd} (hP : PJ e g l cl tg cd) (hs : AS wst) (h : ∀ (sn : Int32) (so2 sb sp sv : Nat → Int32) (ww ws wn wa wb : Int32) (wwo wce wke wsk : Nat → Int32), Φ sn so2 sb sp sv ww ws wn wa wb wwo wce wke wsk) : wp_X4_add wst wtw (nI e) (nI g) (nI l) be to_ gc le gr ac tg fr mi en cd 1000 cl x sn so2 sb sp sv ww ws wn wa wb wwo wce wke wsk Φ := by
  unfold wp_X4_add
  have hl := hP.2.2.1
  have k116 : ∀ (m i : Nat) (sn : Int32) (so2 sb sp sv : Nat → Int32) (ww ws wn wa wb : Int32) (wwo wce wke wsk : Nat → Int32), m = l - i → i ≤ l → lf_X4_add_116 wst wtw (nI e) (nI g) (nI l) be to_ gc le gr ac tg fr mi en cd 1000 cl x Φ (m + 1) sn so2 sb sp sv ww ws wn wa wb wwo wce wke wsk (nI i) := by
    intro m
    induction m with
    | zero =>
      intro i sn so2 sb sp sv ww ws wn wa wb wwo wce wke wsk hm hi
      show lb_X4_add_116 _ _ _ _ _ _ _ _ _ _ _ _ _ _ _ _ _ _ _ _ _ _ _ _ _ _ _ _ _ _ _ _ _ _ _ _
      unfold lb_X4_add_116
      exact ⟨fun _ => h _ _ _ _ _ _ _ _ _ _ _ _ _ _, fun z => absurd (nI_le (by omega) (by omega)) z⟩
    | succ m ih =>
      intro i sn so2 sb sp sv ww ws wn wa wb wwo wce wke wsk hm hi
      show lb_X4_add_116 _ _ _ _ _ _ _ _ _ _ _ _ _ _ _ _ _ _ _ _ _ _ _ _ _ _ _ _ _ _ _ _ _ _ _ _
      unfold lb_X4_add_116
      rw [nI_1]
      have ii : vp_in (nI i) 16 := pk_in i 16 (by omega)
      exact ⟨fun _ => h _ _ _ _ _ _ _ _ _ _ _ _ _ _, fun _ => ⟨ii, ii, fun _ => ih (i + 1) _ _ _ _ _ _ _ _ _ _ _ _ _ _ (by omega) (by omega), fun _ => ⟨ii, ii, ii, ih (i + 1) _ _ _ _ _ _ _ _ _ _ _ _ _ _ (by omega) (by omega)⟩⟩⟩
  have e116 : ∀ (sn : Int32) (so2 sb sp sv : Nat → Int32) (ww ws wn wa wb : Int32) (wwo wce wke wsk : Nat → Int32), ∃ n_, lf_X4_add_116 wst wtw (nI e) (nI g) (nI l) be to_ gc le gr ac tg fr mi en cd 1000 cl x Φ n_ sn so2 sb sp sv ww ws wn wa wb wwo wce wke wsk 0 := fun sn so2 sb sp sv ww ws wn wa wb wwo wce wke wsk => ⟨l - 0 + 1, k116 (l - 0) 0 sn so2 sb sp sv ww ws wn wa wb wwo wce wke wsk rfl (by omega)⟩
  have k28 : ∀ (m i : Nat) (sn : Int32) (so2 sb sp sv : Nat → Int32) (ww ws wn : Int32) (a b : Nat) (wwo wce wke wsk : Nat → Int32), m = 1000 - i → i ≤ 1000 → b ≤ i → lf_X4_add_28 wst wtw (nI e) (nI g) (nI l) be to_ gc le gr ac tg fr mi en cd 1000 cl x Φ (m + 1) sn so2 sb sp sv ww ws wn (nI a) (nI b) wwo wce wke wsk (nI i) := by
    intro m
    induction m with
    | zero =>
      intro i sn so2 sb sp sv ww ws wn a b wwo wce wke wsk hm hi hb
      have ei : i = 1000 := by omega
      subst ei
      show lb_X4_add_28 _ _ _ _ _ _ _ _ _ _ _ _ _ _ _ _ _ _ _ _ _ _ _ _ _ _ _ _ _ _ _ _ _ _ _ _
      unfold lb_X4_add_28
      exact ⟨fun _ => sp_X1_isEndless ⟨Or.inl rfl, e116 _ _ _ _ _ _ _ _ _ _ _ _ _ _⟩ ⟨Or.inr rfl, e116 _ _ _ _ _ _ _ _ _ _ _ _ _ _⟩, fun z => absurd (by decide) z⟩
    | succ m ih =>
      intro i sn so2 sb sp sv ww ws wn a b wwo wce wke wsk hm hi hb
      show lb_X4_add_28 _ _ _ _ _ _ _ _ _ _ _ _ _ _ _ _ _ _ _ _ _ _ _ _ _ _ _ _ _ _ _ _ _ _ _ _
      unfold lb_X4_add_28
      rw [nI_1]
      refine ⟨fun _ => sp_X1_isEndless ⟨Or.inl rfl, e116 _ _ _ _ _ _ _ _ _ _ _ _ _ _⟩ ⟨Or.inr rfl, e116 _ _ _ _ _ _ _ _ _ _ _ _ _ _⟩, fun _ => sp_X7_within ⟨fun _ => sp_X1_isEndless ⟨Or.inl rfl, e116 _ _ _ _ _ _ _ _ _ _ _ _ _ _⟩ ⟨Or.inr rfl, e116 _ _ _ _ _ _ _ _ _ _ _ _ _ _⟩, fun z => absurd rfl z⟩ (fun y z => ⟨fun z => absurd z (by decide), fun _ => ?_⟩)⟩
      have ii := inO hl (by decide) y z
      exact ⟨ii, ii, ii, ii, ii, sp_X1_step (hP.mj (by decide) hs) (by omega) (fun r s1 x1 s2 u2 wo2 ce2 ke2 sk2 h1 h2 h3 h4 => ih (i + 1) _ _ _ _ _ _ _ _ s2 u2 _ _ _ _ (by omega) (by omega) (by omega))⟩
  exact sp_fill (by decide) (fun a1 => sp_fill (by decide) (fun a2 => sp_X1_start hP.1 hP.2.1 (fun ce' => ⟨1000 - 0 + 1, k28 (1000 - 0) 0 _ _ _ _ _ _ _ _ 0 0 _ _ _ _ rfl (by decide) (by decide)⟩)))
abbrev PSv : Type := Int32 → Nat → Int32 → Int32 → Int32 → Int32 → Int32 → (Nat → Int32) → (Nat → Int32) → (Nat → Int32) → (Nat → Int32) → (Nat → Int32) → (Nat → Int32) → Option Nat → Int32 → (Nat → Int32) → (Nat → Int32) → (Nat → Int32) → (Nat → Int32) → Nat → Int32 → Int32 → (Nat → Int32) → (Nat → Nat → Int32) → Prop
/-- what was surveyed last is what is laid out -/
def SO (sf : Option Nat) (lp : Nat) : Prop := ∀ a, sf = some a → lp = a
def AV2 (pg : Nat) (Φ : PSv) : Prop := ∀ (r : Int32) (wp : Nat) (ww ws wn wa wb : Int32) (wst wtw wwo wce wke wsk : Nat → Int32) (sf : Option Nat) (sn : Int32) (so2 sb sp sv : Nat → Int32) (lp : Nat) (lu lt : Int32) (lk : Nat → Int32) (lr : Nat → Nat → Int32), SO sf lp → (¬ r = 0 → lp = pg) → Φ r wp ww ws wn wa wb wst wtw wwo wce wke wsk sf sn so2 sb sp sv lp lu lt lk lr
theorem sp_X7_surveyed {wp : Nat} {ww ws wn wa wb : Int32} {wst wtw wwo wce wke wsk : Nat → Int32} {sf : Option Nat} {sn : Int32} {so2 sb sp sv : Nat → Int32} {lp : Nat} {lu lt : Int32} {lk : Nat → Int32} {lr : Nat → Nat → Int32} {Φ : PSv} (hs4 : s ≤ 4) (hP : PJ e g l cl tg cd) (hs : AS hst) (hO : SO sf lp) (h : AV2 pg Φ) : wp_X7_surveyed hst htw (nI s) (nI e) (nI g) (nI l) be co to_ gc le gr ac tg fr mi en cd cl pg wp ww ws wn wa wb wst wtw wwo wce wke wsk sf sn so2 sb sp sv lp lu lt lk lr Φ := by
  unfold wp_X7_surveyed
  refine ⟨fun _ => ⟨fun e => ⟨fun _ => h _ _ _ _ _ _ _ _ _ _ _ _ _ _ _ _ _ _ _ _ _ _ _ _ hO (fun _ => hO _ e), fun _ => h _ _ _ _ _ _ _ _ _ _ _ _ _ _ _ _ _ _ _ _ _ _ _ _ hO (fun _ => hO _ e)⟩, fun _ => ?_⟩, fun _ => h _ _ _ _ _ _ _ _ _ _ _ _ _ _ _ _ _ _ _ _ _ _ _ _ hO (fun z => absurd rfl z)⟩
  refine sp_X4_open (fun a' b' c' => sp_X1_layLike hs (fun st' tw' wo' hs' => sp_X2_inputCount hP.2.1 (fun r => ⟨r.toNatClampNeg - 0 + 1, ?_⟩)))
  have k103 : ∀ (ww ws wn wa wb : Int32) (wtw wwo wce wke wsk : Nat → Int32) (sn : Int32) (so2 sb sp sv : Nat → Int32), kf_X7_surveyed_103 hst htw (nI s) (nI e) (nI g) (nI l) be co to_ gc le gr ac tg fr mi en cd cl pg Φ pg ww ws wn wa wb st' wtw wwo wce wke wsk (some pg) sn so2 sb sp sv lp lu lt lk lr := by
    intro ww ws wn wa wb wtw wwo wce wke wsk sn so2 sb sp sv
    unfold kf_X7_surveyed_103
    have o : SO (some pg) pg := fun a e => Option.some.inj e
    exact sp_X0_make hs4 hP.2.2.1 (fun u' v' pk' ro' => ⟨fun _ => h _ _ _ _ _ _ _ _ _ _ _ _ _ _ _ _ _ _ _ _ _ _ _ _ o (fun _ => rfl), fun _ => h _ _ _ _ _ _ _ _ _ _ _ _ _ _ _ _ _ _ _ _ _ _ _ _ o (fun _ => rfl)⟩)
  have key : ∀ (m i : Nat) (ww ws wn wa wb : Int32) (wtw wwo wce wke wsk : Nat → Int32) (sn : Int32) (so2 sb sp sv : Nat → Int32), m = r.toNatClampNeg - i → i ≤ r.toNatClampNeg → lf_X7_surveyed_70 hst htw (nI s) (nI e) (nI g) (nI l) be co to_ gc le gr ac tg fr mi en cd cl pg Φ (m + 1) pg ww ws wn wa wb st' wtw wwo wce wke wsk (some pg) sn so2 sb sp sv lp lu lt lk lr r (nI i) := by
    have hr := cnt_lt r
    intro m
    induction m with
    | zero =>
      intro i ww ws wn wa wb wtw wwo wce wke wsk sn so2 sb sp sv hm hi
      show lb_X7_surveyed_70 _ _ _ _ _ _ _ _ _ _ _ _ _ _ _ _ _ _ _ _ _ _ _ _ _ _ _ _ _ _ _ _ _ _ _ _ _ _ _ _ _ _ _ _ _ _ _
      unfold lb_X7_surveyed_70
      exact ⟨fun _ => k103 _ _ _ _ _ _ _ _ _ _ _ _ _ _ _, fun z => absurd (cnt_le (by omega) (by omega)) z⟩
    | succ m ih =>
      intro i ww ws wn wa wb wtw wwo wce wke wsk sn so2 sb sp sv hm hi
      show lb_X7_surveyed_70 _ _ _ _ _ _ _ _ _ _ _ _ _ _ _ _ _ _ _ _ _ _ _ _ _ _ _ _ _ _ _ _ _ _ _ _ _ _ _ _ _ _ _ _ _ _ _
      unfold lb_X7_surveyed_70
      rw [nI_1]
      exact ⟨fun _ => k103 _ _ _ _ _ _ _ _ _ _ _ _ _ _ _, fun _ => ⟨fun _ => k103 _ _ _ _ _ _ _ _ _ _ _ _ _ _ _, fun _ => ⟨rfl, sp_X4_add hP hs' (fun sn so2 sb sp sv ww ws wn wa wb wwo wce wke wsk => ih (i + 1) _ _ _ _ _ _ _ _ _ _ _ _ _ _ _ (by omega) (by omega))⟩⟩⟩
  exact key (r.toNatClampNeg - 0) 0 _ _ _ _ _ _ _ _ _ _ _ _ _ _ _ rfl (by omega)
def AV3 (Φ : PSv) : Prop := ∀ (r : Int32) (wp : Nat) (ww ws wn wa wb : Int32) (wst wtw wwo wce wke wsk : Nat → Int32) (sf : Option Nat) (sn : Int32) (so2 sb sp sv : Nat → Int32) (lp : Nat) (lu lt : Int32) (lk : Nat → Int32) (lr : Nat → Nat → Int32), SO sf lp → Φ r wp ww ws wn wa wb wst wtw wwo wce wke wsk sf sn so2 sb sp sv lp lu lt lk lr
theorem sp_X7_most {x y : Int32} {wp : Nat} {ww ws wn wa wb : Int32} {wst wtw wwo wce wke wsk : Nat → Int32} {sf : Option Nat} {sn : Int32} {so2 sb sp sv : Nat → Int32} {lp : Nat} {lu lt : Int32} {lk : Nat → Int32} {lr : Nat → Nat → Int32} {Φ : PSv} (hs4 : s ≤ 4) (hP : PJ e g l cl tg cd) (hs : AS hst) (hO : SO sf lp) (h : AV3 Φ) : wp_X7_most hst htw (nI s) (nI e) (nI g) (nI l) be co to_ gc le gr ac tg fr mi en cd cl pg x y wp ww ws wn wa wb wst wtw wwo wce wke wsk sf sn so2 sb sp sv lp lu lt lk lr Φ := by
  unfold wp_X7_most
  refine sp_X7_within ⟨fun _ => h _ _ _ _ _ _ _ _ _ _ _ _ _ _ _ _ _ _ _ _ _ _ _ _ hO, fun z => absurd rfl z⟩ (fun a b => ⟨fun _ => h _ _ _ _ _ _ _ _ _ _ _ _ _ _ _ _ _ _ _ _ _ _ _ _ hO, fun _ => sp_X7_surveyed hs4 hP hs hO (fun r wp ww ws wn wa wb wst wtw wwo wce wke wsk sf sn so2 sb sp sv lp lu lt lk lr hO' _ => ⟨fun _ => ?_, fun _ => h _ _ _ _ _ _ _ _ _ _ _ _ _ _ _ _ _ _ _ _ _ _ _ _ hO'⟩)⟩)
  have ii := inO hP.2.2.1 (by decide) a b
  exact ⟨fun _ => ⟨ii, h _ _ _ _ _ _ _ _ _ _ _ _ _ _ _ _ _ _ _ _ _ _ _ _ hO'⟩, fun _ => ⟨ii, h _ _ _ _ _ _ _ _ _ _ _ _ _ _ _ _ _ _ _ _ _ _ _ _ hO'⟩, fun _ => ⟨ii, h _ _ _ _ _ _ _ _ _ _ _ _ _ _ _ _ _ _ _ _ _ _ _ _ hO'⟩, fun _ => h _ _ _ _ _ _ _ _ _ _ _ _ _ _ _ _ _ _ _ _ _ _ _ _ hO'⟩
theorem sp_X7_never {wp : Nat} {ww ws wn wa wb : Int32} {wst wtw wwo wce wke wsk : Nat → Int32} {sf : Option Nat} {sn : Int32} {so2 sb sp sv : Nat → Int32} {lp : Nat} {lu lt : Int32} {lk : Nat → Int32} {lr : Nat → Nat → Int32} {Φ : PSv} (hs4 : s ≤ 4) (hP : PJ e g l cl tg cd) (hs : AS hst) (hO : SO sf lp) (h : AV3 Φ) : wp_X7_never hst htw (nI s) (nI e) (nI g) (nI l) be co to_ gc le gr ac tg fr mi en cd cl pg wp ww ws wn wa wb wst wtw wwo wce wke wsk sf sn so2 sb sp sv lp lu lt lk lr Φ := by
  unfold wp_X7_never
  have hl := hP.2.2.1
  refine sp_X7_surveyed hs4 hP hs hO (fun r wp ww ws wn wa wb wst wtw wwo wce wke wsk sf sn so2 sb sp sv lp lu lt lk lr hO' _ => ⟨fun _ => ⟨l - 0 + 1, ?_⟩, fun _ => h _ _ _ _ _ _ _ _ _ _ _ _ _ _ _ _ _ _ _ _ _ _ _ _ hO'⟩)
  have key : ∀ (m i : Nat) (y : Int32), m = l - i → i ≤ l → lf_X7_never_13 hst htw (nI s) (nI e) (nI g) (nI l) be co to_ gc le gr ac tg fr mi en cd cl pg Φ (m + 1) wp ww ws wn wa wb wst wtw wwo wce wke wsk sf sn so2 sb sp sv lp lu lt lk lr y (nI i) := by
    intro m
    induction m with
    | zero =>
      intro i y hm hi
      show lb_X7_never_13 _ _ _ _ _ _ _ _ _ _ _ _ _ _ _ _ _ _ _ _ _ _ _ _ _ _ _ _ _ _ _ _ _ _ _ _ _ _ _ _ _ _ _ _ _ _ _
      unfold lb_X7_never_13
      exact ⟨fun _ => h _ _ _ _ _ _ _ _ _ _ _ _ _ _ _ _ _ _ _ _ _ _ _ _ hO', fun z => absurd (nI_le (by omega) (by omega)) z⟩
    | succ m ih =>
      intro i y hm hi
      show lb_X7_never_13 _ _ _ _ _ _ _ _ _ _ _ _ _ _ _ _ _ _ _ _ _ _ _ _ _ _ _ _ _ _ _ _ _ _ _ _ _ _ _ _ _ _ _ _ _ _ _
      unfold lb_X7_never_13
      rw [nI_1]
      exact ⟨fun _ => h _ _ _ _ _ _ _ _ _ _ _ _ _ _ _ _ _ _ _ _ _ _ _ _ hO', fun _ => ⟨pk_in i 16 (by omega), fun _ => ih (i + 1) _ (by omega) (by omega), fun _ => ih (i + 1) _ (by omega) (by omega)⟩⟩
  exact key (l - 0) 0 _ rfl (by omega)
theorem sp_X7_canLast {x : Int32} {wp : Nat} {ww ws wn wa wb : Int32} {wst wtw wwo wce wke wsk : Nat → Int32} {sf : Option Nat} {sn : Int32} {so2 sb sp sv : Nat → Int32} {lp : Nat} {lu lt : Int32} {lk : Nat → Int32} {lr : Nat → Nat → Int32} {Φ : PSv} (hs4 : s ≤ 4) (hP : PJ e g l cl tg cd) (hs : AS hst) (hO : SO sf lp) (h : ∀ (r : Int32) (wp : Nat) (ww ws wn wa wb : Int32) (wst wtw wwo wce wke wsk : Nat → Int32) (sf : Option Nat) (sn : Int32) (so2 sb sp sv : Nat → Int32) (lp : Nat) (lu lt : Int32) (lk : Nat → Int32) (lr : Nat → Nat → Int32), SO sf lp → (¬ r = 0 → lp = pg ∧ ∃ j : Nat, j ≤ 64 ∧ x = nI j) → Φ r wp ww ws wn wa wb wst wtw wwo wce wke wsk sf sn so2 sb sp sv lp lu lt lk lr) : wp_X7_canLast hst htw (nI s) (nI e) (nI g) (nI l) be co to_ gc le gr ac tg fr mi en cd cl pg x wp ww ws wn wa wb wst wtw wwo wce wke wsk sf sn so2 sb sp sv lp lu lt lk lr Φ := by
  unfold wp_X7_canLast
  refine ⟨fun _ => h _ _ _ _ _ _ _ _ _ _ _ _ _ _ _ _ _ _ _ _ _ _ _ _ hO (fun z => absurd rfl z), fun x1 => ⟨fun _ => h _ _ _ _ _ _ _ _ _ _ _ _ _ _ _ _ _ _ _ _ _ _ _ _ hO (fun z => absurd rfl z), fun x2 => ?_⟩⟩
  have hx : ∃ j : Nat, j ≤ 64 ∧ x = nI j := nI_of2 (M := 64) (n := 64) (by decide) (fun z => x1 (Int32.lt_trans z (by decide))) (Int32.not_lt.mp x2)
  obtain ⟨j, hj, ej⟩ := hx
  refine sp_X7_surveyed hs4 hP hs hO (fun r wp ww ws wn wa wb wst wtw wwo wce wke wsk sf sn so2 sb sp sv lp lu lt lk lr hO' h1 => ⟨fun _ => h _ _ _ _ _ _ _ _ _ _ _ _ _ _ _ _ _ _ _ _ _ _ _ _ hO' (fun z => absurd rfl z), fun z => ?_⟩)
  exact sp_X0_leastCost (pk_in j 65 (by omega) ej) (fun r => ⟨fun _ => h _ _ _ _ _ _ _ _ _ _ _ _ _ _ _ _ _ _ _ _ _ _ _ _ hO' (fun z => absurd rfl z), fun _ => h _ _ _ _ _ _ _ _ _ _ _ _ _ _ _ _ _ _ _ _ _ _ _ _ hO' (fun _ => ⟨h1 z, j, hj, ej⟩)⟩)
theorem sp_X7_lasting {x : Int32} {wp : Nat} {ww ws wn wa wb : Int32} {wst wtw wwo wce wke wsk : Nat → Int32} {sf : Option Nat} {sn : Int32} {so2 sb sp sv : Nat → Int32} {lp : Nat} {lu lt : Int32} {lk : Nat → Int32} {lr : Nat → Nat → Int32} {Φ : PSv} (hs4 : s ≤ 4) (hP : PJ e g l cl tg cd) (hs : AS hst) (hO : SO sf lp) (h : AV3 Φ) : wp_X7_lasting hst htw (nI s) (nI e) (nI g) (nI l) be co to_ gc le gr ac tg fr mi en cd cl pg x wp ww ws wn wa wb wst wtw wwo wce wke wsk sf sn so2 sb sp sv lp lu lt lk lr Φ := by
  unfold wp_X7_lasting
  refine sp_X7_canLast hs4 hP hs hO (fun r wp ww ws wn wa wb wst wtw wwo wce wke wsk sf sn so2 sb sp sv lp lu lt lk lr hO' h1 => ⟨fun _ => h _ _ _ _ _ _ _ _ _ _ _ _ _ _ _ _ _ _ _ _ _ _ _ _ hO', fun z => ?_⟩)
  obtain ⟨_, j, hj, ej⟩ := h1 z
  exact sp_X0_leastCost (pk_in j 65 (by omega) ej) (fun r => h _ _ _ _ _ _ _ _ _ _ _ _ _ _ _ _ _ _ _ _ _ _ _ _ hO')
theorem sp_X7_lasts {x y z : Int32} {wp : Nat} {ww ws wn wa wb : Int32} {wst wtw wwo wce wke wsk : Nat → Int32} {sf : Option Nat} {sn : Int32} {so2 sb sp sv : Nat → Int32} {lp : Nat} {lu lt : Int32} {lk : Nat → Int32} {lr : Nat → Nat → Int32} {Φ : PSv} (hs4 : s ≤ 4) (hP : PJ e g l cl tg cd) (hs : AS hst) (hO : SO sf lp) (h : AV3 Φ) : wp_X7_lasts hst htw (nI s) (nI e) (nI g) (nI l) be co to_ gc le gr ac tg fr mi en cd cl pg x y z wp ww ws wn wa wb wst wtw wwo wce wke wsk sf sn so2 sb sp sv lp lu lt lk lr Φ := by
  unfold wp_X7_lasts
  refine sp_X7_canLast hs4 hP hs hO (fun r wp ww ws wn wa wb wst wtw wwo wce wke wsk sf sn so2 sb sp sv lp lu lt lk lr hO' h1 => ⟨fun _ => h _ _ _ _ _ _ _ _ _ _ _ _ _ _ _ _ _ _ _ _ _ _ _ _ hO', fun nz => sp_X7_within ⟨fun z => absurd rfl z, fun _ => h _ _ _ _ _ _ _ _ _ _ _ _ _ _ _ _ _ _ _ _ _ _ _ _ hO'⟩ (fun a b => ⟨fun _ => ?_, fun z => absurd z (by decide)⟩)⟩)
  obtain ⟨e1, j, hj, ej⟩ := h1 nz
  obtain ⟨i, hi, ei, _⟩ := pk_mu a b (by have := hP.2.2.1; omega)
  have hl := hP.2.2.1
  have hO2 : SO sf pg := e1 ▸ hO'
  refine ⟨e1.symm, ?_⟩
  rw [ej, ei]
  exact sp_X0_choose hs4 (by omega) hj (fun u' v' => ⟨fun _ => h _ _ _ _ _ _ _ _ _ _ _ _ _ _ _ _ _ _ _ _ _ _ _ _ hO2, fun _ => h _ _ _ _ _ _ _ _ _ _ _ _ _ _ _ _ _ _ _ _ _ _ _ _ hO2, fun _ _ => h _ _ _ _ _ _ _ _ _ _ _ _ _ _ _ _ _ _ _ _ _ _ _ _ hO2⟩)
end SV
