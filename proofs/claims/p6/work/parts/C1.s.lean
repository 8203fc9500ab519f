theorem w1_ne (w : Int32) : ¬ (if (1 : Int32) < w then w else (1 : Int32)) = 0 := by
  by_cases h : (1 : Int32) < w
  · rw [if_pos h]; intro e; rw [e] at h; exact absurd h (by decide)
  · rw [if_neg h]; decide
/-- what a walk may trust of a programme -/
def PJ (e g l cl : Nat) (tg cd : Nat → Int32) : Prop := e ≤ 6 ∧ g ≤ 2 ∧ l ≤ 16 ∧ cl < 1000 ∧ AL 6 tg ∧ CD cd cl
theorem PK.pj {s e g l cl : Nat} {so tg cd : Nat → Int32} (h : PK s e g l so tg cl cd) : PJ e g l cl tg cd := ⟨h.2.1, h.2.2.1, h.2.2.2.1, h.2.2.2.2.2.2.1, h.2.2.2.2.2.1, h.2.2.2.2.2.2.2⟩
section MB
variable {e g l cl kn : Nat} {to_ gc le gr st tw wo ce ke sk tg be ac fr mi en cd : Nat → Int32}
theorem PJ.mj (h : PJ e g l cl tg cd) (hk : kn ≤ 1000) (hs : AS st) : MJ l cl kn tg cd st := ⟨h.2.2.1, h.2.2.2.1, hk, h.2.2.2.2.1, h.2.2.2.2.2, hs⟩
theorem sp_X2_inputCount {Φ : Int32 → Prop} (hg : g ≤ 2) (hΦ : ∀ r, Φ r) : wp_X2_inputCount (nI g) le gr Φ := by
  have key : ∀ (m i : Nat) (x : Int32), m = g - i → i ≤ g → lf_X2_inputCount_4 (nI g) le gr Φ (m + 1) x (nI i) := by
    intro m
    induction m with
    | zero =>
      intro i x hm hi
      show lb_X2_inputCount_4 _ _ _ _ _ _ _
      unfold lb_X2_inputCount_4
      exact ⟨fun _ => hΦ _, fun z => absurd (nI_le (by omega) (by omega)) z⟩
    | succ m ih =>
      intro i x hm hi
      show lb_X2_inputCount_4 _ _ _ _ _ _ _
      unfold lb_X2_inputCount_4 wp_X2_width
      rw [nI_1]
      exact ⟨fun _ => hΦ _, fun _ => ⟨pk_in i 2 (by omega), pk_in i 2 (by omega), ih (i + 1) _ (by omega) (by omega)⟩⟩
  exact ⟨g - 0 + 1, key (g - 0) 0 1 rfl (by omega)⟩
theorem sp_X2_atFirst {xi xc : Int32} {Φ : Int32 → Prop} (hg : g ≤ 2) (hc : vp_in xc 6) (hΦ : ∀ r, Φ r) : wp_X2_atFirst (nI g) to_ gc le gr xi xc Φ := by
  unfold wp_X2_atFirst
  rw [Int32.sub_eq_add_neg]
  have key : ∀ (m : Nat) (x y : Int32), m ≤ 2 → lf_X2_atFirst_18 (nI g) to_ gc le gr xi xc Φ (m + 1) x y (nI m + -1) := by
    intro m
    induction m with
    | zero =>
      intro x y hm
      show lb_X2_atFirst_18 _ _ _ _ _ _ _ _ _ _ _ _
      unfold lb_X2_atFirst_18
      exact ⟨fun _ => hΦ _, fun z => absurd (by decide) z⟩
    | succ m ih =>
      intro x y hm
      show lb_X2_atFirst_18 _ _ _ _ _ _ _ _ _ _ _ _
      unfold lb_X2_atFirst_18 wp_X2_width
      rw [pk_m1]
      have im : vp_in (nI m) 2 := pk_in m 2 (by omega)
      exact ⟨fun z => absurd z (nI_pos (by omega)), fun _ => ⟨im, im, im, fun _ => ⟨w1_ne _, ih _ _ (by omega)⟩, fun _ => ⟨im, w1_ne _, w1_ne _, ih _ _ (by omega)⟩⟩⟩
  exact ⟨hc, g + 1, key g _ _ hg⟩
theorem sp_X1_start {xi s0 x a b : Int32} {Φ : Int32 → Int32 → Int32 → Int32 → (Nat → Int32) → Prop} (he : e ≤ 6) (hg : g ≤ 2) (hΦ : ∀ ce', Φ 1 0 0 0 ce') : wp_X1_start (nI e) (nI g) to_ gc le gr xi s0 x a b ce Φ := by
  have key : ∀ (m i : Nat) (ce : Nat → Int32), m = e - i → i ≤ e → lf_X1_start_2 (nI e) (nI g) to_ gc le gr xi Φ (m + 1) s0 x a b ce (nI i) := by
    intro m
    induction m with
    | zero =>
      intro i ce hm hi
      show lb_X1_start_2 _ _ _ _ _ _ _ _ _ _ _ _ _ _ _
      unfold lb_X1_start_2
      exact ⟨fun _ => hΦ _, fun z => absurd (nI_le (by omega) (by omega)) z⟩
    | succ m ih =>
      intro i ce hm hi
      show lb_X1_start_2 _ _ _ _ _ _ _ _ _ _ _ _ _ _ _
      unfold lb_X1_start_2
      rw [nI_1]
      have ii : vp_in (nI i) 6 := pk_in i 6 (by omega)
      exact ⟨fun _ => hΦ _, fun _ => sp_X2_atFirst hg ii (fun r => ⟨ii, ih (i + 1) _ (by omega) (by omega)⟩)⟩
  exact ⟨e - 0 + 1, key (e - 0) 0 ce rfl (by omega)⟩
theorem sp_X1_layLike {op mp : Nat} {os ot : Nat → Int32} {Φ : Nat → (Nat → Int32) → (Nat → Int32) → (Nat → Int32) → Prop} (ho : AS os) (hΦ : ∀ st' tw' wo', AS st' → Φ op st' tw' wo') : wp_X1_layLike op os ot mp st tw wo Φ := by
  unfold wp_X1_layLike
  exact sp_fill (by decide) (fun ar => hΦ _ _ _ ho.cpy)
theorem if_min {a b : Nat} (ha : a ≤ 1000000) (hb : b ≤ 1000000) : (if (nI a) < (nI b) then (nI a) else (nI b)) = nI (min a b) := by
  by_cases h : a < b
  · rw [if_pos (nI_lt h (by omega)), Nat.min_eq_left (by omega)]
  · rw [if_neg (nI_nlt (by omega) (by omega)), Nat.min_eq_right (by omega)]
theorem sp_X1_copy {op mp ko : Nat} {ow os0 on oa ob w s0 n a b : Int32} {os ot oo oc ok : Nat → Int32} {Φ : Nat → Int32 → Int32 → Int32 → Int32 → Int32 → (Nat → Int32) → (Nat → Int32) → (Nat → Int32) → (Nat → Int32) → (Nat → Int32) → Prop} (ho : AS os) (hk : kn ≤ 1000) (hk2 : ko ≤ 1000) (hΦ : ∀ st' tw' wo' ce' ke', AS st' → Φ op ow os0 on oa ob st' tw' wo' ce' ke') : wp_X1_copy op ow os0 on oa ob os ot oo oc ok kn ko mp w s0 n a b st tw wo ce ke Φ := by
  unfold wp_X1_copy
  rw [if_min (by omega) (by omega), nI_clamp (by omega)]
  exact sp_X1_layLike ho (fun st' tw' wo' h => ⟨nI_pos (by omega), Nat.min_le_right _ _, Nat.min_le_left _ _, hΦ _ _ _ _ _ h⟩)
theorem sp_X1_takeAsTold {so : Nat → Int32} {pg mp : Nat} {s0 n a b : Int32} {Φ : Nat → Int32 → Int32 → Int32 → Int32 → (Nat → Int32) → (Nat → Int32) → (Nat → Int32) → Prop} (ho : AL 4 so) (hΦ : ∀ st' tw' wo', AS st' → Φ pg 0 0 0 0 st' tw' wo') : wp_X1_takeAsTold so pg mp s0 n a b st tw wo Φ := by
  unfold wp_X1_takeAsTold
  exact sp_fill (by decide) (fun a1 => sp_fill (by decide) (fun a2 => hΦ _ _ _ ho.as))
theorem sp_X1_wroteLike {a b : Int32} {ko : Nat} {ok : Nat → Int32} {Φ : Int32 → Prop} (hk : kn ≤ 1000) (h0 : Φ 0) (h1 : Φ 1) : wp_X1_wroteLike a ke b ok kn ko Φ := by
  unfold wp_X1_wroteLike
  refine ⟨fun _ => ⟨kn - 0 + 1, ?_⟩, fun _ => h0⟩
  have key : ∀ (m i : Nat), m = kn - i → i ≤ kn → lf_X1_wroteLike_15 a ke b ok kn ko Φ (m + 1) (nI i) := by
    intro m
    induction m with
    | zero =>
      intro i hm hi
      show lb_X1_wroteLike_15 _ _ _ _ _ _ _ _ _
      unfold lb_X1_wroteLike_15
      exact ⟨fun _ => h1, fun _ => ⟨fun _ => h1, fun z => absurd (nI_le (by omega) (by omega)) z⟩⟩
    | succ m ih =>
      intro i hm hi
      show lb_X1_wroteLike_15 _ _ _ _ _ _ _ _ _
      unfold lb_X1_wroteLike_15
      rw [nI_1]
      refine ⟨fun _ => h1, fun _ => ⟨fun _ => h1, fun _ => ⟨fun _ => h1, fun z => ⟨pk_in i kn (by omega), ?_, fun _ => ih (i + 1) (by omega) (by omega), fun _ => h0⟩⟩⟩⟩
      exact fun y => by
        rcases y with y | y
        · exact nI_pos (by omega) y
        · rw [nI_clamp (by omega)] at y; exact z (nI_le y (by omega))
  exact key (kn - 0) 0 rfl (by omega)
abbrev PWq : Type := Nat → Int32 → Int32 → Int32 → Int32 → Int32 → (Nat → Int32) → (Nat → Int32) → (Nat → Int32) → (Nat → Int32) → (Nat → Int32) → (Nat → Int32) → Prop
theorem sp_X7_walk {pg mp : Nat} {xw xi w s0 n a b : Int32} {os ot : Nat → Int32} {Φ : PWq} (hP : PJ e g l cl tg cd) (hk : kn ≤ 1000) (ho : AS os) (hΦ : ∀ s0' n' a' b' st' tw' wo' ce' ke' sk', Φ pg xw s0' n' a' b' st' tw' wo' ce' ke' sk') : wp_X7_walk os ot (nI e) (nI g) (nI l) be to_ gc le gr ac tg fr mi en cd kn cl pg xw xi mp w s0 n a b st tw wo ce ke sk Φ := by
  unfold wp_X7_walk
  refine sp_X1_layLike ho (fun st' tw' wo' hs => ⟨rfl, sp_X1_start hP.1 hP.2.1 (fun ce' => ?_)⟩)
  refine sp_X1_go (M := 1000) (s := 0) (u := 0) (hP.mj hk hs) (by decide) (by decide) (fun r s1 x1 s2 u2 wo2 ce2 ke2 sk2 _ _ _ _ => ?_)
  exact sp_X1_fallIfHole hP.2.2.1 hs (fun s3 => hΦ _ _ _ _ _ _ _ _ _ _)
theorem sp_X7_canWalk {xi : Int32} {Φ : Int32 → Prop} (hg : g ≤ 2) (h0 : Φ 0) (h1 : Φ 1) : wp_X7_canWalk (nI g) (nI l) le gr xi Φ := by
  unfold wp_X7_canWalk
  exact ⟨fun _ => h0, fun _ => sp_X2_inputCount hg (fun r => sp_X7_within ⟨fun _ => h0, fun z => absurd rfl z⟩ (fun _ _ => ⟨fun _ => h0, fun _ => h1⟩))⟩
end MB
