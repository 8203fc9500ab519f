theorem and15 (k x : Int32) : (k + 16 * x) &&& 15 = k &&& 15 := by
  rw [pk_and (k + 16 * x) 4 (by decide), pk_and k 4 (by decide)]
  congr 1
  rw [Int32.toBitVec_add, Int32.toBitVec_mul, BitVec.toNat_add, BitVec.toNat_mul, show (16 : Int32).toBitVec.toNat = 16 by decide]
  omega
/-- a code that reads a cell reads one of six -/
def CK (x : Int32) : Prop := ¬ 1 < (x &&& 15) → ¬ (x &&& 15) = 0 → vp_in (x >>> ((4 : Int32) &&& 31)) 6
def CD (f : Nat → Int32) (n : Nat) : Prop := ∀ i, i < n → CK (f i)
theorem ck_op1 : ∀ t : Fin 31, 1 < ((tkO t.val + 16 * 0) &&& 15) := by decide
theorem ck_op {t : Nat} (h : t < 31) : CK (tkO t + 16 * 0) := fun z _ => absurd (ck_op1 ⟨t, h⟩) z
theorem ck_2 : CK (2 + 16 * 0) := fun z _ => absurd (by decide) z
theorem ck_3 : CK (3 + 16 * 0) := fun z _ => absurd (by decide) z
theorem ck_n (x : Int32) : CK (0 + 16 * x) := fun _ z => absurd (by rw [and15]; decide) z
theorem ck_c1 : ∀ c : Fin 6, ¬ ((1 + 16 * nI c.val) >>> ((4 : Int32) &&& 31) < 0 ∨ 6 ≤ ((1 + 16 * nI c.val) >>> ((4 : Int32) &&& 31)).toNatClampNeg) := by decide
theorem ck_c {c : Nat} (h : c < 6) : CK (1 + 16 * nI c) := fun _ _ => ck_c1 ⟨c, h⟩
section RD
variable {c t tok d : Nat} {tk : Nat → Nat} {pl : Nat → Int32} {vl : Nat → Int64} {p f : Int32} {v : Int64} {code : Nat → Int32}
theorem sp_X3_put {o a : Int32} {Φ : Int32 → (Nat → Int32) → Prop} (hd : d ≤ 1000) (hc : CD code d) (hk : CK (o + 16 * a)) (hΦ : ∀ d' code', d' ≤ d + 1 → d' ≤ 1000 → CD code' d' → Φ (nI d') code') : wp_X3_put o a (nI d) code Φ := by
  unfold wp_X3_put
  refine pk_le 1000 d (fun _ => hΦ d code (by omega) hd hc) (fun h => ⟨pk_in d 1000 h, ?_⟩)
  rw [nI_1, nI_clamp (n := d) (by omega)]
  refine hΦ (d + 1) _ (by omega) (by omega) (fun i hi => ?_)
  by_cases e : i = d
  · subst e; simp only [upd, if_true]; exact hk
  · simp only [upd, e, if_false]; exact hc i (by omega)
def RT (c : Nat) (tk : Nat → Nat) (t tok : Nat) : Prop := 1 ≤ t ∧ t ≤ c ∧ tok = tk (t - 1)
theorem RT.lt (h : RT c tk t tok) (hT : TT c tk) : tok < 31 := by
  rw [h.2.2]; exact hT.2.2.1 _ (by have := h.1; have := h.2.1; omega)
theorem RT.ne (h : RT c tk t tok) (hT : TT c tk) (hn : ¬ tok = 0) : t < c := by
  refine Nat.lt_of_le_of_ne h.2.1 (fun e => hn ?_)
  rw [h.2.2, e]; exact hT.2.2.2
theorem sp_X3_advance {Φ : Int32 → Nat → Int32 → Int64 → Prop} (hT : TT c tk) (h : RT c tk t tok) (hΦ : ∀ t' tok' p' v', RT c tk t' tok' → t ≤ t' → (¬ tok = 0 → t' = t + 1) → Φ (nI t') tok' p' v') : wp_X3_advance (nI c) tk pl vl (nI t) tok p v Φ := by
  unfold wp_X3_advance
  have h1 := h.1
  have h2 := h.2.1
  have h3 := hT.2.1
  refine pk_le c t (fun z => hΦ t tok p v h (Nat.le_refl _) (fun e => absurd (h.ne hT e) (by omega))) (fun z => ?_)
  rw [nI_1, nI_clamp (n := t) (by omega)]
  exact ⟨pk_in t 1001 (by omega), hT.2.2.1 t z, pk_in t 1001 (by omega), pk_in t 1001 (by omega), hΦ (t + 1) _ _ _ ⟨by omega, by omega, rfl⟩ (by omega) (fun _ => rfl)⟩
theorem sp_X3_advance0 {Φ : Int32 → Nat → Int32 → Int64 → Prop} (hT : TT c tk) (hΦ : ∀ tok' p' v', RT c tk 1 tok' → Φ (nI 1) tok' p' v') : wp_X3_advance (nI c) tk pl vl 0 tok p v Φ := by
  unfold wp_X3_advance
  have h1 := hT.1
  have h3 := hT.2.1
  refine pk_le c 0 (fun z => absurd z (by omega)) (fun z => ?_)
  exact ⟨pk_in 0 1001 (by omega), hT.2.2.1 0 z, pk_in 0 1001 (by omega), pk_in 0 1001 (by omega), hΦ _ _ _ ⟨by omega, by omega, rfl⟩⟩
theorem sp_X3_fail {k : Int32} {Φ : Int32 → Prop} (hk : ¬ (k &&& 15) = 0) (hΦ : ∀ f', ¬ f' = 0 → Φ f') : wp_X3_fail p k f Φ := by
  unfold wp_X3_fail
  refine ⟨fun z => hΦ _ z, fun _ => hΦ _ (fun z => hk ?_)⟩
  rw [← and15 k p, z]; decide
/-- what taking a token leaves -/
def AV (c : Nat) (tk : Nat → Nat) (t : Nat) (Φ : Int32 → Nat → Int32 → Int64 → Int32 → Prop) : Prop := ∀ t' tok' p' v' f', RT c tk t' tok' → t ≤ t' → Φ (nI t') tok' p' v' f'
theorem AV.adv {Φ : Int32 → Nat → Int32 → Int64 → Int32 → Prop} (hT : TT c tk) (h : RT c tk t tok) (hΦ : AV c tk t Φ) (f : Int32) : wp_X3_advance (nI c) tk pl vl (nI t) tok p v (fun a b d e => Φ a b d e f) := sp_X3_advance hT h (fun t' tok' p' v' h1 h2 _ => hΦ t' tok' p' v' f h1 h2)
theorem sp_X3_expect {w : Nat} {Φ : Int32 → Nat → Int32 → Int64 → Int32 → Prop} (hT : TT c tk) (h : RT c tk t tok) (hw : w < 31) (hΦ : AV c tk t Φ) : wp_X3_expect (nI c) tk pl vl w (nI t) tok p v f Φ := by
  unfold wp_X3_expect
  exact ⟨h.lt hT, hw, fun _ => hΦ.adv hT h f, fun _ => sp_X3_fail (by decide) (fun f' _ => hΦ.adv hT h f')⟩
theorem sp_X3_numberHere {lo hi : Int32} {Φ : Int32 → Int32 → Prop} (hT : TT c tk) (h : RT c tk t tok) (hΦ : ∀ r f', Φ r f') : wp_X3_numberHere tok p v lo hi f Φ := by
  unfold wp_X3_numberHere
  exact ⟨h.lt hT, fun _ => ⟨fun _ => sp_X3_fail (by decide) (fun f' _ => hΦ _ _), fun _ => ⟨fun _ => hΦ _ _, fun _ => sp_X3_fail (by decide) (fun f' _ => hΦ _ _)⟩⟩, fun _ => sp_X3_fail (by decide) (fun f' _ => hΦ _ _)⟩
theorem sp_X3_takeNumber {lo hi : Int32} {Φ : Int32 → Int32 → Nat → Int32 → Int64 → Int32 → Prop} (hT : TT c tk) (h : RT c tk t tok) (hΦ : ∀ r, AV c tk t (Φ r)) : wp_X3_takeNumber (nI c) tk pl vl lo hi (nI t) tok p v f Φ :=
  sp_X3_numberHere hT h (fun r f' => (hΦ r).adv hT h f')
theorem sp_X3_find {n : Nat} {k : Int32} {an : Nat → Int64} {Φ : Int32 → Prop} (hn : n ≤ 1000) (h0 : Φ (-1)) (h1 : ∀ j, j < n → Φ (nI j)) : wp_X3_find v an n k Φ := by
  have key : ∀ m i : Nat, m = n - i → i ≤ n → lf_X3_find_2 v an n k Φ (m + 1) (nI i) := by
    intro m
    induction m with
    | zero =>
      intro i hm hi
      show lb_X3_find_2 _ _ _ _ _ _ _
      unfold lb_X3_find_2
      exact ⟨fun _ => h0, fun _ => ⟨fun _ => h0, fun z => absurd (nI_le (by omega) (by omega)) z⟩⟩
    | succ m ih =>
      intro i hm hi
      show lb_X3_find_2 _ _ _ _ _ _ _
      unfold lb_X3_find_2
      rw [nI_1]
      exact ⟨fun _ => h0, fun _ => ⟨fun _ => h0, fun _ => ⟨pk_in i n (by omega), fun _ => ih (i + 1) (by omega) (by omega), fun _ => h1 i (by omega)⟩⟩⟩
  exact ⟨n - 0 + 1, key (n - 0) 0 rfl (by omega)⟩
theorem sp_X3_takeNewName {sn cn : Nat → Int64} {a b : Int32} {Φ : Int64 → Int32 → Nat → Int32 → Int64 → Int32 → Prop} (hT : TT c tk) (h : RT c tk t tok) (hΦ : ∀ r, AV c tk t (Φ r)) : wp_X3_takeNewName sn cn (nI c) tk pl vl a b (nI t) tok p v f Φ := by
  unfold wp_X3_takeNewName
  have k3 := fun (f : Int32) => (hΦ v).adv (pl := pl) (vl := vl) (p := p) (v := v) hT h f
  have kf : ∀ k : Int32, ¬ (k &&& 15) = 0 → wp_X3_fail p k f (fun f' => wp_X3_advance (nI c) tk pl vl (nI t) tok p v (fun x y z w => Φ v x y z w f')) := fun k hk => sp_X3_fail hk (fun f' _ => k3 f')
  have k2 : ∀ r : Int32, (r = (-1) → wp_X3_advance (nI c) tk pl vl (nI t) tok p v (fun x y z w => Φ v x y z w f)) ∧ (¬ r = (-1) → wp_X3_fail p 3 f (fun f' => wp_X3_advance (nI c) tk pl vl (nI t) tok p v (fun x y z w => Φ v x y z w f'))) := fun r => ⟨fun _ => k3 f, fun _ => kf 3 (by decide)⟩
  have k1 : ∀ r : Int32, (¬ r = (-1) → wp_X3_fail p 3 f (fun f' => wp_X3_advance (nI c) tk pl vl (nI t) tok p v (fun x y z w => Φ v x y z w f'))) ∧ (r = (-1) → wp_X3_find v cn 6 b (fun r => (r = (-1) → wp_X3_advance (nI c) tk pl vl (nI t) tok p v (fun x y z w => Φ v x y z w f)) ∧ (¬ r = (-1) → wp_X3_fail p 3 f (fun f' => wp_X3_advance (nI c) tk pl vl (nI t) tok p v (fun x y z w => Φ v x y z w f'))))) := fun r => ⟨fun _ => kf 3 (by decide), fun _ => sp_X3_find (by decide) (k2 _) (fun j _ => k2 _)⟩
  exact ⟨h.lt hT, fun _ => sp_X3_find (by decide) (k1 _) (fun j _ => k1 _), fun _ => kf 1 (by decide)⟩
theorem sp_X3_toldHere {n : Nat} {k : Int32} {an : Nat → Int64} {Φ : Int32 → Int32 → Prop} (hn : n ≤ 1000) (h0n : 0 < n) (hT : TT c tk) (h : RT c tk t tok) (hΦ : ∀ j f', j < n → Φ (nI j) f') : wp_X3_toldHere tok p v an n k f Φ := by
  unfold wp_X3_toldHere
  have k1 : ∀ r : Int32, (¬ r = (-1) → ∃ j, j < n ∧ r = nI j) → (¬ r = (-1) → Φ r f) ∧ (r = (-1) → wp_X3_fail p 2 f (fun f' => Φ 0 f')) := fun r hr => ⟨fun z => by obtain ⟨j, hj, e⟩ := hr z; rw [e]; exact hΦ j f hj, fun _ => sp_X3_fail (by decide) (fun f' _ => hΦ 0 f' h0n)⟩
  exact ⟨h.lt hT, fun _ => sp_X3_find hn (k1 _ (fun z => absurd rfl z)) (fun j hj => k1 _ (fun _ => ⟨j, hj, rfl⟩)), fun _ => sp_X3_fail (by decide) (fun f' _ => hΦ 0 f' h0n)⟩
theorem sp_X3_takeStuff {k : Int32} {an : Nat → Int64} {Φ : Int32 → Int32 → Nat → Int32 → Int64 → Int32 → Prop} (hT : TT c tk) (h : RT c tk t tok) (hΦ : ∀ j, j < 4 → AV c tk t (Φ (nI j))) : wp_X3_takeStuff an (nI c) tk pl vl k (nI t) tok p v f Φ :=
  sp_X3_toldHere (by decide) (by decide) hT h (fun j f' hj => (hΦ j hj).adv hT h f')
theorem sp_X3_takeCell {k : Int32} {an : Nat → Int64} {Φ : Int32 → Int32 → Nat → Int32 → Int64 → Int32 → Prop} (hT : TT c tk) (h : RT c tk t tok) (hΦ : ∀ j, j < 6 → AV c tk t (Φ (nI j))) : wp_X3_takeCell an (nI c) tk pl vl k (nI t) tok p v f Φ :=
  sp_X3_toldHere (by decide) (by decide) hT h (fun j f' hj => (hΦ j hj).adv hT h f')
theorem sp_X3_isGiven {g : Nat} {gc : Nat → Int32} {x : Int32} {Φ : Int32 → Prop} (hg : g ≤ 2) (h0 : Φ 0) (h1 : Φ 1) : wp_X3_isGiven (nI g) gc x Φ := by
  have key : ∀ m i : Nat, m = g - i → i ≤ g → lf_X3_isGiven_2 (nI g) gc x Φ (m + 1) (nI i) := by
    intro m
    induction m with
    | zero =>
      intro i hm hi
      show lb_X3_isGiven_2 _ _ _ _ _ _
      unfold lb_X3_isGiven_2
      exact ⟨fun _ => h0, fun z => absurd (nI_le (by omega) (by omega)) z⟩
    | succ m ih =>
      intro i hm hi
      show lb_X3_isGiven_2 _ _ _ _ _ _
      unfold lb_X3_isGiven_2
      rw [nI_1]
      exact ⟨fun _ => h0, fun _ => ⟨pk_in i 2 (by omega), fun _ => ih (i + 1) (by omega) (by omega), fun _ => h1⟩⟩
  exact ⟨g - 0 + 1, key (g - 0) 0 rfl (by omega)⟩
theorem sp_X2_inputCountW {g : Nat} {le gr : Nat → Int32} {Φ : Int32 → Prop} (hg : g ≤ 2) (hΦ : ∀ r, Φ r) : wp_X2_inputCountW (nI g) le gr Φ := by
  have key : ∀ (m i : Nat) (x : Int32), m = g - i → i ≤ g → lf_X2_inputCountW_4 (nI g) le gr Φ (m + 1) x (nI i) := by
    intro m
    induction m with
    | zero =>
      intro i x hm hi
      show lb_X2_inputCountW_4 _ _ _ _ _ _ _
      unfold lb_X2_inputCountW_4
      exact ⟨fun _ => hΦ _, fun z => absurd (nI_le (by omega) (by omega)) z⟩
    | succ m ih =>
      intro i x hm hi
      show lb_X2_inputCountW_4 _ _ _ _ _ _ _
      unfold lb_X2_inputCountW_4 wp_X2_widthW
      rw [nI_1]
      exact ⟨fun _ => hΦ _, fun _ => ⟨pk_in i 2 (by omega), pk_in i 2 (by omega), ih (i + 1) _ (by omega) (by omega)⟩⟩
  exact ⟨g - 0 + 1, key (g - 0) 0 1 rfl (by omega)⟩
end RD
