/-- all numbers of a row lie under N -/
def AL (N : Nat) (f : Nat → Int32) : Prop := ∀ l, ∃ s, s < N ∧ f l = nI s
theorem AL.up {N s k : Nat} {f : Nat → Int32} (h : AL N f) (hs : s < N) : AL N (upd f k (nI s)) := by
  intro l
  by_cases e : l = k
  · exact ⟨s, hs, by simp [upd, e]⟩
  · obtain ⟨s', h1, h2⟩ := h l
    exact ⟨s', h1, by simp [upd, e, h2]⟩
theorem AL.zero {N : Nat} (h : 0 < N) : AL N (fun _ => 0) := fun _ => ⟨0, h, rfl⟩
section TL
variable {c t tok d : Nat} {tk : Nat → Nat} {pl : Nat → Int32} {vl : Nat → Int64} {p f : Int32} {v : Int64} {code : Nat → Int32} {sn cn : Nat → Int64} {ce st : Int32}
theorem sp_X3_tellStuff {s : Nat} {be co : Nat → Int32} {Φ : Int32 → Nat → Int32 → Int64 → Int32 → (Nat → Int64) → Int32 → (Nat → Int32) → (Nat → Int32) → Prop} (hT : TT c tk) (h : RT c tk t tok) (hs : s ≤ 4) (hΦ : ∀ t' tok' p' v' f' sn' s' be' co', RT c tk t' tok' → t ≤ t' → s' ≤ 4 → Φ (nI t') tok' p' v' f' sn' (nI s') be' co') : wp_X3_tellStuff cn (nI c) tk pl vl ce (nI t) tok p v f sn (nI s) be co Φ := by
  unfold wp_X3_tellStuff
  rw [nI_1]
  refine pk_lt s 4 (fun h4 => ?_) (fun _ => sp_X3_fail (by decide) (fun f' _ => hΦ t tok p v f' sn s be co h (Nat.le_refl _) hs))
  have i4 : vp_in (nI s) 4 := pk_in s 4 h4
  refine sp_X3_advance hT h (fun t1 k1 p1 v1 r1 g1 _ => ?_)
  refine sp_X3_takeNewName hT r1 (fun x2 t2 k2 p2 v2 f2 r2 g2 => ⟨i4, ?_⟩)
  refine sp_X3_expect hT r2 (by decide) (fun t3 k3 p3 v3 f3 r3 g3 => ?_)
  refine sp_X3_takeNumber hT r3 (fun x4 t4 k4 p4 v4 f4 r4 g4 => ⟨i4, ?_⟩)
  refine sp_X3_expect hT r4 (by decide) (fun t5 k5 p5 v5 f5 r5 g5 => ?_)
  refine sp_X3_takeNumber hT r5 (fun x6 t6 k6 p6 v6 f6 r6 g6 => ⟨i4, ?_⟩)
  exact hΦ _ _ _ _ _ _ (s + 1) _ _ r6 (by omega) (by omega)
theorem sp_X3_tellCell {s : Nat} {to_ : Nat → Int32} {Φ : Int32 → Nat → Int32 → Int64 → Int32 → (Nat → Int64) → Int32 → (Nat → Int32) → Prop} (hT : TT c tk) (h : RT c tk t tok) (hs : s ≤ 6) (hΦ : ∀ t' tok' p' v' f' cn' s' to', RT c tk t' tok' → t ≤ t' → s' ≤ 6 → Φ (nI t') tok' p' v' f' cn' (nI s') to') : wp_X3_tellCell sn (nI c) tk pl vl st (nI t) tok p v f cn (nI s) to_ Φ := by
  unfold wp_X3_tellCell
  rw [nI_1]
  refine pk_lt s 6 (fun h4 => ?_) (fun _ => sp_X3_fail (by decide) (fun f' _ => hΦ t tok p v f' cn s to_ h (Nat.le_refl _) hs))
  have i4 : vp_in (nI s) 6 := pk_in s 6 h4
  refine sp_X3_advance hT h (fun t1 k1 p1 v1 r1 g1 _ => ?_)
  refine sp_X3_takeNewName hT r1 (fun x2 t2 k2 p2 v2 f2 r2 g2 => ⟨i4, ?_⟩)
  refine sp_X3_takeNumber hT r2 (fun x4 t4 k4 p4 v4 f4 r4 g4 => ⟨i4, ?_⟩)
  exact hΦ _ _ _ _ _ _ (s + 1) _ r4 (by omega) (by omega)
theorem sp_X3_tellInput {g : Nat} {gc le gr : Nat → Int32} {Φ : Int32 → Nat → Int32 → Int64 → Int32 → Int32 → (Nat → Int32) → (Nat → Int32) → (Nat → Int32) → Prop} (hT : TT c tk) (h : RT c tk t tok) (hs : g ≤ 2) (hΦ : ∀ t' tok' p' v' f' g' gc' le' gr', RT c tk t' tok' → t ≤ t' → g' ≤ 2 → Φ (nI t') tok' p' v' f' (nI g') gc' le' gr') : wp_X3_tellInput cn (nI c) tk pl vl ce (nI t) tok p v f (nI g) gc le gr Φ := by
  unfold wp_X3_tellInput
  refine pk_lt g 2 (fun h4 => ?_) (fun _ => sp_X3_fail (by decide) (fun f' _ => hΦ t tok p v f' g gc le gr h (Nat.le_refl _) hs))
  have i4 : vp_in (nI g) 2 := pk_in g 2 h4
  refine sp_X3_advance hT h (fun t1 k1 p1 v1 r1 g1 _ => ?_)
  have k99 : ∀ (t2 tok2 : Nat) (p2 : Int32) (v2 : Int64) (f2 x2 x3 x4 : Int32), RT c tk t2 tok2 → t ≤ t2 → kf_X3_tellInput_99 cn (nI c) tk pl vl ce Φ (nI t2) tok2 p2 v2 f2 (nI g) gc le gr (nI g) x2 x3 x4 := by
    intro t2 tok2 p2 v2 f2 x2 x3 x4 r2 g2
    unfold kf_X3_tellInput_99
    rw [nI_1]
    exact sp_X3_advance hT r2 (fun t3 k3 p3 v3 r3 g3 _ => ⟨i4, i4, i4, hΦ _ _ _ _ _ (g + 1) _ _ _ r3 (by omega) (by omega)⟩)
  have k52 : ∀ (f1 x : Int32), kf_X3_tellInput_52 cn (nI c) tk pl vl ce Φ (nI t1) k1 p1 v1 f1 (nI g) gc le gr (nI g) x := by
    intro f1 x
    unfold kf_X3_tellInput_52
    refine sp_X3_advance hT r1 (fun t2 k2 p2 v2 r2 g2 _ => ?_)
    refine sp_X3_takeNumber hT r2 (fun x3 t3 k3 p3 v3 f3 r3 g3 => ?_)
    refine sp_X3_numberHere hT r3 (fun x4 f4 => ?_)
    exact sp_X2_inputCountW hs (fun x5 => ⟨fun _ => k99 _ _ _ _ _ _ _ _ r3 (by omega), fun _ => sp_X3_fail (by decide) (fun f5 _ => k99 _ _ _ _ _ _ _ _ r3 (by omega))⟩)
  refine sp_X3_toldHere (by decide) (by decide) hT r1 (fun j f1 hj => ?_)
  have k : ∀ r : Int32, (r = 0 → kf_X3_tellInput_52 cn (nI c) tk pl vl ce Φ (nI t1) k1 p1 v1 f1 (nI g) gc le gr (nI g) (nI j)) ∧ (¬ r = 0 → wp_X3_fail p1 3 f1 (fun f' => kf_X3_tellInput_52 cn (nI c) tk pl vl ce Φ (nI t1) k1 p1 v1 f' (nI g) gc le gr (nI g) (nI j))) := fun r => ⟨fun _ => k52 f1 _, fun _ => sp_X3_fail (by decide) (fun f' _ => k52 f' _)⟩
  exact sp_X3_isGiven hs (k 0) (k 1)
abbrev PTA : Type := Int32 → Int32 → Nat → Int32 → Int64 → Int32 → (Nat → Int32) → (Nat → Int32) → (Nat → Int32) → (Nat → Int32) → Prop
def EA (c : Nat) (tk : Nat → Nat) (t d : Nat) (Φ : PTA) : Prop := ∀ (d' t' tok' : Nat) (p' : Int32) (v' : Int64) (f' : Int32) (code' ac' tg' mi' : Nat → Int32), RT c tk t' tok' → t ≤ t' → d' + t ≤ d + t' → d' ≤ 1000 → CD code' d' → AL 6 tg' → Φ (nI d') (nI t') tok' p' v' f' code' ac' tg' mi'
theorem sp_X3_tellAct {l : Nat} {ac tg mi : Nat → Int32} {Φ : PTA} (hT : TT c tk) (h : RT c tk t tok) (hl : l < 16) (hd : d ≤ 1000) (hc : CD code d) (htg : AL 6 tg) (hΦ : EA c tk t d Φ) : wp_X3_tellAct cn (nI c) tk pl vl ce (nI l) (nI d) (nI t) tok p v f code ac tg mi Φ := by
  unfold wp_X3_tellAct
  have il : vp_in (nI l) 16 := pk_in l 16 hl
  have k62 : ∀ (d2 t2 tok2 : Nat) (p2 : Int32) (v2 : Int64) (f2 : Int32) (code2 ac2 tg2 : Nat → Int32) (a : Int32), RT c tk t2 tok2 → t ≤ t2 → d2 + t ≤ d + t2 → d2 ≤ 1000 → CD code2 d2 → AL 6 tg2 → kf_X3_tellAct_62 cn (nI c) tk pl vl ce (nI l) Φ (nI d2) (nI t2) tok2 p2 v2 f2 code2 ac2 tg2 mi a := by
    intro d2 t2 tok2 p2 v2 f2 code2 ac2 tg2 a r2 g2 g3 g4 g5 g6
    unfold kf_X3_tellAct_62
    have ex : ∀ (w : Nat), w < 31 → wp_X3_expect (nI c) tk pl vl w (nI t2) tok2 p2 v2 f2 (fun t3 k3 p3 v3 f3 => wp_X3_expressionF cn (nI c) tk pl vl ce 0 0 (nI d2) t3 k3 p3 v3 f3 code2 (fun d4 t4 k4 p4 v4 f4 code4 => Φ d4 t4 k4 p4 v4 f4 code4 ac2 tg2 (upd mi (nI l).toNatClampNeg (nI d2)))) := fun w hw => sp_X3_expect hT r2 hw (fun t3 k3 p3 v3 f3 r3 g7 => sp_X3_expressionF hT r3 g4 g5 (fun d4 t4 k4 p4 v4 f4 code4 r4 u1 u2 u3 u4 => hΦ d4 t4 k4 p4 v4 f4 code4 _ _ _ r4 (by omega) (by omega) u3 u4 g6))
    refine ⟨il, fun _ => ⟨fun _ => ⟨fun _ => hΦ _ _ _ _ _ _ _ _ _ _ r2 g2 g3 g4 g5 g6, fun _ => ?_⟩, fun _ => ex 19 (by decide)⟩, fun _ => ex 22 (by decide)⟩
    refine sp_X3_expect hT r2 (by decide) (fun t3 k3 p3 v3 f3 r3 g7 => ?_)
    exact sp_X3_takeCell hT r3 (fun j hj t4 k4 p4 v4 f4 r4 g8 => ⟨il, hΦ _ _ _ _ _ _ _ _ _ _ r4 (by omega) (by omega) g4 g5 (g6.up hj)⟩)
  have k50 : ∀ (t2 tok2 : Nat) (p2 : Int32) (v2 : Int64) (f2 : Int32) (ac2 tg2 : Nat → Int32) (a : Int32), RT c tk t2 tok2 → t ≤ t2 → AL 6 tg2 → kf_X3_tellAct_50 cn (nI c) tk pl vl ce (nI l) Φ (nI d) (nI t2) tok2 p2 v2 f2 code ac2 tg2 mi a := by
    intro t2 tok2 p2 v2 f2 ac2 tg2 a r2 g2 g6
    unfold kf_X3_tellAct_50
    exact ⟨fun _ => k62 _ _ _ _ _ _ _ _ _ _ r2 g2 (by omega) hd hc g6, fun _ => sp_X3_expressionF hT r2 hd hc (fun d4 t4 k4 p4 v4 f4 code4 r4 u1 u2 u3 u4 => k62 _ _ _ _ _ _ _ _ _ _ r4 (by omega) (by omega) u3 u4 g6)⟩
  refine ⟨h.lt hT, fun _ => ⟨il, ?_⟩, fun _ => sp_X3_fail (by decide) (fun f' _ => hΦ _ _ _ _ _ _ _ _ _ _ h (Nat.le_refl _) (by omega) hd hc htg)⟩
  refine sp_X3_advance hT h (fun t1 k1 p1 v1 r1 g1 _ => ⟨fun _ => k50 _ _ _ _ _ _ _ _ r1 g1 htg, fun _ => ?_⟩)
  exact sp_X3_takeCell hT r1 (fun j hj t4 k4 p4 v4 f4 r4 g8 => ⟨il, k50 _ _ _ _ _ _ _ _ r4 (by omega) (htg.up hj)⟩)
abbrev PTL : Type := Int32 → Int32 → Nat → Int32 → Int64 → Int32 → (Nat → Int32) → Int32 → (Nat → Int32) → (Nat → Int32) → (Nat → Int32) → (Nat → Int32) → (Nat → Int32) → (Nat → Int32) → Prop
theorem sp_X3_tellLine {l : Nat} {ac so tg fr mi en : Nat → Int32} {Φ : PTL} (hT : TT c tk) (h : RT c tk t tok) (hk : ¬ tok = 0) (hl : l ≤ 16) (hd : d ≤ 1000) (hc : CD code d) (hso : AL 4 so) (htg : AL 6 tg)
    (hΦ : ∀ (d' t' tok' : Nat) (p' : Int32) (v' : Int64) (f' : Int32) (code' : Nat → Int32) (l' : Nat) (ac' so' tg' fr' mi' en' : Nat → Int32), RT c tk t' tok' → t ≤ t' → (d' = d ∨ d' + t + 1 ≤ d + t') → d' ≤ 1000 → CD code' d' → l' ≤ 16 → AL 4 so' → AL 6 tg' → Φ (nI d') (nI t') tok' p' v' f' code' (nI l') ac' so' tg' fr' mi' en') : wp_X3_tellLine sn cn (nI c) tk pl vl st ce (nI d) (nI t) tok p v f code (nI l) ac so tg fr mi en Φ := by
  unfold wp_X3_tellLine
  rw [nI_1]
  refine pk_lt l 16 (fun h4 => ?_) (fun _ => sp_X3_fail (by decide) (fun f' _ => hΦ _ _ _ _ _ _ _ l _ _ _ _ _ _ h (Nat.le_refl _) (Or.inl rfl) hd hc hl hso htg))
  have il : vp_in (nI l) 16 := pk_in l 16 h4
  refine sp_X3_advance hT h (fun t1 k1 p1 v1 r1 g1 e1 => ?_)
  have e1 := e1 hk
  refine sp_X3_takeStuff hT r1 (fun j hj t2 k2 p2 v2 f2 r2 g2 => ⟨il, il, ?_⟩)
  refine sp_X3_tellAct hT r2 h4 hd hc htg (fun d3 t3 k3 p3 v3 f3 code3 ac3 tg3 mi3 r3 u1 u2 u3 u4 u5 => ⟨il, ?_⟩)
  exact hΦ _ _ _ _ _ _ _ (l + 1) _ _ _ _ _ _ r3 (by omega) (Or.inr (by omega)) u3 u4 (by omega) (hso.up hj) u5
end TL
