section
/-- all numbers of a row lie under N -/
def AL (N : Nat) (f : Nat → Int32) : Prop := ∀ l, ∃ s, s < N ∧ f l = nI s
theorem AL.up {N s k : Nat} {f : Nat → Int32} (h : AL N f) (hs : s < N) : AL N (upd f k (nI s)) := by
  intro l
  by_cases e : l = k
  · exact ⟨s, hs, by simp [upd, e]⟩
  · obtain ⟨s', h1, h2⟩ := h l
    exact ⟨s', h1, by simp [upd, e, h2]⟩
theorem AL.zero {N : Nat} (h : 0 < N) : AL N (fun _ => 0) := fun _ => ⟨0, h, rfl⟩
section TL
variable {c t tok d : Nat} {tk : Nat → Nat} {pl : Nat → Int32} {vl : Nat → Int64} {p f : Int32} {v : Int64} {code : Nat → Int32} {sn cn : Nat → Int64} {ce st : Int32}
theorem sp_X3_tellStuff {s : Nat} {be co : Nat → Int32} {Φ : Int32 → Nat → Int32 → Int64 → Int32 → (Nat → Int64) → Int32 → (Nat → Int32) → (Nat → Int32) → Prop} (hT : TT c tk) (h : RT c tk t tok) (hs : s ≤ 4) (hΦ : ∀ t' tok' p' v' f' sn' s' be' co', RT c tk t' tok' → t ≤ t' → s' ≤ 4 → Φ (nI t') tok' p' v' f' sn' (nI s') be' co') : wp_X3_tellStuff cn (nI c) tk pl vl ce (nI t) tok p v f sn (nI s) be co Φ := by
  unfold wp_X3_tellStuff
  rw [nI_1]
  refine pk_lt s 4 (fun h4 => ?_) (fun _ => sp_X3_fail (by decide) (fun f' _ => hΦ t tok p v f' sn s be co h (Nat.le_refl _) hs))
  have i4 : vp_in (nI s) 4 := pk_in s 4 h4
  refine sp_X3_advance hT h (fun t1 k1 p1 v1 r1 g1 _ => ?_)
  refine sp_X3_takeNewName hT r1 (fun x2 t2 k2 p2 v2 f2 r2 g2 => ⟨i4, ?_⟩)
  refine sp_X3_expect hT r2 (by decide) (fun t3 k3 p3 v3 f3 r3 g3 => ?_)
  refine sp_X3_takeNumber hT r3 (fun x4 t4 k4 p4 v4 f4 r4 g4 => ⟨i4, ?_⟩)
  refine sp_X3_expect hT r4 (by decide) (fun t5 k5 p5 v5 f5 r5 g5 => ?_)
  refine sp_X3_takeNumber hT r5 (fun x6 t6 k6 p6 v6 f6 r6 g6 => ⟨i4, ?_⟩)
  exact hΦ _ _ _ _ _ _ (s + 1) _ _ r6 (by omega) (by omega)
theorem sp_X3_tellCell {s : Nat} {to_ : Nat → Int32} {Φ : Int32 → Nat → Int32 → Int64 → Int32 → (Nat → Int64) → Int32 → (Nat → Int32) → Prop} (hT : TT c tk) (h : RT c tk t tok) (hs : s ≤ 6) (hΦ : ∀ t' tok' p' v' f' cn' s' to', RT c tk t' tok' → t ≤ t' → s' ≤ 6 → Φ (nI t') tok' p' v' f' cn' (nI s') to') : wp_X3_tellCell sn (nI c) tk pl vl st (nI t) tok p v f cn (nI s) to_ Φ := by
  unfold wp_X3_tellCell
  rw [nI_1]
  refine pk_lt s 6 (fun h4 => ?_) (fun _ => sp_X3_fail (by decide) (fun f' _ => hΦ t tok p v f' cn s to_ h (Nat.le_refl _) hs))
  have i4 : vp_in (nI s) 6 := pk_in s 6 h4
  refine sp_X3_advance hT h (fun t1 k1 p1 v1 r1 g1 _ => ?_)
  refine sp_X3_takeNewName hT r1 (fun x2 t2 k2 p2 v2 f2 r2 g2 => ⟨i4, ?_⟩)
  refine sp_X3_takeNumber hT r2 (fun x4 t4 k4 p4 v4 f4 r4 g4 => ⟨i4, ?_⟩)
  exact hΦ _ _ _ _ _ _ (s + 1) _ r4 (by omega) (by omega)
theorem sp_X3_tellInput {g : Nat} {gc le gr : Nat → Int32} {Φ : Int32 → Nat → Int32 → Int64 → Int32 → Int32 → (Nat → Int32) → (Nat → Int32) → (Nat → Int32) → Prop} (hT : TT c tk) (h : RT c tk t tok) (hs : g ≤ 2) (hΦ : ∀ t' tok' p' v' f' g' gc' le' gr', RT c tk t' tok' → t ≤ t' → g' ≤ 2 → Φ (nI t') tok' p' v' f' (nI g') gc' le' gr') : wp_X3_tellInput cn (nI c) tk pl vl ce (nI t) tok p v f (nI g) gc le gr Φ := by
  unfold wp_X3_tellInput
  refine pk_lt g 2 (fun h4 => ?_) (fun _ => sp_X3_fail (by decide) (fun f' _ => hΦ t tok p v f' g gc le gr h (Nat.le_refl _) hs))
  have i4 : vp_in (nI g) 2 := pk_in g 2 h4
  refine sp_X3_advance hT h (fun t1 k1 p1 v1 r1 g1 _ => ?_)
  have k99 : ∀ (t2 tok2 : Nat) (p2 : Int32) (v2 : Int64) (f2 x2 x3 x4 : Int32), RT c tk t2 tok2 → t ≤ t2 → kf_X3_tellInput_99 cn (nI c) tk pl vl ce Φ (nI t2) tok2 p2 v2 f2 (nI g) gc le gr (nI g) x2 x3 x4 := by
    intro t2 tok2 p2 v2 f2 x2 x3 x4 r2 g2
    unfold kf_X3_tellInput_99
    rw [nI_1]
    exact sp_X3_advance hT r2 (fun t3 k3 p3 v3 r3 g3 _ => ⟨i4, i4, i4, hΦ _ _ _ _ _ (g + 1) _ _ _ r3 (by omega) (by omega)⟩)
  have k52 : ∀ (f1 x : Int32), kf_X3_tellInput_52 cn (nI c) tk pl vl ce Φ (nI t1) k1 p1 v1 f1 (nI g) gc le gr (nI g) x := by
    intro f1 x
    unfold kf_X3_tellInput_52
    refine sp_X3_advance hT r1 (fun t2 k2 p2 v2 r2 g2 _ => ?_)
    refine sp_X3_takeNumber hT r2 (fun x3 t3 k3 p3 v3 f3 r3 g3 => ?_)
    refine sp_X3_numberHere hT r3 (fun x4 f4 => ?_)
    exact sp_X2_inputCountW hs (fun x5 => ⟨fun _ => k99 _ _ _ _ _ _ _ _ r3 (by omega), fun _ => sp_X3_fail (by decide) (fun f5 _ => k99 _ _ _ _ _ _ _ _ r3 (by omega))⟩)
  refine sp_X3_toldHere (by decide) (by decide) hT r1 (fun j f1 hj => ?_)
  have k : ∀ r : Int32, (r = 0 → kf_X3_tellInput_52 cn (nI c) tk pl vl ce Φ (nI t1) k1 p1 v1 f1 (nI g) gc le gr (nI g) (nI j)) ∧ (¬ r = 0 → wp_X3_fail p1 3 f1 (fun f' => kf_X3_tellInput_52 cn (nI c) tk pl vl ce Φ (nI t1) k1 p1 v1 f' (nI g) gc le gr (nI g) (nI j))) := fun r => ⟨fun _ => k52 f1 _, fun _ => sp_X3_fail (by decide) (fun f' _ => k52 f' _)⟩
  exact sp_X3_isGiven hs (k 0) (k 1)
abbrev PTA : Type := Int32 → Int32 → Nat → Int32 → Int64 → Int32 → (Nat → Int32) → (Nat → Int32) → (Nat → Int32) → (Nat → Int32) → Prop
def EA (c : Nat) (tk : Nat → Nat) (t d : Nat) (Φ : PTA) : Prop := ∀ (d' t' tok' : Nat) (p' : Int32) (v' : Int64) (f' : Int32) (code' ac' tg' mi' : Nat → Int32), RT c tk t' tok' → t ≤ t' → d' + t ≤ d + t' → d' ≤ 1000 → CD code' d' → AL 6 tg' → Φ (nI d') (nI t') tok' p' v' f' code' ac' tg' mi'
theorem sp_X3_tellAct {l : Nat} {ac tg mi : Nat → Int32} {Φ : PTA} (hT : TT c tk) (h : RT c tk t tok) (hl : l < 16) (hd : d ≤ 1000) (hc : CD code d) (htg : AL 6 tg) (hΦ : EA c tk t d Φ) : wp_X3_tellAct cn (nI c) tk pl vl ce (nI l) (nI d) (nI t) tok p v f code ac tg mi Φ := by
  unfold wp_X3_tellAct
  have il : vp_in (nI l) 16 := pk_in l 16 hl
  have k62 : ∀ (d2 t2 tok2 : Nat) (p2 : Int32) (v2 : Int64) (f2 : Int32) (code2 ac2 tg2 : Nat → Int32) (a : Int32), RT c tk t2 tok2 → t ≤ t2 → d2 + t ≤ d + t2 → d2 ≤ 1000 → CD code2 d2 → AL 6 tg2 → kf_X3_tellAct_62 cn (nI c) tk pl vl ce (nI l) Φ (nI d2) (nI t2) tok2 p2 v2 f2 code2 ac2 tg2 mi a := by
    intro d2 t2 tok2 p2 v2 f2 code2 ac2 tg2 a r2 g2 g3 g4 g5 g6
    unfold kf_X3_tellAct_62
    have ex : ∀ (w : Nat), w < 31 → wp_X3_expect (nI c) tk pl vl w (nI t2) tok2 p2 v2 f2 (fun t3 k3 p3 v3 f3 => wp_X3_expressionF cn (nI c) tk pl vl ce 0 0 (nI d2) t3 k3 p3 v3 f3 code2 (fun d4 t4 k4 p4 v4 f4 code4 => Φ d4 t4 k4 p4 v4 f4 code4 ac2 tg2 (upd mi (nI l).toNatClampNeg (nI d2)))) := fun w hw => sp_X3_expect hT r2 hw (fun t3 k3 p3 v3 f3 r3 g7 => sp_X3_expressionF hT r3 g4 g5 (fun d4 t4 k4 p4 v4 f4 code4 r4 u1 u2 u3 u4 => hΦ d4 t4 k4 p4 v4 f4 code4 _ _ _ r4 (by omega) (by omega) u3 u4 g6))
    refine ⟨il, fun _ => ⟨fun _ => ⟨fun _ => hΦ _ _ _ _ _ _ _ _ _ _ r2 g2 g3 g4 g5 g6, fun _ => ?_⟩, fun _ => ex 19 (by decide)⟩, fun _ => ex 22 (by decide)⟩
    refine sp_X3_expect hT r2 (by decide) (fun t3 k3 p3 v3 f3 r3 g7 => ?_)
    exact sp_X3_takeCell hT r3 (fun j hj t4 k4 p4 v4 f4 r4 g8 => ⟨il, hΦ _ _ _ _ _ _ _ _ _ _ r4 (by omega) (by omega) g4 g5 (g6.up hj)⟩)
  have k50 : ∀ (t2 tok2 : Nat) (p2 : Int32) (v2 : Int64) (f2 : Int32) (ac2 tg2 : Nat → Int32) (a : Int32), RT c tk t2 tok2 → t ≤ t2 → AL 6 tg2 → kf_X3_tellAct_50 cn (nI c) tk pl vl ce (nI l) Φ (nI d) (nI t2) tok2 p2 v2 f2 code ac2 tg2 mi a := by
    intro t2 tok2 p2 v2 f2 ac2 tg2 a r2 g2 g6
    unfold kf_X3_tellAct_50
    exact ⟨fun _ => k62 _ _ _ _ _ _ _ _ _ _ r2 g2 (by omega) hd hc g6, fun _ => sp_X3_expressionF hT r2 hd hc (fun d4 t4 k4 p4 v4 f4 code4 r4 u1 u2 u3 u4 => k62 _ _ _ _ _ _ _ _ _ _ r4 (by omega) (by omega) u3 u4 g6)⟩
  refine ⟨h.lt hT, fun _ => ⟨il, ?_⟩, fun _ => sp_X3_fail (by decide) (fun f' _ => hΦ _ _ _ _ _ _ _ _ _ _ h (Nat.le_refl _) (by omega) hd hc htg)⟩
  refine sp_X3_advance hT h (fun t1 k1 p1 v1 r1 g1 _ => ⟨fun _ => k50 _ _ _ _ _ _ _ _ r1 g1 htg, fun _ => ?_⟩)
  exact sp_X3_takeCell hT r1 (fun j hj t4 k4 p4 v4 f4 r4 g8 => ⟨il, k50 _ _ _ _ _ _ _ _ r4 (by omega) (htg.up hj)⟩)
abbrev PTL : Type := Int32 → Int32 → Nat → Int32 → Int64 → Int32 → (Nat → Int32) → Int32 → (Nat → Int32) → (Nat → Int32) → (Nat → Int32) → (Nat → Int32) → (Nat → Int32) → (Nat → Int32) → Prop
theorem sp_X3_tellLine {l : Nat} {ac so tg fr mi en : Nat → Int32} {Φ : PTL} (hT : TT c tk) (h : RT c tk t tok) (hk : ¬ tok = 0) (hl : l ≤ 16) (hd : d ≤ 1000) (hc : CD code d) (hso : AL 4 so) (htg : AL 6 tg)
    (hΦ : ∀ (d' t' tok' : Nat) (p' : Int32) (v' : Int64) (f' : Int32) (code' : Nat → Int32) (l' : Nat) (ac' so' tg' fr' mi' en' : Nat → Int32), RT c tk t' tok' → t ≤ t' → (d' = d ∨ d' + t + 1 ≤ d + t') → d' ≤ 1000 → CD code' d' → l' ≤ 16 → AL 4 so' → AL 6 tg' → Φ (nI d') (nI t') tok' p' v' f' code' (nI l') ac' so' tg' fr' mi' en') : wp_X3_tellLine sn cn (nI c) tk pl vl st ce (nI d) (nI t) tok p v f code (nI l) ac so tg fr mi en Φ := by
  unfold wp_X3_tellLine
  rw [nI_1]
  refine pk_lt l 16 (fun h4 => ?_) (fun _ => sp_X3_fail (by decide) (fun f' _ => hΦ _ _ _ _ _ _ _ l _ _ _ _ _ _ h (Nat.le_refl _) (Or.inl rfl) hd hc hl hso htg))
  have il : vp_in (nI l) 16 := pk_in l 16 h4
  refine sp_X3_advance hT h (fun t1 k1 p1 v1 r1 g1 e1 => ?_)
  have e1 := e1 hk
  refine sp_X3_takeStuff hT r1 (fun j hj t2 k2 p2 v2 f2 r2 g2 => ⟨il, il, ?_⟩)
  refine sp_X3_tellAct hT r2 h4 hd hc htg (fun d3 t3 k3 p3 v3 f3 code3 ac3 tg3 mi3 r3 u1 u2 u3 u4 u5 => ⟨il, ?_⟩)
  exact hΦ _ _ _ _ _ _ _ (l + 1) _ _ _ _ _ _ r3 (by omega) (Or.inr (by omega)) u3 u4 (by omega) (hso.up hj) u5
end TL
end
section
/-- a programme as the machine may trust it -/
def PK (s e g l : Nat) (so tg : Nat → Int32) (cl : Nat) (cd : Nat → Int32) : Prop := s ≤ 4 ∧ e ≤ 6 ∧ g ≤ 2 ∧ l ≤ 16 ∧ AL 4 so ∧ AL 6 tg ∧ cl < 1000 ∧ CD cd cl
abbrev PRd : Type := Nat → Int32 → Int32 → Nat → Int32 → Int64 → Int32 → (Nat → Int64) → (Nat → Int64) → (Nat → Int32) → Int32 → Int32 → (Nat → Nat) → (Nat → Int32) → (Nat → Int64) → Int32 → Int32 → Int32 → Int32 → (Nat → Int32) → (Nat → Int32) → (Nat → Int32) → (Nat → Int32) → (Nat → Int32) → (Nat → Int32) → (Nat → Int32) → (Nat → Int32) → (Nat → Int32) → (Nat → Int32) → (Nat → Int32) → (Nat → Int32) → Nat → (Nat → Int32) → Prop
def RQ (Φ : PRd) : Prop := ∀ (pg d t tok : Nat) (p : Int32) (v : Int64) (f : Int32) (sn cn : Nat → Int64) (code : Nat → Int32) (c : Nat) (tk : Nat → Nat) (pl : Nat → Int32) (vl : Nat → Int64) (s e g l : Nat) (be co to_ gc le gr ac so tg fr mi en cd : Nat → Int32), PK s e g l so tg d cd → Φ pg (nI d) (nI t) tok p v f sn cn code 0 (nI c) tk pl vl (nI s) (nI e) (nI g) (nI l) be co to_ gc le gr ac so tg fr mi en d cd
section RE
variable {c pg : Nat} {tk : Nat → Nat} {pl : Nat → Int32} {vl : Nat → Int64} {Φ : PRd}
theorem sp_X3_read47 (hT : TT c tk) (hΦ : RQ Φ) : ∀ (m i : Nat) (d t tok : Nat) (p : Int32) (v : Int64) (f : Int32) (sn cn : Nat → Int64) (code : Nat → Int32) (s e g l : Nat) (be co to_ gc le gr ac so tg fr mi en : Nat → Int32), m = 1000 - i → i ≤ 1000 → RT c tk t tok → (d = 0 ∨ d + 2 ≤ t) → d ≤ 1000 → CD code d → s ≤ 4 → e ≤ 6 → g ≤ 2 → l ≤ 16 → AL 4 so → AL 6 tg → lf_X3_read_47 0 (nI c) tk pl vl pg Φ (m + 1) (nI d) (nI t) tok p v f sn cn code (nI s) (nI e) (nI g) (nI l) be co to_ gc le gr ac so tg fr mi en (nI i) := by
  have out : ∀ (d t tok : Nat) (p : Int32) (v : Int64) (f : Int32) (sn cn : Nat → Int64) (code : Nat → Int32) (s e g l : Nat) (be co to_ gc le gr ac so tg fr mi en : Nat → Int32), RT c tk t tok → (d = 0 ∨ d + 2 ≤ t) → d ≤ 1000 → CD code d → s ≤ 4 → e ≤ 6 → g ≤ 2 → l ≤ 16 → AL 4 so → AL 6 tg → kf_X3_read_157 0 (nI c) tk pl vl pg Φ (nI d) (nI t) tok p v f sn cn code (nI s) (nI e) (nI g) (nI l) be co to_ gc le gr ac so tg fr mi en := by
    intro d t tok p v f sn cn code s e g l be co to_ gc le gr ac so tg fr mi en h1 h2 h3 h4 h5 h6 h7 h8 h9 h10
    unfold kf_X3_read_157
    have hc := hT.2.1
    have ht := h1.2.1
    have hd : d < 1000 := by omega
    rw [nI_clamp (n := d) (by omega)]
    refine ⟨nI_pos (by omega), hd, hΦ _ d t _ _ _ _ _ _ _ c _ _ _ s e g l _ _ _ _ _ _ _ _ _ _ _ _ _ ⟨h5, h6, h7, h8, h9, h10, hd, fun j hj => ?_⟩⟩
    rw [pk_cpy_in (Nat.zero_le j) (by omega)]
    exact h4 _ (by omega)
  intro m
  induction m with
  | zero =>
    intro i d t tok p v f sn cn code s e g l be co to_ gc le gr ac so tg fr mi en hm hi h1 h2 h3 h4 h5 h6 h7 h8 h9 h10
    have ei : i = 1000 := by omega
    subst ei
    show lb_X3_read_47 _ _ _ _ _ _ _ _ _ _ _ _ _ _ _ _ _ _ _ _ _ _ _ _ _ _ _ _ _ _ _ _ _ _
    unfold lb_X3_read_47
    exact ⟨fun _ => out _ _ _ _ _ _ _ _ _ _ _ _ _ _ _ _ _ _ _ _ _ _ _ _ _ h1 h2 h3 h4 h5 h6 h7 h8 h9 h10, fun z => absurd (by decide) z⟩
  | succ m ih =>
    intro i d t tok p v f sn cn code s e g l be co to_ gc le gr ac so tg fr mi en hm hi h1 h2 h3 h4 h5 h6 h7 h8 h9 h10
    show lb_X3_read_47 _ _ _ _ _ _ _ _ _ _ _ _ _ _ _ _ _ _ _ _ _ _ _ _ _ _ _ _ _ _ _ _ _ _
    unfold lb_X3_read_47
    have o := out d t tok p v f sn cn code s e g l be co to_ gc le gr ac so tg fr mi en h1 h2 h3 h4 h5 h6 h7 h8 h9 h10
    have lt := h1.lt hT
    rw [nI_1]
    refine ⟨fun z => absurd z (nI_ge (b := 1000) (by omega) (by decide)), fun _ => ⟨fun _ => o, fun _ => ⟨lt, fun _ => o, fun nz => ⟨lt, fun _ => ⟨lt, fun _ => ⟨lt, fun _ => ⟨lt, fun _ => ?_, fun _ => ?_⟩, fun _ => ?_⟩, fun _ => ?_⟩, fun _ => ?_⟩⟩⟩⟩
    · exact sp_X3_fail (by decide) (fun f' _ => sp_X3_expect hT h1 (by decide) (fun t2 k2 p2 v2 f2 r2 g2 => ih (i + 1) _ _ _ _ _ _ _ _ _ _ _ _ _ _ _ _ _ _ _ _ _ _ _ _ _ (by omega) (by omega) r2 (by omega) h3 h4 h5 h6 h7 h8 h9 h10))
    · exact sp_X3_tellLine hT h1 nz h8 h3 h4 h9 h10 (fun d1 t1 k1 p1 v1 f1 code1 l1 ac1 so1 tg1 fr1 mi1 en1 r1 u1 u2 u3 u4 u5 u6 u7 => sp_X3_expect hT r1 (by decide) (fun t2 k2 p2 v2 f2 r2 g2 => ih (i + 1) _ _ _ _ _ _ _ _ _ _ _ _ _ _ _ _ _ _ _ _ _ _ _ _ _ (by omega) (by omega) r2 (by have := h1.1; omega) u3 u4 h5 h6 h7 u5 u6 u7))
    · exact sp_X3_tellInput hT h1 h7 (fun t1 k1 p1 v1 f1 g1 gc1 le1 gr1 r1 u1 u2 => sp_X3_expect hT r1 (by decide) (fun t2 k2 p2 v2 f2 r2 g2 => ih (i + 1) _ _ _ _ _ _ _ _ _ _ _ _ _ _ _ _ _ _ _ _ _ _ _ _ _ (by omega) (by omega) r2 (by omega) h3 h4 h5 h6 u2 h8 h9 h10))
    · exact sp_X3_tellCell hT h1 h6 (fun t1 k1 p1 v1 f1 cn1 e1 to1 r1 u1 u2 => sp_X3_expect hT r1 (by decide) (fun t2 k2 p2 v2 f2 r2 g2 => ih (i + 1) _ _ _ _ _ _ _ _ _ _ _ _ _ _ _ _ _ _ _ _ _ _ _ _ _ (by omega) (by omega) r2 (by omega) h3 h4 h5 u2 h7 h8 h9 h10))
    · exact sp_X3_tellStuff hT h1 h5 (fun t1 k1 p1 v1 f1 sn1 s1 be1 co1 r1 u1 u2 => sp_X3_expect hT r1 (by decide) (fun t2 k2 p2 v2 f2 r2 g2 => ih (i + 1) _ _ _ _ _ _ _ _ _ _ _ _ _ _ _ _ _ _ _ _ _ _ _ _ _ (by omega) (by omega) r2 (by omega) h3 h4 u2 h6 h7 h8 h9 h10))
end RE
theorem sp_X3_read {n tok : Nat} {sg code pl : Nat → Int32} {a b p f C : Int32} {v : Int64} {sn cn vl : Nat → Int64} {tk : Nat → Nat} {Φ : PRd} (hn : n ≤ 1000) (hΦ : RQ Φ) : wp_X3_read sg a b tok p v f sn cn code (nI n) C tk pl vl Φ := by
  unfold wp_X3_read
  refine sp_X5_split hn (fun c' tk' pl' vl' hT pg => sp_X3_advance0 hT (fun tok1 p1 v1 r1 => ⟨1000 - 0 + 1, ?_⟩))
  exact sp_X3_read47 hT hΦ (1000 - 0) 0 0 1 _ _ _ 0 _ _ _ 0 0 0 0 _ _ _ _ _ _ _ _ _ _ _ _ rfl (by decide) r1 (Or.inl rfl) (by decide) (fun j hj => absurd hj (by omega)) (by decide) (by decide) (by decide) (by decide) (AL.zero (by decide)) (AL.zero (by decide))
end
section
theorem sp_fill {N : Nat} {x : Int32} {ar : Nat → Int32} {Φ : (Nat → Int32) → Prop} (hN : N ≤ 1000000) (hΦ : ∀ ar', Φ ar') : wp_J7_fill_53178 N x ar Φ := by
  have key : ∀ (m i : Nat) (ar : Nat → Int32), m = N - i → i ≤ N → lf_J7_fill_53178_5 N x Φ (m + 1) ar (nI i) (nI N) := by
    intro m
    induction m with
    | zero =>
      intro i ar hm hi
      show lb_J7_fill_53178_5 _ _ _ _ _ _ _
      unfold lb_J7_fill_53178_5
      exact ⟨fun _ => hΦ _, fun z => absurd (nI_le (by omega) (by omega)) z⟩
    | succ m ih =>
      intro i ar hm hi
      show lb_J7_fill_53178_5 _ _ _ _ _ _ _
      unfold lb_J7_fill_53178_5
      rw [nI_1]
      exact ⟨fun z => absurd z (nI_ge (by omega) (by omega)), fun _ => ⟨pk_in i N (by omega), ih (i + 1) _ (by omega) (by omega)⟩⟩
  exact ⟨N - 0 + 1, key (N - 0) 0 ar rfl (by omega)⟩
theorem sp_X7_within {x y : Int32} {Φ : Int32 → Prop} (h0 : Φ 0) (h1 : ¬ x < 0 → ¬ y ≤ x → Φ 1) : wp_X7_within x y Φ := ⟨fun _ => h0, fun a => ⟨fun _ => h0, fun b => h1 a b⟩⟩
theorem inO {x : Int32} {l N : Nat} (hl : l ≤ N) (hN : N ≤ 1000000) (a : ¬ x < 0) (b : ¬ nI l ≤ x) : vp_in x N := by
  obtain ⟨j, hj, e, _⟩ := pk_mu a b (by omega)
  exact pk_in j N (by omega) e
theorem AL.in {N l : Nat} {f : Nat → Int32} (h : AL N f) (hN : N ≤ 1000) : vp_in (f l) N := by
  obtain ⟨s, h1, h2⟩ := h l
  exact pk_in s N h1 h2
theorem AL.cpy {N n : Nat} {f g : Nat → Int32} (hf : AL N f) (hg : AL N g) : AL N (va_cpy f g 0 0 n) := by
  intro l
  by_cases h : l < n
  · rw [pk_cpy_in (Nat.zero_le l) (by omega)]; exact hf _
  · rw [pk_cpy_out (Or.inr (by omega))]; exact hg _
/-- the stuffs that lines are laid of -/
def AS (f : Nat → Int32) : Prop := ∀ l, l < 16 → vp_in (f l) 4
theorem AS.cpy {f g : Nat → Int32} (hf : AS f) : AS (va_cpy f g 0 0 16) := by
  intro l hl
  rw [pk_cpy_in (Nat.zero_le l) (by omega)]; exact hf _ (by omega)
theorem AL.as {f g : Nat → Int32} (hf : AL 4 f) : AS (va_cpy f g 0 0 16) := by
  intro l hl
  rw [pk_cpy_in (Nat.zero_le l) (by omega)]; exact hf.in (by decide)
theorem AS.up {f : Nat → Int32} {x : Int32} {k : Nat} (hf : AS f) (hx : vp_in x 4) : AS (upd f k x) := by
  intro l hl
  by_cases e : l = k
  · simp only [upd, e, if_true]; exact hx
  · simp only [upd, e, if_false]; exact hf l hl
section MA
variable {l cl kn : Nat} {st tw wo ce ke sk tg be ac fr mi en cd : Nat → Int32} {wy : Int32}
theorem sp_X1_lineOf {v : Int32} {Φ : Int32 → Prop} (h16 : l ≤ 16) (h : ∀ j, j < 16 → Φ (nI j)) : wp_X1_lineOf (nI l) v Φ := by
  unfold wp_X1_lineOf
  refine ⟨fun z => ?_, fun _ => h 0 (by decide)⟩
  have h0 : 0 < l := Nat.pos_of_ne_zero (fun e => z (by rw [e]; rfl))
  have e := lnOf_eq v (v - v / nI l * nI l) h0 h16 rfl
  have hk := lnOf_lt v h0
  refine ⟨z, fun y => ?_, fun y => ?_⟩
  · rw [e.2 (Int32.not_lt.mpr y)]; exact h _ (by omega)
  · rw [e.1 (Int32.not_le.mp y)]; exact h _ (by omega)
theorem sp_X1_write {x : Int32} {u : Nat} {Φ : Int32 → (Nat → Int32) → Prop} (hu : u < 2 ^ 31) (hk : kn ≤ 1000) (h : ∀ ke', Φ (nI (u + 1)) ke') : wp_X1_write kn x (nI u) ke Φ := by
  unfold wp_X1_write
  rw [nI_1]
  exact pk_le kn u (fun _ => h _) (fun z => ⟨pk_in u kn z, h _⟩)
theorem sp_X1_mend {x : Int32} {j : Nat} {Φ : (Nat → Int32) → Prop} (hj : j < 16) (h : ∀ wo', Φ wo') : wp_X1_mend (nI j) x wo Φ := by
  unfold wp_X1_mend
  exact ⟨fun _ => h _, fun _ => ⟨pk_in j 16 hj, pk_in j 16 hj, h _⟩⟩
theorem sp_X1_joined {o a b : Int32} {Φ : Int32 → Prop} (h : ∀ r, Φ r) : wp_X1_joined o a b Φ := by
  unfold wp_X1_joined
  exact ⟨fun _ => ⟨fun _ => h _, fun _ => ⟨fun _ => h _, fun _ => h _⟩⟩, fun _ => ⟨fun _ => h _, fun _ => ⟨fun _ => h _, fun _ => h _⟩⟩, fun _ => ⟨fun _ => h _, fun _ => h _⟩, fun _ => ⟨fun _ => h _, fun _ => h _⟩, fun _ => h _, fun _ => h _, fun _ => h _⟩
theorem sp_X1_bearing {x : Int32} {Φ : Int32 → Prop} (hx : vp_in x 16) (hs : AS st) (h : ∀ r, Φ r) : wp_X1_bearing st tw be x Φ := ⟨hx, hs _ (vp_lt hx), hx, h _⟩
theorem sp_X1_isEndless {s : Int32} {Φ : Int32 → Prop} (h0 : Φ 0) (h1 : Φ 1) : wp_X1_isEndless s Φ := ⟨fun _ => h0, fun _ => h1⟩
theorem sp_X1_fallIfHole {x s : Int32} {Φ : Int32 → Prop} (hl : l ≤ 16) (hs : AS st) (h : ∀ s', Φ s') : wp_X1_fallIfHole wy x st tw wo (nI l) be s Φ := by
  unfold wp_X1_fallIfHole
  exact ⟨fun _ => h _, fun _ => ⟨fun _ => h _, fun _ => sp_X7_within ⟨fun _ => h _, fun z => absurd rfl z⟩ (fun a b => ⟨fun _ => h _, fun _ => ⟨inO hl (by decide) a b, sp_X1_bearing (inO hl (by decide) a b) hs (fun r => ⟨fun _ => h _, fun _ => h _⟩)⟩⟩)⟩⟩
theorem sp_X1_reckon {xf xt : Int32} {Φ : Int32 → (Nat → Int32) → Prop} (hl : l ≤ 16) (hcl : cl < 1000) (hcd : CD cd cl) (h : ∀ r sk', Φ r sk') : wp_X1_reckon wo ce (nI l) cd cl xf xt sk Φ := by
  unfold wp_X1_reckon
  have le4 : (if (nI cl) < xt then (nI cl) else xt) ≤ nI cl := by
    by_cases z : nI cl < xt
    · rw [if_pos z]; exact Int32.le_refl _
    · rw [if_neg z]; exact Int32.not_lt.mp z
  have l5 : ∃ i : Nat, i < 2 ^ 31 ∧ (if (0 : Int32) < xf then xf else (0 : Int32)) = nI i := by
    by_cases z : (0 : Int32) < xf
    · rw [if_pos z]; exact nI_of (Int32.not_lt.mpr (Int32.le_of_lt z))
    · rw [if_neg z]; exact ⟨0, by decide, rfl⟩
  obtain ⟨i0, hi0, ei0⟩ := l5
  rw [ei0]
  generalize (if (nI cl) < xt then (nI cl) else xt) = l4 at le4 ⊢
  have key : ∀ (m i k : Nat) (sk : Nat → Int32), cl - i ≤ m → i < 2 ^ 31 → k ≤ 32 → lf_X1_reckon_23 wo ce (nI l) cd cl xf xt Φ (m + 1) sk (nI k) l4 (nI i) := by
    intro m
    induction m with
    | zero =>
      intro i k sk hm hi hk
      show lb_X1_reckon_23 _ _ _ _ _ _ _ _ _ _ _ _ _
      unfold lb_X1_reckon_23
      refine ⟨fun _ => ⟨fun _ => h _ _, fun _ => h _ _⟩, fun z => absurd (Int32.le_trans le4 (nI_le (by omega) hi)) z⟩
    | succ m ih =>
      intro i k sk hm hi hk
      show lb_X1_reckon_23 _ _ _ _ _ _ _ _ _ _ _ _ _
      unfold lb_X1_reckon_23
      refine ⟨fun _ => ⟨fun _ => h _ _, fun _ => h _ _⟩, fun z => ?_⟩
      have hic : i < cl := Nat.lt_of_not_le (fun y => z (Int32.le_trans le4 (nI_le y hi)))
      have ii : vp_in (nI i) cl := pk_in i cl hic
      rw [nI_clamp (n := i) hi, nI_1, nI_1]
      have bk : ∀ (k' : Nat) (sk' : Nat → Int32), k' ≤ 32 → lf_X1_reckon_23 wo ce (nI l) cd cl xf xt Φ (m + 1) sk' (nI k') l4 (nI (i + 1)) := fun k' sk' h' => ih (i + 1) k' sk' (by omega) (by omega) h'
      have k175 : ∀ o : Int32, kf_X1_reckon_175 wo ce (nI l) cd cl xf xt (lf_X1_reckon_23 wo ce (nI l) cd cl xf xt Φ (m + 1)) Φ sk (nI k) l4 (nI i) o := by
        intro o
        unfold kf_X1_reckon_175
        rw [nI_1]
        refine pk_le k 1 (fun _ => bk _ _ hk) (fun h1 => ?_)
        obtain ⟨j, rfl⟩ : ∃ j, k = j + 2 := ⟨k - 2, by omega⟩
        rw [pk_m1, nI_pred]
        exact ⟨pk_in j 32 (by omega), pk_in (j + 1) 32 (by omega), sp_X1_joined (fun r => ⟨pk_in j 32 (by omega), bk _ _ (by omega)⟩)⟩
      have k138 : ∀ o : Int32, kf_X1_reckon_138 wo ce (nI l) cd cl xf xt (lf_X1_reckon_23 wo ce (nI l) cd cl xf xt Φ (m + 1)) Φ sk (nI k) l4 (nI i) o := by
        intro o
        unfold kf_X1_reckon_138
        rw [nI_1]
        refine ⟨fun _ => k175 o, fun _ => pk_le k 0 (fun _ => k175 o) (fun h1 => ?_)⟩
        obtain ⟨j, rfl⟩ : ∃ j, k = j + 1 := ⟨k - 1, by omega⟩
        rw [nI_pred]
        exact ⟨pk_in j 32 (by omega), fun _ => ⟨pk_in j 32 (by omega), bk _ _ hk⟩, fun _ => ⟨pk_in j 32 (by omega), bk _ _ hk⟩⟩
      have k100 : ∀ o : Int32, kf_X1_reckon_100 wo ce (nI l) cd cl xf xt (lf_X1_reckon_23 wo ce (nI l) cd cl xf xt Φ (m + 1)) Φ sk (nI k) l4 (nI i) o := by
        intro o
        unfold kf_X1_reckon_100
        rw [nI_1]
        refine ⟨fun _ => k138 o, fun _ => pk_le k 0 (fun _ => k138 o) (fun h1 => ?_)⟩
        obtain ⟨j, rfl⟩ : ∃ j, k = j + 1 := ⟨k - 1, by omega⟩
        rw [nI_pred]
        exact ⟨pk_in j 32 (by omega), sp_X1_lineOf hl (fun r hr => ⟨pk_in r 16 hr, pk_in j 32 (by omega), bk _ _ hk⟩)⟩
      refine ⟨ii, ii, fun _ => k100 _, fun z1 => pk_le 32 k (fun _ => k100 _) (fun hk2 => ⟨fun z2 => ?_, fun _ => ?_⟩)⟩
      · exact ⟨hcd i hic z1 z2, pk_in k 32 hk2, bk _ _ (by omega)⟩
      · exact ⟨pk_in k 32 hk2, bk _ _ (by omega)⟩
  exact ⟨cl + 1, key cl i0 0 sk (by omega) hi0 (by decide)⟩
theorem sp_X1_work {j u : Nat} {Φ : Int32 → Int32 → (Nat → Int32) → (Nat → Int32) → (Nat → Int32) → (Nat → Int32) → Prop} (hj : j < 16) (hl : l ≤ 16) (hcl : cl < 1000) (hcd : CD cd cl) (htg : AL 6 tg) (hu : u < 2 ^ 31) (hk : kn ≤ 1000) (h : ∀ r u' wo' ce' ke' sk', u ≤ u' → u' ≤ u + 1 → Φ r (nI u') wo' ce' ke' sk') : wp_X1_work (nI l) ac tg fr mi en cd kn cl (nI j) (nI u) wo ce ke sk Φ := by
  unfold wp_X1_work
  have ij : vp_in (nI j) 16 := pk_in j 16 hj
  have it : ∀ i, vp_in (tg i) 6 := fun i => htg.in (by decide)
  have z : ∀ r wo' ce' ke' sk', Φ r (nI u) wo' ce' ke' sk' := fun r wo' ce' ke' sk' => h r u wo' ce' ke' sk' (Nat.le_refl _) (by omega)
  refine ⟨ij, ij, sp_X1_reckon hl hcl hcd (fun r1 s1 => ⟨ij, ij, sp_X1_reckon hl hcl hcd (fun r2 s2 => ⟨ij, fun _ => ⟨ij, it _, z _ _ _ _ _⟩, fun _ => ?_, fun _ => ?_, fun _ => ⟨fun _ => z _ _ _ _ _, fun _ => ?_⟩, fun _ => ⟨ij, it _, ?_⟩, fun _ => ?_, fun _ => z _ _ _ _ _⟩)⟩)⟩
  · exact sp_X1_write hu hk (fun ke' => h _ (u + 1) _ _ _ _ (by omega) (Nat.le_refl _))
  · exact sp_X1_lineOf hl (fun r _ => z _ _ _ _ _)
  · exact sp_X1_lineOf hl (fun r _ => z _ _ _ _ _)
  · exact sp_X1_lineOf hl (fun r _ => z _ _ _ _ _)
  · exact sp_X1_lineOf hl (fun r hr => sp_X1_mend hr (fun wo' => z _ _ _ _ _))
abbrev PSq : Type := Int32 → Int32 → Int32 → Int32 → Int32 → (Nat → Int32) → (Nat → Int32) → (Nat → Int32) → (Nat → Int32) → Prop
/-- what the machine may trust of its programme and laying -/
def MJ (l cl kn : Nat) (tg cd st : Nat → Int32) : Prop := l ≤ 16 ∧ cl < 1000 ∧ kn ≤ 1000 ∧ AL 6 tg ∧ CD cd cl ∧ AS st
theorem sp_X1_step {x s0 : Int32} {s u : Nat} {Φ : PSq} (hM : MJ l cl kn tg cd st) (hu : u < 2 ^ 31) (h : ∀ r s0' x' s' u' wo' ce' ke' sk', s ≤ s' → s' ≤ s + 1 → u ≤ u' → u' + s ≤ u + s' → Φ r s0' x' (nI s') (nI u') wo' ce' ke' sk') : wp_X1_step wy st tw (nI l) be ac tg fr mi en cd kn cl s0 x (nI s) (nI u) wo ce ke sk Φ := by
  obtain ⟨hl, hcl, hk, htg, hcd, hst⟩ := hM
  unfold wp_X1_step
  refine sp_X1_fallIfHole hl hst (fun s1 => ?_)
  have z : ∀ r s' x' wo' ce' ke' sk', Φ r s' x' (nI s) (nI u) wo' ce' ke' sk' := fun r s' x' wo' ce' ke' sk' => h _ _ _ s u _ _ _ _ (Nat.le_refl _) (by omega) (Nat.le_refl _) (by omega)
  refine ⟨fun _ => z _ _ _ _ _ _ _, fun _ => sp_X7_within ⟨fun y => absurd rfl y, fun _ => z _ _ _ _ _ _ _⟩ (fun a b => ?_)⟩
  obtain ⟨j, hj, e, _⟩ := pk_mu a b (by omega)
  have k52 : ∀ wo : Nat → Int32, kf_X1_step_52 wy st tw (nI l) be ac tg fr mi en cd kn cl Φ s1 x (nI s) (nI u) wo ce ke sk := by
    intro wo
    unfold kf_X1_step_52
    rw [nI_1, e]
    refine sp_X1_work (by omega) hl hcl hcd htg hu hk (fun r u' wo' ce' ke' sk' h1 h2 => ?_)
    exact ⟨fun _ => h _ _ _ (s + 1) u' _ _ _ _ (by omega) (by omega) h1 (by omega), fun _ => h _ _ _ (s + 1) u' _ _ _ _ (by omega) (by omega) h1 (by omega)⟩
  have ix : vp_in x 16 := pk_in j 16 (by omega) e
  exact ⟨fun _ => ⟨fun _ => k52 _, fun _ => ⟨ix, ix, k52 _⟩⟩, fun y => absurd y (by decide)⟩
theorem sp_X1_go {x s0 : Int32} {s u M : Nat} {Φ : PSq} (hM : MJ l cl kn tg cd st) (hu : u ≤ 1000000) (hm : M ≤ 1000000) (h : ∀ r s0' x' s' u' wo' ce' ke' sk', s ≤ s' → s' ≤ s + M → u ≤ u' → u' + s ≤ u + s' → Φ r s0' x' (nI s') (nI u') wo' ce' ke' sk') : wp_X1_go wy st tw (nI l) be ac tg fr mi en cd kn cl (nI M) s0 x (nI s) (nI u) wo ce ke sk Φ := by
  have key : ∀ (m i : Nat) (r s0 x : Int32) (s' u' : Nat) (wo ce ke sk : Nat → Int32), m = M - i → i ≤ M → s ≤ s' → s' ≤ s + i → u ≤ u' → u' + s ≤ u + s' → lf_X1_go_4 wy st tw (nI l) be ac tg fr mi en cd kn cl (nI M) Φ (m + 1) s0 x (nI s') (nI u') wo ce ke sk r (nI i) := by
    intro m
    induction m with
    | zero =>
      intro i r s0 x s' u' wo ce ke sk h1 h2 h3 h4 h5 h6
      show lb_X1_go_4 _ _ _ _ _ _ _ _ _ _ _ _ _ _ _ _ _ _ _ _ _ _ _ _ _ _
      unfold lb_X1_go_4
      exact ⟨fun _ => h _ _ _ s' u' _ _ _ _ h3 (by omega) h5 h6, fun z => absurd (nI_le (by omega) (by omega)) z⟩
    | succ m ih =>
      intro i r s0 x s' u' wo ce ke sk h1 h2 h3 h4 h5 h6
      show lb_X1_go_4 _ _ _ _ _ _ _ _ _ _ _ _ _ _ _ _ _ _ _ _ _ _ _ _ _ _
      unfold lb_X1_go_4
      rw [nI_1]
      refine ⟨fun _ => h _ _ _ s' u' _ _ _ _ h3 (by omega) h5 h6, fun _ => ?_⟩
      refine sp_X1_step hM (by omega) (fun r1 s1 x1 s2 u2 wo' ce' ke' sk' g1 g2 g3 g4 => ⟨fun _ => ?_, fun _ => ?_⟩)
      · exact h _ _ _ s2 u2 _ _ _ _ (by omega) (by omega) (by omega) (by omega)
      · exact ih (i + 1) _ _ _ s2 u2 _ _ _ _ (by omega) (by omega) (by omega) (by omega) (by omega) (by omega)
  exact ⟨M - 0 + 1, key (M - 0) 0 0 s0 x s u wo ce ke sk rfl (by omega) (Nat.le_refl _) (by omega) (Nat.le_refl _) (by omega)⟩
end MA
end
section
theorem w1_ne (w : Int32) : ¬ (if (1 : Int32) < w then w else (1 : Int32)) = 0 := by
  by_cases h : (1 : Int32) < w
  · rw [if_pos h]; intro e; rw [e] at h; exact absurd h (by decide)
  · rw [if_neg h]; decide
/-- what a walk may trust of a programme -/
def PJ (e g l cl : Nat) (tg cd : Nat → Int32) : Prop := e ≤ 6 ∧ g ≤ 2 ∧ l ≤ 16 ∧ cl < 1000 ∧ AL 6 tg ∧ CD cd cl
theorem PK.pj {s e g l cl : Nat} {so tg cd : Nat → Int32} (h : PK s e g l so tg cl cd) : PJ e g l cl tg cd := ⟨h.2.1, h.2.2.1, h.2.2.2.1, h.2.2.2.2.2.2.1, h.2.2.2.2.2.1, h.2.2.2.2.2.2.2⟩
section MB
variable {e g l cl kn : Nat} {to_ gc le gr st tw wo ce ke sk tg be ac fr mi en cd : Nat → Int32}
theorem PJ.mj (h : PJ e g l cl tg cd) (hk : kn ≤ 1000) (hs : AS st) : MJ l cl kn tg cd st := ⟨h.2.2.1, h.2.2.2.1, hk, h.2.2.2.2.1, h.2.2.2.2.2, hs⟩
theorem sp_X2_inputCount {Φ : Int32 → Prop} (hg : g ≤ 2) (hΦ : ∀ r, Φ r) : wp_X2_inputCount (nI g) le gr Φ := by
  have key : ∀ (m i : Nat) (x : Int32), m = g - i → i ≤ g → lf_X2_inputCount_4 (nI g) le gr Φ (m + 1) x (nI i) := by
    intro m
    induction m with
    | zero =>
      intro i x hm hi
      show lb_X2_inputCount_4 _ _ _ _ _ _ _
      unfold lb_X2_inputCount_4
      exact ⟨fun _ => hΦ _, fun z => absurd (nI_le (by omega) (by omega)) z⟩
    | succ m ih =>
      intro i x hm hi
      show lb_X2_inputCount_4 _ _ _ _ _ _ _
      unfold lb_X2_inputCount_4 wp_X2_width
      rw [nI_1]
      exact ⟨fun _ => hΦ _, fun _ => ⟨pk_in i 2 (by omega), pk_in i 2 (by omega), ih (i + 1) _ (by omega) (by omega)⟩⟩
  exact ⟨g - 0 + 1, key (g - 0) 0 1 rfl (by omega)⟩
theorem sp_X2_atFirst {xi xc : Int32} {Φ : Int32 → Prop} (hg : g ≤ 2) (hc : vp_in xc 6) (hΦ : ∀ r, Φ r) : wp_X2_atFirst (nI g) to_ gc le gr xi xc Φ := by
  unfold wp_X2_atFirst
  rw [Int32.sub_eq_add_neg]
  have key : ∀ (m : Nat) (x y : Int32), m ≤ 2 → lf_X2_atFirst_18 (nI g) to_ gc le gr xi xc Φ (m + 1) x y (nI m + -1) := by
    intro m
    induction m with
    | zero =>
      intro x y hm
      show lb_X2_atFirst_18 _ _ _ _ _ _ _ _ _ _ _ _
      unfold lb_X2_atFirst_18
      exact ⟨fun _ => hΦ _, fun z => absurd (by decide) z⟩
    | succ m ih =>
      intro x y hm
      show lb_X2_atFirst_18 _ _ _ _ _ _ _ _ _ _ _ _
      unfold lb_X2_atFirst_18 wp_X2_width
      rw [pk_m1]
      have im : vp_in (nI m) 2 := pk_in m 2 (by omega)
      exact ⟨fun z => absurd z (nI_pos (by omega)), fun _ => ⟨im, im, im, fun _ => ⟨w1_ne _, ih _ _ (by omega)⟩, fun _ => ⟨im, w1_ne _, w1_ne _, ih _ _ (by omega)⟩⟩⟩
  exact ⟨hc, g + 1, key g _ _ hg⟩
theorem sp_X1_start {xi s0 x a b : Int32} {Φ : Int32 → Int32 → Int32 → Int32 → (Nat → Int32) → Prop} (he : e ≤ 6) (hg : g ≤ 2) (hΦ : ∀ ce', Φ 1 0 0 0 ce') : wp_X1_start (nI e) (nI g) to_ gc le gr xi s0 x a b ce Φ := by
  have key : ∀ (m i : Nat) (ce : Nat → Int32), m = e - i → i ≤ e → lf_X1_start_2 (nI e) (nI g) to_ gc le gr xi Φ (m + 1) s0 x a b ce (nI i) := by
    intro m
    induction m with
    | zero =>
      intro i ce hm hi
      show lb_X1_start_2 _ _ _ _ _ _ _ _ _ _ _ _ _ _ _
      unfold lb_X1_start_2
      exact ⟨fun _ => hΦ _, fun z => absurd (nI_le (by omega) (by omega)) z⟩
    | succ m ih =>
      intro i ce hm hi
      show lb_X1_start_2 _ _ _ _ _ _ _ _ _ _ _ _ _ _ _
      unfold lb_X1_start_2
      rw [nI_1]
      have ii : vp_in (nI i) 6 := pk_in i 6 (by omega)
      exact ⟨fun _ => hΦ _, fun _ => sp_X2_atFirst hg ii (fun r => ⟨ii, ih (i + 1) _ (by omega) (by omega)⟩)⟩
  exact ⟨e - 0 + 1, key (e - 0) 0 ce rfl (by omega)⟩
theorem sp_X1_layLike {op mp : Nat} {os ot : Nat → Int32} {Φ : Nat → (Nat → Int32) → (Nat → Int32) → (Nat → Int32) → Prop} (ho : AS os) (hΦ : ∀ st' tw' wo', AS st' → Φ op st' tw' wo') : wp_X1_layLike op os ot mp st tw wo Φ := by
  unfold wp_X1_layLike
  exact sp_fill (by decide) (fun ar => hΦ _ _ _ ho.cpy)
theorem if_min {a b : Nat} (ha : a ≤ 1000000) (hb : b ≤ 1000000) : (if (nI a) < (nI b) then (nI a) else (nI b)) = nI (min a b) := by
  by_cases h : a < b
  · rw [if_pos (nI_lt h (by omega)), Nat.min_eq_left (by omega)]
  · rw [if_neg (nI_nlt (by omega) (by omega)), Nat.min_eq_right (by omega)]
theorem sp_X1_copy {op mp ko : Nat} {ow os0 on oa ob w s0 n a b : Int32} {os ot oo oc ok : Nat → Int32} {Φ : Nat → Int32 → Int32 → Int32 → Int32 → Int32 → (Nat → Int32) → (Nat → Int32) → (Nat → Int32) → (Nat → Int32) → (Nat → Int32) → Prop} (ho : AS os) (hk : kn ≤ 1000) (hk2 : ko ≤ 1000) (hΦ : ∀ st' tw' wo' ce' ke', AS st' → Φ op ow os0 on oa ob st' tw' wo' ce' ke') : wp_X1_copy op ow os0 on oa ob os ot oo oc ok kn ko mp w s0 n a b st tw wo ce ke Φ := by
  unfold wp_X1_copy
  rw [if_min (by omega) (by omega), nI_clamp (by omega)]
  exact sp_X1_layLike ho (fun st' tw' wo' h => ⟨nI_pos (by omega), Nat.min_le_right _ _, Nat.min_le_left _ _, hΦ _ _ _ _ _ h⟩)
theorem sp_X1_takeAsTold {so : Nat → Int32} {pg mp : Nat} {s0 n a b : Int32} {Φ : Nat → Int32 → Int32 → Int32 → Int32 → (Nat → Int32) → (Nat → Int32) → (Nat → Int32) → Prop} (ho : AL 4 so) (hΦ : ∀ st' tw' wo', AS st' → Φ pg 0 0 0 0 st' tw' wo') : wp_X1_takeAsTold so pg mp s0 n a b st tw wo Φ := by
  unfold wp_X1_takeAsTold
  exact sp_fill (by decide) (fun a1 => sp_fill (by decide) (fun a2 => hΦ _ _ _ ho.as))
theorem sp_X1_wroteLike {a b : Int32} {ko : Nat} {ok : Nat → Int32} {Φ : Int32 → Prop} (hk : kn ≤ 1000) (h0 : Φ 0) (h1 : Φ 1) : wp_X1_wroteLike a ke b ok kn ko Φ := by
  unfold wp_X1_wroteLike
  refine ⟨fun _ => ⟨kn - 0 + 1, ?_⟩, fun _ => h0⟩
  have key : ∀ (m i : Nat), m = kn - i → i ≤ kn → lf_X1_wroteLike_15 a ke b ok kn ko Φ (m + 1) (nI i) := by
    intro m
    induction m with
    | zero =>
      intro i hm hi
      show lb_X1_wroteLike_15 _ _ _ _ _ _ _ _ _
      unfold lb_X1_wroteLike_15
      exact ⟨fun _ => h1, fun _ => ⟨fun _ => h1, fun z => absurd (nI_le (by omega) (by omega)) z⟩⟩
    | succ m ih =>
      intro i hm hi
      show lb_X1_wroteLike_15 _ _ _ _ _ _ _ _ _
      unfold lb_X1_wroteLike_15
      rw [nI_1]
      refine ⟨fun _ => h1, fun _ => ⟨fun _ => h1, fun _ => ⟨fun _ => h1, fun z => ⟨pk_in i kn (by omega), ?_, fun _ => ih (i + 1) (by omega) (by omega), fun _ => h0⟩⟩⟩⟩
      exact fun y => by
        rcases y with y | y
        · exact nI_pos (by omega) y
        · rw [nI_clamp (by omega)] at y; exact z (nI_le y (by omega))
  exact key (kn - 0) 0 rfl (by omega)
abbrev PWq : Type := Nat → Int32 → Int32 → Int32 → Int32 → Int32 → (Nat → Int32) → (Nat → Int32) → (Nat → Int32) → (Nat → Int32) → (Nat → Int32) → (Nat → Int32) → Prop
theorem sp_X7_walk {pg mp : Nat} {xw xi w s0 n a b : Int32} {os ot : Nat → Int32} {Φ : PWq} (hP : PJ e g l cl tg cd) (hk : kn ≤ 1000) (ho : AS os) (hΦ : ∀ s0' n' a' b' st' tw' wo' ce' ke' sk', Φ pg xw s0' n' a' b' st' tw' wo' ce' ke' sk') : wp_X7_walk os ot (nI e) (nI g) (nI l) be to_ gc le gr ac tg fr mi en cd kn cl pg xw xi mp w s0 n a b st tw wo ce ke sk Φ := by
  unfold wp_X7_walk
  refine sp_X1_layLike ho (fun st' tw' wo' hs => ⟨rfl, sp_X1_start hP.1 hP.2.1 (fun ce' => ?_)⟩)
  refine sp_X1_go (M := 1000) (s := 0) (u := 0) (hP.mj hk hs) (by decide) (by decide) (fun r s1 x1 s2 u2 wo2 ce2 ke2 sk2 _ _ _ _ => ?_)
  exact sp_X1_fallIfHole hP.2.2.1 hs (fun s3 => hΦ _ _ _ _ _ _ _ _ _ _)
theorem sp_X7_canWalk {xi : Int32} {Φ : Int32 → Prop} (hg : g ≤ 2) (h0 : Φ 0) (h1 : Φ 1) : wp_X7_canWalk (nI g) (nI l) le gr xi Φ := by
  unfold wp_X7_canWalk
  exact ⟨fun _ => h0, fun _ => sp_X2_inputCount hg (fun r => sp_X7_within ⟨fun _ => h0, fun z => absurd rfl z⟩ (fun _ _ => ⟨fun _ => h0, fun _ => h1⟩))⟩
end MB
end
section
theorem cnt_le {r : Int32} {i : Nat} (hi : i < 2 ^ 31) (h : r.toNatClampNeg ≤ i) : r ≤ nI i := by
  by_cases z : r < 0
  · exact Int32.le_of_lt (Int32.lt_of_lt_of_le z (nI_pos' hi))
  · obtain ⟨j, hj, e⟩ := nI_of z
    rw [e] at h ⊢
    rw [nI_clamp hj] at h
    exact nI_le h hi
theorem cnt_lt (r : Int32) : r.toNatClampNeg < 2 ^ 31 := Int32.toNatClampNeg_lt r
/-- the counts of the hand -/
def HC (a b : Int32) : Prop := ∃ s u : Nat, a = nI s ∧ b = nI u ∧ u ≤ s ∧ s ≤ 1000000
theorem HC.zero : HC 0 0 := ⟨0, 0, rfl, rfl, Nat.le_refl _, by decide⟩
section F1
variable {s e g l cl pg : Nat} {hst htw hwo hce hke hsk be co to_ gc le gr ac tg fr mi en cd : Nat → Int32} {hw : Int32}
theorem sp_X7_stuff {x y : Int32} {Φ : Int32 → Prop} (hs : s ≤ 4) (h : ∀ r, Φ r) : wp_X7_stuff (nI s) be co x y Φ := by
  unfold wp_X7_stuff
  exact sp_X7_within ⟨fun z => absurd rfl z, fun _ => h _⟩ (fun a b => ⟨fun _ => ⟨fun _ => ⟨inO hs (by decide) a b, h _⟩, fun _ => ⟨inO hs (by decide) a b, h _⟩, fun _ _ => h _⟩, fun z => absurd z (by decide)⟩)
theorem sp_X7_line {x y : Int32} {Φ : Int32 → Prop} (hl : l ≤ 16) (hs : AS hst) (h : ∀ r, Φ r) : wp_X7_line hst htw hwo (nI l) be ac x y Φ := by
  unfold wp_X7_line
  exact sp_X7_within ⟨fun z => absurd rfl z, fun _ => h _⟩ (fun a b => ⟨fun _ => ⟨fun _ => ⟨inO hl (by decide) a b, h _⟩, fun _ => ⟨inO hl (by decide) a b, h _⟩, fun _ => ⟨inO hl (by decide) a b, h _⟩, fun _ => sp_X1_bearing (inO hl (by decide) a b) hs h, fun _ => ⟨inO hl (by decide) a b, h _⟩, fun _ => h _⟩, fun z => absurd z (by decide)⟩)
theorem sp_X7_lay {x y z : Int32} {Φ : Int32 → (Nat → Int32) → (Nat → Int32) → (Nat → Int32) → Prop} (hs4 : s ≤ 4) (hl : l ≤ 16) (hs : AS hst) (h : ∀ r st' tw' wo', AS st' → Φ r st' tw' wo') : wp_X7_lay (nI s) (nI l) x y z hst htw hwo Φ := by
  unfold wp_X7_lay
  have o := h 0 hst htw hwo hs
  refine sp_X7_within ⟨fun _ => o, fun z => absurd rfl z⟩ (fun a b => ⟨fun _ => o, fun _ => sp_X7_within ⟨fun _ => o, fun z => absurd rfl z⟩ (fun a2 b2 => ⟨fun _ => o, fun _ => ⟨fun _ => o, fun _ => ⟨fun _ => ?_, fun _ => o⟩⟩⟩)⟩)
  have i := inO hl (by decide) a b
  exact ⟨i, i, i, h _ _ _ _ (hs.up (inO hs4 (by decide) a2 b2))⟩
theorem sp_X7_cost {Φ : Int32 → Prop} (hl : l ≤ 16) (hs : AS hst) (h : ∀ r, Φ r) : wp_X7_cost hst htw (nI l) co Φ := by
  have key : ∀ (m i : Nat) (x : Int32), m = l - i → i ≤ l → lf_X7_cost_4 hst htw (nI l) co Φ (m + 1) x (nI i) := by
    intro m
    induction m with
    | zero =>
      intro i x hm hi
      show lb_X7_cost_4 _ _ _ _ _ _ _ _
      unfold lb_X7_cost_4
      exact ⟨fun _ => h _, fun z => absurd (nI_le (by omega) (by omega)) z⟩
    | succ m ih =>
      intro i x hm hi
      show lb_X7_cost_4 _ _ _ _ _ _ _ _
      unfold lb_X7_cost_4
      rw [nI_1]
      have ii : vp_in (nI i) 16 := pk_in i 16 (by omega)
      exact ⟨fun _ => h _, fun _ => ⟨ii, hs _ (vp_lt ii), ii, ih (i + 1) _ (by omega) (by omega)⟩⟩
  exact ⟨l - 0 + 1, key (l - 0) 0 0 rfl (by omega)⟩
theorem sp_X7_inputs {Φ : Int32 → Prop} (hg : g ≤ 2) (h : ∀ r, Φ r) : wp_X7_inputs (nI g) le gr Φ := sp_X2_inputCount hg h
theorem sp_X7_input {x y : Int32} {Φ : Int32 → Prop} (he : e ≤ 6) (hg : g ≤ 2) (h : ∀ r, Φ r) : wp_X7_input (nI e) (nI g) to_ gc le gr x y Φ := by
  unfold wp_X7_input
  exact sp_X2_inputCount hg (fun r => sp_X7_within ⟨fun _ => h _, fun z => absurd rfl z⟩ (fun _ _ => ⟨fun _ => h _, fun _ => sp_X7_within ⟨fun z => absurd rfl z, fun _ => h _⟩ (fun a b => ⟨fun _ => sp_X2_atFirst hg (inO he (by decide) a b) h, fun z => absurd z (by decide)⟩)⟩))
theorem sp_X7_begin {x s0 n a b : Int32} {Φ : Int32 → Int32 → Int32 → Int32 → Int32 → (Nat → Int32) → Prop} (he : e ≤ 6) (hg : g ≤ 2) (hH : HC a b) (h : ∀ r s0' n' a' b' ce', HC a' b' → Φ r s0' n' a' b' ce') : wp_X7_begin (nI e) (nI g) (nI l) to_ gc le gr x s0 n a b hce Φ := by
  unfold wp_X7_begin
  exact sp_X7_canWalk hg ⟨fun z => absurd rfl z, fun _ => h _ _ _ _ _ _ hH⟩ ⟨fun _ => sp_X1_start he hg (fun ce' => h _ _ _ _ _ _ HC.zero), fun z => absurd z (by decide)⟩
theorem sp_X7_run {x s0 n a b : Int32} {Φ : PSq} (hP : PJ e g l cl tg cd) (hs : AS hst) (hH : HC a b) (h : ∀ r s0' n' a' b' wo' ce' ke' sk', HC a' b' → Φ r s0' n' a' b' wo' ce' ke' sk') : wp_X7_run hw hst htw (nI l) be ac tg fr mi en cd cl x s0 n a b hwo hce hke hsk Φ := by
  unfold wp_X7_run
  have o := fun r => h r s0 n a b hwo hce hke hsk hH
  refine ⟨fun _ => o _, fun x0 => ⟨fun x1 => ?_, fun _ => o _⟩⟩
  obtain ⟨j, hj, ej⟩ := nI_of2 (M := 1000000) (n := 1000000) (by decide) x0 x1
  obtain ⟨s, u, ea, eb, hu, hs1⟩ := hH
  have em : (1000000 : Int32) - nI s = nI (1000000 - s) := pk_sub (a := 1000000) hs1
  rw [ej, ea, eb, em, if_min (by omega) hj]
  refine sp_X1_go (hP.mj (by decide) hs) (by omega) (by omega) (fun r s1 x1 s2 u2 wo2 ce2 ke2 sk2 h1 h2 h3 h4 => ?_)
  have hH2 : HC (nI s2) (nI u2) := ⟨s2, u2, rfl, rfl, by omega, by omega⟩
  exact ⟨fun _ => h _ _ _ _ _ _ _ _ _ hH2, fun _ => ⟨fun _ => h _ _ _ _ _ _ _ _ _ hH2, fun _ => h _ _ _ _ _ _ _ _ _ hH2⟩⟩
theorem sp_X7_state {x s0 n a b : Int32} {Φ : Int32 → Prop} (h : ∀ r, Φ r) : wp_X7_state s0 n a b x Φ := ⟨fun _ => h _, fun _ => ⟨fun _ => h _, fun _ => ⟨fun _ => h _, fun _ => h _⟩⟩, fun _ => h _, fun _ => h _, fun _ => h _⟩
theorem sp_X7_fresh {Φ : Int32 → (Nat → Int32) → Prop} (h : ∀ wo', Φ 1 wo') : wp_X7_fresh hwo Φ := sp_fill (by decide) (fun a => h a)
theorem sp_X7_count {x a b c d f : Int32} {Φ : Int32 → Prop} (h : ∀ r, Φ r) : wp_X7_count a b c d f x Φ := ⟨fun _ => h _, fun _ => h _, fun _ => h _, fun _ => h _, fun _ => h _, fun _ => h _⟩
abbrev PW1 : Type := Int32 → PWq
def AW (Φ : PW1) : Prop := ∀ (r : Int32) (wp : Nat) (ww ws wn wa wb : Int32) (wst wtw wwo wce wke wsk : Nat → Int32), Φ r wp ww ws wn wa wb wst wtw wwo wce wke wsk
theorem sp_X7_steps {x : Int32} {wp : Nat} {ww ws wn wa wb : Int32} {wst wtw wwo wce wke wsk : Nat → Int32} {Φ : PW1} (hP : PJ e g l cl tg cd) (hs : AS hst) (h : AW Φ) : wp_X7_steps hst htw (nI e) (nI g) (nI l) be to_ gc le gr ac tg fr mi en cd cl pg x wp ww ws wn wa wb wst wtw wwo wce wke wsk Φ := by
  unfold wp_X7_steps
  exact sp_X7_canWalk hP.2.1 ⟨fun z => absurd rfl z, fun _ => h _ _ _ _ _ _ _ _ _ _ _ _ _⟩ ⟨fun _ => sp_X7_walk hP (by decide) hs (fun _ _ _ _ _ _ _ _ _ _ => sp_X1_isEndless ⟨fun _ => h _ _ _ _ _ _ _ _ _ _ _ _ _, fun _ => h _ _ _ _ _ _ _ _ _ _ _ _ _⟩ ⟨fun _ => h _ _ _ _ _ _ _ _ _ _ _ _ _, fun _ => h _ _ _ _ _ _ _ _ _ _ _ _ _⟩), fun z => absurd z (by decide)⟩
theorem sp_X7_falls {x : Int32} {wp : Nat} {ww ws wn wa wb : Int32} {wst wtw wwo wce wke wsk : Nat → Int32} {Φ : PW1} (hP : PJ e g l cl tg cd) (hs : AS hst) (h : AW Φ) : wp_X7_falls hst htw (nI e) (nI g) (nI l) be to_ gc le gr ac tg fr mi en cd cl pg x wp ww ws wn wa wb wst wtw wwo wce wke wsk Φ := by
  unfold wp_X7_falls
  exact sp_X7_canWalk hP.2.1 ⟨fun z => absurd rfl z, fun _ => h _ _ _ _ _ _ _ _ _ _ _ _ _⟩ ⟨fun _ => sp_X7_walk hP (by decide) hs (fun _ _ _ _ _ _ _ _ _ _ => ⟨fun _ => h _ _ _ _ _ _ _ _ _ _ _ _ _, fun _ => h _ _ _ _ _ _ _ _ _ _ _ _ _⟩), fun z => absurd z (by decide)⟩
theorem sp_X7_firstToFall {wp : Nat} {ww ws wn wa wb : Int32} {wst wtw wwo wce wke wsk : Nat → Int32} {Φ : PW1} (hP : PJ e g l cl tg cd) (hs : AS hst) (h : AW Φ) : wp_X7_firstToFall hst htw (nI e) (nI g) (nI l) be to_ gc le gr ac tg fr mi en cd cl pg wp ww ws wn wa wb wst wtw wwo wce wke wsk Φ := by
  unfold wp_X7_firstToFall
  refine ⟨fun _ => sp_X2_inputCount hP.2.1 (fun r => ⟨r.toNatClampNeg - 0 + 1, ?_⟩), fun _ => h _ _ _ _ _ _ _ _ _ _ _ _ _⟩
  have key : ∀ (m i : Nat) (wp : Nat) (ww ws wn wa wb : Int32) (wst wtw wwo wce wke wsk : Nat → Int32) (x y : Int32), m = r.toNatClampNeg - i → i ≤ r.toNatClampNeg → lf_X7_firstToFall_33 hst htw (nI e) (nI g) (nI l) be to_ gc le gr ac tg fr mi en cd cl pg Φ (m + 1) wp ww ws wn wa wb wst wtw wwo wce wke wsk x y r (nI i) := by
    have hr := cnt_lt r
    intro m
    induction m with
    | zero =>
      intro i wp ww ws wn wa wb wst wtw wwo wce wke wsk x y hm hi
      show lb_X7_firstToFall_33 _ _ _ _ _ _ _ _ _ _ _ _ _ _ _ _ _ _ _ _ _ _ _ _ _ _ _ _ _ _ _ _ _ _ _ _
      unfold lb_X7_firstToFall_33
      exact ⟨fun _ => h _ _ _ _ _ _ _ _ _ _ _ _ _, fun z => absurd (cnt_le (by omega) (by omega)) z⟩
    | succ m ih =>
      intro i wp ww ws wn wa wb wst wtw wwo wce wke wsk x y hm hi
      show lb_X7_firstToFall_33 _ _ _ _ _ _ _ _ _ _ _ _ _ _ _ _ _ _ _ _ _ _ _ _ _ _ _ _ _ _ _ _ _ _ _ _
      unfold lb_X7_firstToFall_33
      rw [nI_1]
      exact ⟨fun _ => h _ _ _ _ _ _ _ _ _ _ _ _ _, fun _ => sp_X7_walk hP (by decide) hs (fun _ _ _ _ _ _ _ _ _ _ => ⟨fun _ => ih (i + 1) _ _ _ _ _ _ _ _ _ _ _ _ _ _ (by omega) (by omega), fun _ => ⟨fun _ => ih (i + 1) _ _ _ _ _ _ _ _ _ _ _ _ _ _ (by omega) (by omega), fun _ => ⟨fun _ => ih (i + 1) _ _ _ _ _ _ _ _ _ _ _ _ _ _ (by omega) (by omega), fun _ => ih (i + 1) _ _ _ _ _ _ _ _ _ _ _ _ _ _ (by omega) (by omega)⟩⟩⟩)⟩
  exact key (r.toNatClampNeg - 0) 0 _ _ _ _ _ _ _ _ _ _ _ _ _ _ rfl (by omega)
theorem sp_X7_first {x : Int32} {wp : Nat} {ww ws wn wa wb : Int32} {wst wtw wwo wce wke wsk : Nat → Int32} {Φ : PW1} (hP : PJ e g l cl tg cd) (hs : AS hst) (h : AW Φ) : wp_X7_first hst htw (nI e) (nI g) (nI l) be to_ gc le gr ac tg fr mi en cd cl pg x wp ww ws wn wa wb wst wtw wwo wce wke wsk Φ := by
  unfold wp_X7_first
  exact sp_X7_firstToFall hP hs (fun r _ _ _ _ _ _ _ _ _ _ _ _ => ⟨fun _ => sp_X7_walk hP (by decide) hs (fun _ _ _ _ _ _ _ _ _ _ => ⟨fun _ => h _ _ _ _ _ _ _ _ _ _ _ _ _, fun _ => h _ _ _ _ _ _ _ _ _ _ _ _ _, fun _ => h _ _ _ _ _ _ _ _ _ _ _ _ _, fun _ => h _ _ _ _ _ _ _ _ _ _ _ _ _⟩), fun _ => h _ _ _ _ _ _ _ _ _ _ _ _ _⟩)
theorem sp_X7_rounds {x : Int32} {wp : Nat} {ww ws wn wa wb : Int32} {wst wtw wwo wce wke wsk : Nat → Int32} {Φ : PW1} (hP : PJ e g l cl tg cd) (hs : AS hst) (h : AW Φ) : wp_X7_rounds hst htw (nI e) (nI g) (nI l) be to_ gc le gr ac tg fr mi en cd cl pg x wp ww ws wn wa wb wst wtw wwo wce wke wsk Φ := by
  unfold wp_X7_rounds
  refine sp_X7_canWalk hP.2.1 ⟨fun z => absurd rfl z, fun _ => h _ _ _ _ _ _ _ _ _ _ _ _ _⟩ ⟨fun _ => sp_X1_layLike hs (fun st' tw' wo' hs' => ⟨100 - 0 + 1, ?_⟩), fun z => absurd z (by decide)⟩
  have key : ∀ (m i : Nat) (ww ws wn wa wb : Int32) (wtw wwo wce wke wsk : Nat → Int32), m = 100 - i → i ≤ 100 → lf_X7_rounds_31 hst htw (nI e) (nI g) (nI l) be to_ gc le gr ac tg fr mi en cd cl pg x Φ (m + 1) pg ww ws wn wa wb st' wtw wwo wce wke wsk (nI i) := by
    intro m
    induction m with
    | zero =>
      intro i ww ws wn wa wb wtw wwo wce wke wsk hm hi
      have ei : i = 100 := by omega
      subst ei
      show lb_X7_rounds_31 _ _ _ _ _ _ _ _ _ _ _ _ _ _ _ _ _ _ _ _ _ _ _ _ _ _ _ _ _ _ _ _ _ _
      unfold lb_X7_rounds_31
      exact ⟨fun _ => h _ _ _ _ _ _ _ _ _ _ _ _ _, fun z => absurd (by decide) z⟩
    | succ m ih =>
      intro i ww ws wn wa wb wtw wwo wce wke wsk hm hi
      show lb_X7_rounds_31 _ _ _ _ _ _ _ _ _ _ _ _ _ _ _ _ _ _ _ _ _ _ _ _ _ _ _ _ _ _ _ _ _ _
      unfold lb_X7_rounds_31
      rw [nI_1]
      refine ⟨fun _ => h _ _ _ _ _ _ _ _ _ _ _ _ _, fun _ => ⟨rfl, sp_X1_start hP.1 hP.2.1 (fun ce' => ?_)⟩⟩
      refine sp_X1_go (M := 1000) (s := 0) (u := 0) (hP.mj (by decide) hs') (by decide) (by decide) (fun r s1 x1 s2 u2 wo2 ce2 ke2 sk2 _ _ _ _ => ?_)
      exact ⟨fun _ => ih (i + 1) _ _ _ _ _ _ _ _ _ _ (by omega) (by omega), fun _ => h _ _ _ _ _ _ _ _ _ _ _ _ _⟩
  exact key (100 - 0) 0 _ _ _ _ _ _ _ _ _ _ rfl (by omega)
theorem sp_X7_stepsIfMended {j : Nat} {s0 n a b : Int32} {wp : Nat} {ww ws wn wa wb : Int32} {wst wtw wwo wce wke wsk : Nat → Int32} {Φ : PW1} (hj : j < 16) (hP : PJ e g l cl tg cd) (hs : AS hst) (hH : HC a b) (h : AW Φ) : wp_X7_stepsIfMended hw s0 n a b hst htw hwo hce hke (nI l) be ac tg fr mi en cd cl pg (nI j) wp ww ws wn wa wb wst wtw wwo wce wke wsk Φ := by
  unfold wp_X7_stepsIfMended
  obtain ⟨s, u, ea, eb, hu, hs1⟩ := hH
  have em : (1000000 : Int32) - nI s = nI (1000000 - s) := pk_sub (a := 1000000) hs1
  rw [ea, eb, em, show (1000 : Int32) = nI 1000 from rfl, if_min (by omega) (by omega)]
  refine sp_X1_copy hs (by decide) (by decide) (fun st' tw' wo' ce' ke' hs' => ⟨pk_in j 16 hj, rfl, ?_⟩)
  exact sp_X1_go (hP.mj (by decide) hs') (by omega) (by omega) (fun r s1 x1 s2 u2 wo2 ce2 ke2 sk2 _ _ _ _ => h _ _ _ _ _ _ _ _ _ _ _ _ _)
theorem sp_X7_better {x s0 n a b : Int32} {wp : Nat} {ww ws wn wa wb : Int32} {wst wtw wwo wce wke wsk : Nat → Int32} {Φ : PW1} (hP : PJ e g l cl tg cd) (hs : AS hst) (hH : HC a b) (h : AW Φ) : wp_X7_better hw s0 n a b hst htw hwo hce hke (nI l) be ac tg fr mi en cd cl pg x wp ww ws wn wa wb wst wtw wwo wce wke wsk Φ := by
  unfold wp_X7_better
  have hl := hP.2.2.1
  have key : ∀ (m i : Nat) (wp : Nat) (ww ws wn wa wb : Int32) (wst wtw wwo wce wke wsk : Nat → Int32) (y z : Int32), m = l - i → i ≤ l → lf_X7_better_31 hw s0 n a b hst htw hwo hce hke (nI l) be ac tg fr mi en cd cl pg x Φ (m + 1) wp ww ws wn wa wb wst wtw wwo wce wke wsk y z (nI i) := by
    intro m
    induction m with
    | zero =>
      intro i wp ww ws wn wa wb wst wtw wwo wce wke wsk y z hm hi
      show lb_X7_better_31 _ _ _ _ _ _ _ _ _ _ _ _ _ _ _ _ _ _ _ _ _ _ _ _ _ _ _ _ _ _ _ _ _ _ _ _ _ _
      unfold lb_X7_better_31
      exact ⟨fun _ => ⟨fun _ => h _ _ _ _ _ _ _ _ _ _ _ _ _, fun _ => h _ _ _ _ _ _ _ _ _ _ _ _ _, fun _ _ => h _ _ _ _ _ _ _ _ _ _ _ _ _⟩, fun z => absurd (nI_le (by omega) (by omega)) z⟩
    | succ m ih =>
      intro i wp ww ws wn wa wb wst wtw wwo wce wke wsk y z hm hi
      show lb_X7_better_31 _ _ _ _ _ _ _ _ _ _ _ _ _ _ _ _ _ _ _ _ _ _ _ _ _ _ _ _ _ _ _ _ _ _ _ _ _ _
      unfold lb_X7_better_31
      rw [nI_1]
      exact ⟨fun _ => ⟨fun _ => h _ _ _ _ _ _ _ _ _ _ _ _ _, fun _ => h _ _ _ _ _ _ _ _ _ _ _ _ _, fun _ _ => h _ _ _ _ _ _ _ _ _ _ _ _ _⟩, fun _ => sp_X7_stepsIfMended (by omega) hP hs hH (fun r wp ww ws wn wa wb wst wtw wwo wce wke wsk => ⟨fun _ => ih (i + 1) _ _ _ _ _ _ _ _ _ _ _ _ _ _ (by omega) (by omega), fun _ => ih (i + 1) _ _ _ _ _ _ _ _ _ _ _ _ _ _ (by omega) (by omega)⟩)⟩
  have go : ∃ n_, lf_X7_better_31 hw s0 n a b hst htw hwo hce hke (nI l) be ac tg fr mi en cd cl pg x Φ n_ wp ww ws wn wa wb wst wtw wwo wce wke wsk (-1) (-1) 0 := ⟨l - 0 + 1, key (l - 0) 0 _ _ _ _ _ _ _ _ _ _ _ _ _ _ rfl (by omega)⟩
  exact ⟨fun _ => go, fun _ => ⟨fun _ => go, fun _ => h _ _ _ _ _ _ _ _ _ _ _ _ _⟩⟩
abbrev PW2 : Type := Int32 → Nat → Int32 → Int32 → Int32 → Int32 → Int32 → (Nat → Int32) → (Nat → Int32) → (Nat → Int32) → (Nat → Int32) → (Nat → Int32) → (Nat → Int32) → PWq
def AW2 (Φ : PW2) : Prop := ∀ (r : Int32) (wp : Nat) (ww ws wn wa wb : Int32) (wst wtw wwo wce wke wsk : Nat → Int32) (gp : Nat) (gw gs gn ga gb : Int32) (gst gtw gwo gce gke gsk : Nat → Int32), Φ r wp ww ws wn wa wb wst wtw wwo wce wke wsk gp gw gs gn ga gb gst gtw gwo gce gke gsk
theorem sp_X7_apart {wp : Nat} {ww ws wn wa wb : Int32} {wst wtw wwo wce wke wsk : Nat → Int32} {gp : Nat} {gw gs gn ga gb : Int32} {gst gtw gwo gce gke gsk : Nat → Int32} {Φ : PW2} (hP : PJ e g l cl tg cd) (hs : AS hst) (h : AW2 Φ) : wp_X7_apart hst htw (nI e) (nI g) (nI l) be to_ gc le gr ac tg fr mi en cd cl pg wp ww ws wn wa wb wst wtw wwo wce wke wsk gp gw gs gn ga gb gst gtw gwo gce gke gsk Φ := by
  unfold wp_X7_apart
  refine ⟨fun _ => sp_X2_inputCount hP.2.1 (fun r => ⟨r.toNatClampNeg - 0 + 1, ?_⟩), fun _ => h _ _ _ _ _ _ _ _ _ _ _ _ _ _ _ _ _ _ _ _ _ _ _ _ _⟩
  have key : ∀ (m i : Nat) (wp : Nat) (ww ws wn wa wb : Int32) (wst wtw wwo wce wke wsk : Nat → Int32) (gp : Nat) (gw gs gn ga gb : Int32) (gst gtw gwo gce gke gsk : Nat → Int32), m = r.toNatClampNeg - i → i ≤ r.toNatClampNeg → lf_X7_apart_28 hst htw (nI e) (nI g) (nI l) be to_ gc le gr ac tg fr mi en cd cl pg Φ (m + 1) wp ww ws wn wa wb wst wtw wwo wce wke wsk gp gw gs gn ga gb gst gtw gwo gce gke gsk r (nI i) := by
    have hr := cnt_lt r
    intro m
    induction m with
    | zero =>
      intro i wp ww ws wn wa wb wst wtw wwo wce wke wsk gp gw gs gn ga gb gst gtw gwo gce gke gsk hm hi
      show lb_X7_apart_28 _ _ _ _ _ _ _ _ _ _ _ _ _ _ _ _ _ _ _ _ _ _ _ _ _ _ _ _ _ _ _ _ _ _ _ _ _ _ _ _ _ _ _ _ _ _
      unfold lb_X7_apart_28
      exact ⟨fun _ => h _ _ _ _ _ _ _ _ _ _ _ _ _ _ _ _ _ _ _ _ _ _ _ _ _, fun z => absurd (cnt_le (by omega) (by omega)) z⟩
    | succ m ih =>
      intro i wp ww ws wn wa wb wst wtw wwo wce wke wsk gp gw gs gn ga gb gst gtw gwo gce gke gsk hm hi
      show lb_X7_apart_28 _ _ _ _ _ _ _ _ _ _ _ _ _ _ _ _ _ _ _ _ _ _ _ _ _ _ _ _ _ _ _ _ _ _ _ _ _ _ _ _ _ _ _ _ _ _
      unfold lb_X7_apart_28
      rw [nI_1]
      exact ⟨fun _ => h _ _ _ _ _ _ _ _ _ _ _ _ _ _ _ _ _ _ _ _ _ _ _ _ _, fun _ => sp_X7_walk hP (by decide) hs (fun _ _ _ _ _ _ _ _ _ _ => sp_X7_walk hP (by decide) hs (fun _ _ _ _ _ _ _ _ _ _ => sp_X1_wroteLike (by decide) ⟨fun z => absurd rfl z, fun _ => h _ _ _ _ _ _ _ _ _ _ _ _ _ _ _ _ _ _ _ _ _ _ _ _ _⟩ ⟨fun _ => ih (i + 1) _ _ _ _ _ _ _ _ _ _ _ _ _ _ _ _ _ _ _ _ _ _ _ _ (by omega) (by omega), fun z => absurd z (by decide)⟩))⟩
  exact key (r.toNatClampNeg - 0) 0 _ _ _ _ _ _ _ _ _ _ _ _ _ _ _ _ _ _ _ _ _ _ _ _ rfl (by omega)
end F1
end
section
section LY
variable {s l pg : Nat} {be co pk : Nat → Int32} {ro : Nat → Nat → Int32}
theorem sp_X0_leastCost {x : Int32} {Φ : Int32 → Prop} (hx : vp_in x 65) (h : ∀ r, Φ r) : wp_X0_leastCost ro x Φ := ⟨hx, fun _ => h _, fun _ => ⟨hx, h _⟩⟩
theorem sp_X0_find {a r : Nat} {u v : Int32} {Φ : Int32 → Int32 → Int32 → Prop} (hs : s ≤ 4) (ha : a < 16) (hr : r ≤ 64) (h : ∀ (b u' : Int32) (t : Nat), t ≤ r → Φ b u' (nI t)) : wp_X0_find pk ro (nI s) be co (nI a) (nI r) u v Φ := by
  have k31 : ∀ (κ : Int32 → Int32 → Int32 → Int32 → Prop) (i : Nat), i < 4 → (∀ (u b : Int32) (t : Nat), t ≤ r → κ u (nI t) b (nI (i + 1))) → ∀ (m t : Nat) (u b : Int32) (lt : Nat), m = 5 - t → t ≤ 5 → lt ≤ r → lf_X0_find_31 pk ro (nI s) be co (nI a) (nI r) κ Φ (m + 1) u (nI lt) b (nI i) (nI t) := by
    intro κ i hi hκ m
    induction m with
    | zero =>
      intro t u b lt hm ht hlt
      have et : t = 5 := by omega
      subst et
      show lb_X0_find_31 _ _ _ _ _ _ _ _ _ _ _ _ _ _ _
      unfold lb_X0_find_31
      rw [nI_1]
      exact ⟨fun _ => hκ _ _ _ hlt, fun z => absurd (by decide) z⟩
    | succ m ih =>
      intro t u b lt hm ht hlt
      show lb_X0_find_31 _ _ _ _ _ _ _ _ _ _ _ _ _ _ _
      unfold lb_X0_find_31
      rw [nI_1, nI_1, nI_1]
      refine ⟨fun _ => hκ _ _ _ hlt, fun _ => pk_lt r t (fun _ => hκ _ _ _ hlt) (fun htr => ?_)⟩
      rw [pk_sub htr]
      exact ⟨pk_in i 4 hi, pk_in (a + 1) 17 (by omega), pk_in (r - t) 65 (by omega), pk_in i 4 hi, pk_in a 16 ha, fun _ => ih (t + 1) _ _ _ (by omega) (by omega) hlt, fun _ => ⟨fun _ => ih (t + 1) _ _ _ (by omega) (by omega) hlt, fun _ => ih (t + 1) _ _ t (by omega) (by omega) htr⟩⟩
  have k16 : ∀ (m i : Nat) (u b : Int32) (lt : Nat), m = s - i → i ≤ s → lt ≤ r → lf_X0_find_16 pk ro (nI s) be co (nI a) (nI r) Φ (m + 1) u (nI lt) b (nI i) := by
    intro m
    induction m with
    | zero =>
      intro i u b lt hm hi hlt
      show lb_X0_find_16 _ _ _ _ _ _ _ _ _ _ _ _ _
      unfold lb_X0_find_16
      exact ⟨fun _ => h _ _ _ hlt, fun z => absurd (nI_le (by omega) (by omega)) z⟩
    | succ m ih =>
      intro i u b lt hm hi hlt
      show lb_X0_find_16 _ _ _ _ _ _ _ _ _ _ _ _ _
      unfold lb_X0_find_16
      exact ⟨fun _ => h _ _ _ hlt, fun _ => ⟨5 - 1 + 1, k31 _ i (by omega) (fun u b t ht => ih (i + 1) u b t (by omega) (by omega) ht) (5 - 1) 1 u b lt rfl (by decide) hlt⟩⟩
  exact ⟨s - 0 + 1, k16 (s - 0) 0 _ _ 0 rfl (by omega) (by omega)⟩
theorem sp_X0_choose {r j : Nat} {u v : Int32} {Φ : Int32 → Int32 → Prop} (hs : s ≤ 4) (hj : j < 16) (hr : r ≤ 64) (h : ∀ u' v', Φ u' v') : wp_X0_choose pk ro (nI s) be co (nI r) (nI j) u v Φ := by
  have key : ∀ (m i q : Nat) (u v : Int32), m = j + 1 - i → i ≤ j + 1 → q ≤ 64 → lf_X0_choose_5 pk ro (nI s) be co (nI r) (nI j) Φ (m + 1) u v (nI q) (nI i) := by
    intro m
    induction m with
    | zero =>
      intro i q u v hm hi hq
      show lb_X0_choose_5 _ _ _ _ _ _ _ _ _ _ _ _ _
      unfold lb_X0_choose_5
      exact ⟨fun _ => h _ _, fun z => absurd (nI_lt (by omega) (by omega)) z⟩
    | succ m ih =>
      intro i q u v hm hi hq
      show lb_X0_choose_5 _ _ _ _ _ _ _ _ _ _ _ _ _
      unfold lb_X0_choose_5
      rw [nI_1]
      exact ⟨fun _ => h _ _, fun _ => ⟨fun _ => h _ _, fun _ => sp_X0_find hs (by omega) hq (fun b u' t ht => by rw [pk_sub ht]; exact ih (i + 1) (q - t) _ _ (by omega) (by omega) (by omega))⟩⟩
  exact ⟨j + 1 - 0 + 1, key (j + 1 - 0) 0 r u v rfl (by omega) hr⟩
theorem sp_X0_make {ap : Nat → Int32} {lp : Nat} {u v : Int32} {Φ : Nat → Int32 → Int32 → (Nat → Int32) → (Nat → Nat → Int32) → Prop} (hs : s ≤ 4) (hl : l ≤ 16) (h : ∀ u' v' pk' ro', Φ pg u' v' pk' ro') : wp_X0_make ap (nI s) (nI l) be co pg lp u v pk ro Φ := by
  unfold wp_X0_make
  rw [Int32.sub_eq_add_neg]
  have k50 : ∀ (κ : Nat → Int32 → Int32 → (Nat → Int32) → (Nat → Nat → Int32) → Int32 → Prop) (i : Nat), i < 16 → (∀ u v pk ro, κ pg u v pk ro (nI i + (-1))) → ∀ (m j : Nat) (u v : Int32) (pk : Nat → Int32) (ro : Nat → Nat → Int32), m = 65 - j → j ≤ 65 → lf_X0_make_50 ap (nI s) (nI l) be co pg κ Φ (m + 1) pg u v pk ro (nI i) (nI j) := by
    intro κ i hi hκ m
    induction m with
    | zero =>
      intro j u v pk ro hm hj
      have ej : j = 65 := by omega
      subst ej
      show lb_X0_make_50 _ _ _ _ _ _ _ _ _ _ _ _ _ _ _ _
      unfold lb_X0_make_50
      exact ⟨fun _ => hκ _ _ _ _, fun z => absurd (by decide) z⟩
    | succ m ih =>
      intro j u v pk ro hm hj
      show lb_X0_make_50 _ _ _ _ _ _ _ _ _ _ _ _ _ _ _ _
      unfold lb_X0_make_50
      rw [nI_1]
      exact ⟨fun _ => hκ _ _ _ _, fun _ => ⟨pk_in i 17 (by omega), rfl, sp_X0_find hs hi (by omega) (fun b u' t _ => ⟨pk_in j 65 (by omega), ih (j + 1) _ _ _ _ (by omega) (by omega)⟩)⟩⟩
  have k43 : ∀ (m : Nat) (u v : Int32) (pk : Nat → Int32) (ro : Nat → Nat → Int32), m ≤ 16 → lf_X0_make_43 ap (nI s) (nI l) be co pg Φ (m + 1) pg u v pk ro (nI m + -1) := by
    intro m
    induction m with
    | zero =>
      intro u v pk ro hm
      show lb_X0_make_43 _ _ _ _ _ _ _ _ _ _ _ _ _ _
      unfold lb_X0_make_43
      exact ⟨fun _ => h _ _ _ _, fun z => absurd (by decide) z⟩
    | succ m ih =>
      intro u v pk ro hm
      show lb_X0_make_43 _ _ _ _ _ _ _ _ _ _ _ _ _ _
      unfold lb_X0_make_43
      rw [pk_m1]
      exact ⟨fun z => absurd z (nI_pos (by omega)), fun _ => ⟨65 - 0 + 1, k50 _ m (by omega) (fun u v pk ro => ih u v pk ro (by omega)) (65 - 0) 0 u v pk ro rfl (by decide)⟩⟩
  exact ⟨pk_in l 17 (by omega), sp_fill (by decide) (fun ar => ⟨l + 1, k43 l _ _ _ _ hl⟩)⟩
end LY
section SV
variable {s e g l cl pg : Nat} {hst htw be co to_ gc le gr ac tg fr mi en cd : Nat → Int32}
theorem sp_X4_open {of : Option Nat} {n : Int32} {a b c : Nat → Int32} {Φ : Option Nat → Int32 → (Nat → Int32) → (Nat → Int32) → (Nat → Int32) → Prop} (h : ∀ a' b' c', Φ (some pg) 0 a' b' c') : wp_X4_open pg of n a b c Φ :=
  sp_fill (by decide) (fun a' => sp_fill (by decide) (fun b' => sp_fill (by decide) (fun c' => h a' b' c')))
abbrev PAd : Type := Int32 → (Nat → Int32) → (Nat → Int32) → (Nat → Int32) → (Nat → Int32) → Int32 → Int32 → Int32 → Int32 → Int32 → (Nat → Int32) → (Nat → Int32) → (Nat → Int32) → (Nat → Int32) → Prop
theorem sp_X4_add {x sn ww ws wn wa wb : Int32} {so2 sb sp sv wst wtw wwo wce wke wsk : Nat → Int32} {Φ : PAd} (hP : PJ e g l cl tg cd) (hs : AS wst) (h : ∀ (sn : Int32) (so2 sb sp sv : Nat → Int32) (ww ws wn wa wb : Int32) (wwo wce wke wsk : Nat → Int32), Φ sn so2 sb sp sv ww ws wn wa wb wwo wce wke wsk) : wp_X4_add wst wtw (nI e) (nI g) (nI l) be to_ gc le gr ac tg fr mi en cd 1000 cl x sn so2 sb sp sv ww ws wn wa wb wwo wce wke wsk Φ := by
  unfold wp_X4_add
  have hl := hP.2.2.1
  have k116 : ∀ (m i : Nat) (sn : Int32) (so2 sb sp sv : Nat → Int32) (ww ws wn wa wb : Int32) (wwo wce wke wsk : Nat → Int32), m = l - i → i ≤ l → lf_X4_add_116 wst wtw (nI e) (nI g) (nI l) be to_ gc le gr ac tg fr mi en cd 1000 cl x Φ (m + 1) sn so2 sb sp sv ww ws wn wa wb wwo wce wke wsk (nI i) := by
    intro m
    induction m with
    | zero =>
      intro i sn so2 sb sp sv ww ws wn wa wb wwo wce wke wsk hm hi
      show lb_X4_add_116 _ _ _ _ _ _ _ _ _ _ _ _ _ _ _ _ _ _ _ _ _ _ _ _ _ _ _ _ _ _ _ _ _ _ _ _
      unfold lb_X4_add_116
      exact ⟨fun _ => h _ _ _ _ _ _ _ _ _ _ _ _ _ _, fun z => absurd (nI_le (by omega) (by omega)) z⟩
    | succ m ih =>
      intro i sn so2 sb sp sv ww ws wn wa wb wwo wce wke wsk hm hi
      show lb_X4_add_116 _ _ _ _ _ _ _ _ _ _ _ _ _ _ _ _ _ _ _ _ _ _ _ _ _ _ _ _ _ _ _ _ _ _ _ _
      unfold lb_X4_add_116
      rw [nI_1]
      have ii : vp_in (nI i) 16 := pk_in i 16 (by omega)
      exact ⟨fun _ => h _ _ _ _ _ _ _ _ _ _ _ _ _ _, fun _ => ⟨ii, ii, fun _ => ih (i + 1) _ _ _ _ _ _ _ _ _ _ _ _ _ _ (by omega) (by omega), fun _ => ⟨ii, ii, ii, ih (i + 1) _ _ _ _ _ _ _ _ _ _ _ _ _ _ (by omega) (by omega)⟩⟩⟩
  have e116 : ∀ (sn : Int32) (so2 sb sp sv : Nat → Int32) (ww ws wn wa wb : Int32) (wwo wce wke wsk : Nat → Int32), ∃ n_, lf_X4_add_116 wst wtw (nI e) (nI g) (nI l) be to_ gc le gr ac tg fr mi en cd 1000 cl x Φ n_ sn so2 sb sp sv ww ws wn wa wb wwo wce wke wsk 0 := fun sn so2 sb sp sv ww ws wn wa wb wwo wce wke wsk => ⟨l - 0 + 1, k116 (l - 0) 0 sn so2 sb sp sv ww ws wn wa wb wwo wce wke wsk rfl (by omega)⟩
  have k28 : ∀ (m i : Nat) (sn : Int32) (so2 sb sp sv : Nat → Int32) (ww ws wn : Int32) (a b : Nat) (wwo wce wke wsk : Nat → Int32), m = 1000 - i → i ≤ 1000 → b ≤ i → lf_X4_add_28 wst wtw (nI e) (nI g) (nI l) be to_ gc le gr ac tg fr mi en cd 1000 cl x Φ (m + 1) sn so2 sb sp sv ww ws wn (nI a) (nI b) wwo wce wke wsk (nI i) := by
    intro m
    induction m with
    | zero =>
      intro i sn so2 sb sp sv ww ws wn a b wwo wce wke wsk hm hi hb
      have ei : i = 1000 := by omega
      subst ei
      show lb_X4_add_28 _ _ _ _ _ _ _ _ _ _ _ _ _ _ _ _ _ _ _ _ _ _ _ _ _ _ _ _ _ _ _ _ _ _ _ _
      unfold lb_X4_add_28
      exact ⟨fun _ => sp_X1_isEndless ⟨Or.inl rfl, e116 _ _ _ _ _ _ _ _ _ _ _ _ _ _⟩ ⟨Or.inr rfl, e116 _ _ _ _ _ _ _ _ _ _ _ _ _ _⟩, fun z => absurd (by decide) z⟩
    | succ m ih =>
      intro i sn so2 sb sp sv ww ws wn a b wwo wce wke wsk hm hi hb
      show lb_X4_add_28 _ _ _ _ _ _ _ _ _ _ _ _ _ _ _ _ _ _ _ _ _ _ _ _ _ _ _ _ _ _ _ _ _ _ _ _
      unfold lb_X4_add_28
      rw [nI_1]
      refine ⟨fun _ => sp_X1_isEndless ⟨Or.inl rfl, e116 _ _ _ _ _ _ _ _ _ _ _ _ _ _⟩ ⟨Or.inr rfl, e116 _ _ _ _ _ _ _ _ _ _ _ _ _ _⟩, fun _ => sp_X7_within ⟨fun _ => sp_X1_isEndless ⟨Or.inl rfl, e116 _ _ _ _ _ _ _ _ _ _ _ _ _ _⟩ ⟨Or.inr rfl, e116 _ _ _ _ _ _ _ _ _ _ _ _ _ _⟩, fun z => absurd rfl z⟩ (fun y z => ⟨fun z => absurd z (by decide), fun _ => ?_⟩)⟩
      have ii := inO hl (by decide) y z
      exact ⟨ii, ii, ii, ii, ii, sp_X1_step (hP.mj (by decide) hs) (by omega) (fun r s1 x1 s2 u2 wo2 ce2 ke2 sk2 h1 h2 h3 h4 => ih (i + 1) _ _ _ _ _ _ _ _ s2 u2 _ _ _ _ (by omega) (by omega) (by omega))⟩
  exact sp_fill (by decide) (fun a1 => sp_fill (by decide) (fun a2 => sp_X1_start hP.1 hP.2.1 (fun ce' => ⟨1000 - 0 + 1, k28 (1000 - 0) 0 _ _ _ _ _ _ _ _ 0 0 _ _ _ _ rfl (by decide) (by decide)⟩)))
abbrev PSv : Type := Int32 → Nat → Int32 → Int32 → Int32 → Int32 → Int32 → (Nat → Int32) → (Nat → Int32) → (Nat → Int32) → (Nat → Int32) → (Nat → Int32) → (Nat → Int32) → Option Nat → Int32 → (Nat → Int32) → (Nat → Int32) → (Nat → Int32) → (Nat → Int32) → Nat → Int32 → Int32 → (Nat → Int32) → (Nat → Nat → Int32) → Prop
/-- what was surveyed last is what is laid out -/
def SO (sf : Option Nat) (lp : Nat) : Prop := ∀ a, sf = some a → lp = a
def AV2 (pg : Nat) (Φ : PSv) : Prop := ∀ (r : Int32) (wp : Nat) (ww ws wn wa wb : Int32) (wst wtw wwo wce wke wsk : Nat → Int32) (sf : Option Nat) (sn : Int32) (so2 sb sp sv : Nat → Int32) (lp : Nat) (lu lt : Int32) (lk : Nat → Int32) (lr : Nat → Nat → Int32), SO sf lp → (¬ r = 0 → lp = pg) → Φ r wp ww ws wn wa wb wst wtw wwo wce wke wsk sf sn so2 sb sp sv lp lu lt lk lr
theorem sp_X7_surveyed {wp : Nat} {ww ws wn wa wb : Int32} {wst wtw wwo wce wke wsk : Nat → Int32} {sf : Option Nat} {sn : Int32} {so2 sb sp sv : Nat → Int32} {lp : Nat} {lu lt : Int32} {lk : Nat → Int32} {lr : Nat → Nat → Int32} {Φ : PSv} (hs4 : s ≤ 4) (hP : PJ e g l cl tg cd) (hs : AS hst) (hO : SO sf lp) (h : AV2 pg Φ) : wp_X7_surveyed hst htw (nI s) (nI e) (nI g) (nI l) be co to_ gc le gr ac tg fr mi en cd cl pg wp ww ws wn wa wb wst wtw wwo wce wke wsk sf sn so2 sb sp sv lp lu lt lk lr Φ := by
  unfold wp_X7_surveyed
  refine ⟨fun _ => ⟨fun e => ⟨fun _ => h _ _ _ _ _ _ _ _ _ _ _ _ _ _ _ _ _ _ _ _ _ _ _ _ hO (fun _ => hO _ e), fun _ => h _ _ _ _ _ _ _ _ _ _ _ _ _ _ _ _ _ _ _ _ _ _ _ _ hO (fun _ => hO _ e)⟩, fun _ => ?_⟩, fun _ => h _ _ _ _ _ _ _ _ _ _ _ _ _ _ _ _ _ _ _ _ _ _ _ _ hO (fun z => absurd rfl z)⟩
  refine sp_X4_open (fun a' b' c' => sp_X1_layLike hs (fun st' tw' wo' hs' => sp_X2_inputCount hP.2.1 (fun r => ⟨r.toNatClampNeg - 0 + 1, ?_⟩)))
  have k103 : ∀ (ww ws wn wa wb : Int32) (wtw wwo wce wke wsk : Nat → Int32) (sn : Int32) (so2 sb sp sv : Nat → Int32), kf_X7_surveyed_103 hst htw (nI s) (nI e) (nI g) (nI l) be co to_ gc le gr ac tg fr mi en cd cl pg Φ pg ww ws wn wa wb st' wtw wwo wce wke wsk (some pg) sn so2 sb sp sv lp lu lt lk lr := by
    intro ww ws wn wa wb wtw wwo wce wke wsk sn so2 sb sp sv
    unfold kf_X7_surveyed_103
    have o : SO (some pg) pg := fun a e => Option.some.inj e
    exact sp_X0_make hs4 hP.2.2.1 (fun u' v' pk' ro' => ⟨fun _ => h _ _ _ _ _ _ _ _ _ _ _ _ _ _ _ _ _ _ _ _ _ _ _ _ o (fun _ => rfl), fun _ => h _ _ _ _ _ _ _ _ _ _ _ _ _ _ _ _ _ _ _ _ _ _ _ _ o (fun _ => rfl)⟩)
  have key : ∀ (m i : Nat) (ww ws wn wa wb : Int32) (wtw wwo wce wke wsk : Nat → Int32) (sn : Int32) (so2 sb sp sv : Nat → Int32), m = r.toNatClampNeg - i → i ≤ r.toNatClampNeg → lf_X7_surveyed_70 hst htw (nI s) (nI e) (nI g) (nI l) be co to_ gc le gr ac tg fr mi en cd cl pg Φ (m + 1) pg ww ws wn wa wb st' wtw wwo wce wke wsk (some pg) sn so2 sb sp sv lp lu lt lk lr r (nI i) := by
    have hr := cnt_lt r
    intro m
    induction m with
    | zero =>
      intro i ww ws wn wa wb wtw wwo wce wke wsk sn so2 sb sp sv hm hi
      show lb_X7_surveyed_70 _ _ _ _ _ _ _ _ _ _ _ _ _ _ _ _ _ _ _ _ _ _ _ _ _ _ _ _ _ _ _ _ _ _ _ _ _ _ _ _ _ _ _ _ _ _ _
      unfold lb_X7_surveyed_70
      exact ⟨fun _ => k103 _ _ _ _ _ _ _ _ _ _ _ _ _ _ _, fun z => absurd (cnt_le (by omega) (by omega)) z⟩
    | succ m ih =>
      intro i ww ws wn wa wb wtw wwo wce wke wsk sn so2 sb sp sv hm hi
      show lb_X7_surveyed_70 _ _ _ _ _ _ _ _ _ _ _ _ _ _ _ _ _ _ _ _ _ _ _ _ _ _ _ _ _ _ _ _ _ _ _ _ _ _ _ _ _ _ _ _ _ _ _
      unfold lb_X7_surveyed_70
      rw [nI_1]
      exact ⟨fun _ => k103 _ _ _ _ _ _ _ _ _ _ _ _ _ _ _, fun _ => ⟨fun _ => k103 _ _ _ _ _ _ _ _ _ _ _ _ _ _ _, fun _ => ⟨rfl, sp_X4_add hP hs' (fun sn so2 sb sp sv ww ws wn wa wb wwo wce wke wsk => ih (i + 1) _ _ _ _ _ _ _ _ _ _ _ _ _ _ _ (by omega) (by omega))⟩⟩⟩
  exact key (r.toNatClampNeg - 0) 0 _ _ _ _ _ _ _ _ _ _ _ _ _ _ _ rfl (by omega)
def AV3 (Φ : PSv) : Prop := ∀ (r : Int32) (wp : Nat) (ww ws wn wa wb : Int32) (wst wtw wwo wce wke wsk : Nat → Int32) (sf : Option Nat) (sn : Int32) (so2 sb sp sv : Nat → Int32) (lp : Nat) (lu lt : Int32) (lk : Nat → Int32) (lr : Nat → Nat → Int32), SO sf lp → Φ r wp ww ws wn wa wb wst wtw wwo wce wke wsk sf sn so2 sb sp sv lp lu lt lk lr
theorem sp_X7_most {x y : Int32} {wp : Nat} {ww ws wn wa wb : Int32} {wst wtw wwo wce wke wsk : Nat → Int32} {sf : Option Nat} {sn : Int32} {so2 sb sp sv : Nat → Int32} {lp : Nat} {lu lt : Int32} {lk : Nat → Int32} {lr : Nat → Nat → Int32} {Φ : PSv} (hs4 : s ≤ 4) (hP : PJ e g l cl tg cd) (hs : AS hst) (hO : SO sf lp) (h : AV3 Φ) : wp_X7_most hst htw (nI s) (nI e) (nI g) (nI l) be co to_ gc le gr ac tg fr mi en cd cl pg x y wp ww ws wn wa wb wst wtw wwo wce wke wsk sf sn so2 sb sp sv lp lu lt lk lr Φ := by
  unfold wp_X7_most
  refine sp_X7_within ⟨fun _ => h _ _ _ _ _ _ _ _ _ _ _ _ _ _ _ _ _ _ _ _ _ _ _ _ hO, fun z => absurd rfl z⟩ (fun a b => ⟨fun _ => h _ _ _ _ _ _ _ _ _ _ _ _ _ _ _ _ _ _ _ _ _ _ _ _ hO, fun _ => sp_X7_surveyed hs4 hP hs hO (fun r wp ww ws wn wa wb wst wtw wwo wce wke wsk sf sn so2 sb sp sv lp lu lt lk lr hO' _ => ⟨fun _ => ?_, fun _ => h _ _ _ _ _ _ _ _ _ _ _ _ _ _ _ _ _ _ _ _ _ _ _ _ hO'⟩)⟩)
  have ii := inO hP.2.2.1 (by decide) a b
  exact ⟨fun _ => ⟨ii, h _ _ _ _ _ _ _ _ _ _ _ _ _ _ _ _ _ _ _ _ _ _ _ _ hO'⟩, fun _ => ⟨ii, h _ _ _ _ _ _ _ _ _ _ _ _ _ _ _ _ _ _ _ _ _ _ _ _ hO'⟩, fun _ => ⟨ii, h _ _ _ _ _ _ _ _ _ _ _ _ _ _ _ _ _ _ _ _ _ _ _ _ hO'⟩, fun _ => h _ _ _ _ _ _ _ _ _ _ _ _ _ _ _ _ _ _ _ _ _ _ _ _ hO'⟩
theorem sp_X7_never {wp : Nat} {ww ws wn wa wb : Int32} {wst wtw wwo wce wke wsk : Nat → Int32} {sf : Option Nat} {sn : Int32} {so2 sb sp sv : Nat → Int32} {lp : Nat} {lu lt : Int32} {lk : Nat → Int32} {lr : Nat → Nat → Int32} {Φ : PSv} (hs4 : s ≤ 4) (hP : PJ e g l cl tg cd) (hs : AS hst) (hO : SO sf lp) (h : AV3 Φ) : wp_X7_never hst htw (nI s) (nI e) (nI g) (nI l) be co to_ gc le gr ac tg fr mi en cd cl pg wp ww ws wn wa wb wst wtw wwo wce wke wsk sf sn so2 sb sp sv lp lu lt lk lr Φ := by
  unfold wp_X7_never
  have hl := hP.2.2.1
  refine sp_X7_surveyed hs4 hP hs hO (fun r wp ww ws wn wa wb wst wtw wwo wce wke wsk sf sn so2 sb sp sv lp lu lt lk lr hO' _ => ⟨fun _ => ⟨l - 0 + 1, ?_⟩, fun _ => h _ _ _ _ _ _ _ _ _ _ _ _ _ _ _ _ _ _ _ _ _ _ _ _ hO'⟩)
  have key : ∀ (m i : Nat) (y : Int32), m = l - i → i ≤ l → lf_X7_never_13 hst htw (nI s) (nI e) (nI g) (nI l) be co to_ gc le gr ac tg fr mi en cd cl pg Φ (m + 1) wp ww ws wn wa wb wst wtw wwo wce wke wsk sf sn so2 sb sp sv lp lu lt lk lr y (nI i) := by
    intro m
    induction m with
    | zero =>
      intro i y hm hi
      show lb_X7_never_13 _ _ _ _ _ _ _ _ _ _ _ _ _ _ _ _ _ _ _ _ _ _ _ _ _ _ _ _ _ _ _ _ _ _ _ _ _ _ _ _ _ _ _ _ _ _ _
      unfold lb_X7_never_13
      exact ⟨fun _ => h _ _ _ _ _ _ _ _ _ _ _ _ _ _ _ _ _ _ _ _ _ _ _ _ hO', fun z => absurd (nI_le (by omega) (by omega)) z⟩
    | succ m ih =>
      intro i y hm hi
      show lb_X7_never_13 _ _ _ _ _ _ _ _ _ _ _ _ _ _ _ _ _ _ _ _ _ _ _ _ _ _ _ _ _ _ _ _ _ _ _ _ _ _ _ _ _ _ _ _ _ _ _
      unfold lb_X7_never_13
      rw [nI_1]
      exact ⟨fun _ => h _ _ _ _ _ _ _ _ _ _ _ _ _ _ _ _ _ _ _ _ _ _ _ _ hO', fun _ => ⟨pk_in i 16 (by omega), fun _ => ih (i + 1) _ (by omega) (by omega), fun _ => ih (i + 1) _ (by omega) (by omega)⟩⟩
  exact key (l - 0) 0 _ rfl (by omega)
theorem sp_X7_canLast {x : Int32} {wp : Nat} {ww ws wn wa wb : Int32} {wst wtw wwo wce wke wsk : Nat → Int32} {sf : Option Nat} {sn : Int32} {so2 sb sp sv : Nat → Int32} {lp : Nat} {lu lt : Int32} {lk : Nat → Int32} {lr : Nat → Nat → Int32} {Φ : PSv} (hs4 : s ≤ 4) (hP : PJ e g l cl tg cd) (hs : AS hst) (hO : SO sf lp) (h : ∀ (r : Int32) (wp : Nat) (ww ws wn wa wb : Int32) (wst wtw wwo wce wke wsk : Nat → Int32) (sf : Option Nat) (sn : Int32) (so2 sb sp sv : Nat → Int32) (lp : Nat) (lu lt : Int32) (lk : Nat → Int32) (lr : Nat → Nat → Int32), SO sf lp → (¬ r = 0 → lp = pg ∧ ∃ j : Nat, j ≤ 64 ∧ x = nI j) → Φ r wp ww ws wn wa wb wst wtw wwo wce wke wsk sf sn so2 sb sp sv lp lu lt lk lr) : wp_X7_canLast hst htw (nI s) (nI e) (nI g) (nI l) be co to_ gc le gr ac tg fr mi en cd cl pg x wp ww ws wn wa wb wst wtw wwo wce wke wsk sf sn so2 sb sp sv lp lu lt lk lr Φ := by
  unfold wp_X7_canLast
  refine ⟨fun _ => h _ _ _ _ _ _ _ _ _ _ _ _ _ _ _ _ _ _ _ _ _ _ _ _ hO (fun z => absurd rfl z), fun x1 => ⟨fun _ => h _ _ _ _ _ _ _ _ _ _ _ _ _ _ _ _ _ _ _ _ _ _ _ _ hO (fun z => absurd rfl z), fun x2 => ?_⟩⟩
  have hx : ∃ j : Nat, j ≤ 64 ∧ x = nI j := nI_of2 (M := 64) (n := 64) (by decide) (fun z => x1 (Int32.lt_trans z (by decide))) (Int32.not_lt.mp x2)
  obtain ⟨j, hj, ej⟩ := hx
  refine sp_X7_surveyed hs4 hP hs hO (fun r wp ww ws wn wa wb wst wtw wwo wce wke wsk sf sn so2 sb sp sv lp lu lt lk lr hO' h1 => ⟨fun _ => h _ _ _ _ _ _ _ _ _ _ _ _ _ _ _ _ _ _ _ _ _ _ _ _ hO' (fun z => absurd rfl z), fun z => ?_⟩)
  exact sp_X0_leastCost (pk_in j 65 (by omega) ej) (fun r => ⟨fun _ => h _ _ _ _ _ _ _ _ _ _ _ _ _ _ _ _ _ _ _ _ _ _ _ _ hO' (fun z => absurd rfl z), fun _ => h _ _ _ _ _ _ _ _ _ _ _ _ _ _ _ _ _ _ _ _ _ _ _ _ hO' (fun _ => ⟨h1 z, j, hj, ej⟩)⟩)
theorem sp_X7_lasting {x : Int32} {wp : Nat} {ww ws wn wa wb : Int32} {wst wtw wwo wce wke wsk : Nat → Int32} {sf : Option Nat} {sn : Int32} {so2 sb sp sv : Nat → Int32} {lp : Nat} {lu lt : Int32} {lk : Nat → Int32} {lr : Nat → Nat → Int32} {Φ : PSv} (hs4 : s ≤ 4) (hP : PJ e g l cl tg cd) (hs : AS hst) (hO : SO sf lp) (h : AV3 Φ) : wp_X7_lasting hst htw (nI s) (nI e) (nI g) (nI l) be co to_ gc le gr ac tg fr mi en cd cl pg x wp ww ws wn wa wb wst wtw wwo wce wke wsk sf sn so2 sb sp sv lp lu lt lk lr Φ := by
  unfold wp_X7_lasting
  refine sp_X7_canLast hs4 hP hs hO (fun r wp ww ws wn wa wb wst wtw wwo wce wke wsk sf sn so2 sb sp sv lp lu lt lk lr hO' h1 => ⟨fun _ => h _ _ _ _ _ _ _ _ _ _ _ _ _ _ _ _ _ _ _ _ _ _ _ _ hO', fun z => ?_⟩)
  obtain ⟨_, j, hj, ej⟩ := h1 z
  exact sp_X0_leastCost (pk_in j 65 (by omega) ej) (fun r => h _ _ _ _ _ _ _ _ _ _ _ _ _ _ _ _ _ _ _ _ _ _ _ _ hO')
theorem sp_X7_lasts {x y z : Int32} {wp : Nat} {ww ws wn wa wb : Int32} {wst wtw wwo wce wke wsk : Nat → Int32} {sf : Option Nat} {sn : Int32} {so2 sb sp sv : Nat → Int32} {lp : Nat} {lu lt : Int32} {lk : Nat → Int32} {lr : Nat → Nat → Int32} {Φ : PSv} (hs4 : s ≤ 4) (hP : PJ e g l cl tg cd) (hs : AS hst) (hO : SO sf lp) (h : AV3 Φ) : wp_X7_lasts hst htw (nI s) (nI e) (nI g) (nI l) be co to_ gc le gr ac tg fr mi en cd cl pg x y z wp ww ws wn wa wb wst wtw wwo wce wke wsk sf sn so2 sb sp sv lp lu lt lk lr Φ := by
  unfold wp_X7_lasts
  refine sp_X7_canLast hs4 hP hs hO (fun r wp ww ws wn wa wb wst wtw wwo wce wke wsk sf sn so2 sb sp sv lp lu lt lk lr hO' h1 => ⟨fun _ => h _ _ _ _ _ _ _ _ _ _ _ _ _ _ _ _ _ _ _ _ _ _ _ _ hO', fun nz => sp_X7_within ⟨fun z => absurd rfl z, fun _ => h _ _ _ _ _ _ _ _ _ _ _ _ _ _ _ _ _ _ _ _ _ _ _ _ hO'⟩ (fun a b => ⟨fun _ => ?_, fun z => absurd z (by decide)⟩)⟩)
  obtain ⟨e1, j, hj, ej⟩ := h1 nz
  obtain ⟨i, hi, ei, _⟩ := pk_mu a b (by have := hP.2.2.1; omega)
  have hl := hP.2.2.1
  have hO2 : SO sf pg := e1 ▸ hO'
  refine ⟨e1.symm, ?_⟩
  rw [ej, ei]
  exact sp_X0_choose hs4 (by omega) hj (fun u' v' => ⟨fun _ => h _ _ _ _ _ _ _ _ _ _ _ _ _ _ _ _ _ _ _ _ _ _ _ _ hO2, fun _ => h _ _ _ _ _ _ _ _ _ _ _ _ _ _ _ _ _ _ _ _ _ _ _ _ hO2, fun _ _ => h _ _ _ _ _ _ _ _ _ _ _ _ _ _ _ _ _ _ _ _ _ _ _ _ hO2⟩)
end SV
end
section
theorem sp_E {x : Int32} {Φ : Int32 → Prop} (h : ∀ r, Φ r) : wp_X1_isEndless x Φ := sp_X1_isEndless (h 0) (h 1)
section SA
variable {e g l cl pg e2 g2 l2 cl2 kp : Nat} {hst htw kst ktw bm be to_ gc le gr ac tg fr mi en cd be2 to2 gc2 le2 gr2 ac2 tg2 fr2 mi2 en2 cd2 : Nat → Int32}
theorem sp_X7_comparable {Φ : Int32 → Prop} (hg : g ≤ 2) (hg2 : g2 ≤ 2) (h0 : Φ 0) (h1 : Φ 1) : wp_X7_comparable (nI g) (nI l) le gr (nI g2) (nI l2) le2 gr2 Φ := by
  unfold wp_X7_comparable
  exact ⟨fun _ => h0, fun _ => ⟨fun _ => h0, fun _ => sp_X2_inputCount hg (fun r => sp_X2_inputCount hg2 (fun r2 => ⟨fun _ => h0, fun _ => h1⟩))⟩⟩
theorem sp_X7_samex {x : Int32} {Φ : Int32 → Prop} (hx : x < 0 ∨ 4 ≤ x) (h : ∀ r, Φ r) : wp_X7_samex bm x Φ := by
  unfold wp_X7_samex
  exact sp_X7_within ⟨fun _ => h _, fun z => absurd rfl z⟩ (fun a b => absurd hx (fun z => z.elim a b))
theorem sp_X7_same0 {wp : Nat} {ww ws wn wa wb : Int32} {wst wtw wwo wce wke wsk : Nat → Int32} {gp : Nat} {gw gs gn ga gb : Int32} {gst gtw gwo gce gke gsk : Nat → Int32} {Φ : PW2} (hP : PJ e g l cl tg cd) (hP2 : PJ e2 g2 l2 cl2 tg2 cd2) (hs : AS hst) (hs2 : AS kst) (h : AW2 Φ) : wp_X7_same0 hst htw bm kst ktw (nI e) (nI g) (nI l) be to_ gc le gr ac tg fr mi en cd (nI e2) (nI g2) (nI l2) be2 to2 gc2 le2 gr2 ac2 tg2 fr2 mi2 en2 cd2 cl cl2 pg kp wp ww ws wn wa wb wst wtw wwo wce wke wsk gp gw gs gn ga gb gst gtw gwo gce gke gsk Φ := by
  unfold wp_X7_same0
  have o := h (-2) wp ww ws wn wa wb wst wtw wwo wce wke wsk gp gw gs gn ga gb gst gtw gwo gce gke gsk
  refine sp_X7_within ⟨fun _ => o, fun z => absurd rfl z⟩ (fun _ _ => ⟨fun _ => o, fun _ => ⟨fun _ => o, fun _ => sp_X7_comparable hP.2.1 hP2.2.1 ⟨fun z => absurd rfl z, fun _ => o⟩ ⟨fun _ => sp_X2_inputCount hP.2.1 (fun r => ⟨r.toNatClampNeg - 0 + 1, ?_⟩), fun _ => o⟩⟩⟩)
  have key : ∀ (m i : Nat) (wp : Nat) (ww ws wn wa wb : Int32) (wst wtw wwo wce wke wsk : Nat → Int32) (gp : Nat) (gw gs gn ga gb : Int32) (gst gtw gwo gce gke gsk : Nat → Int32), m = r.toNatClampNeg - i → i ≤ r.toNatClampNeg → lf_X7_same0_49 hst htw bm kst ktw (nI e) (nI g) (nI l) be to_ gc le gr ac tg fr mi en cd (nI e2) (nI g2) (nI l2) be2 to2 gc2 le2 gr2 ac2 tg2 fr2 mi2 en2 cd2 cl cl2 pg kp Φ (m + 1) wp ww ws wn wa wb wst wtw wwo wce wke wsk gp gw gs gn ga gb gst gtw gwo gce gke gsk r (nI i) := by
    have hr := cnt_lt r
    intro m
    induction m with
    | zero =>
      intro i wp ww ws wn wa wb wst wtw wwo wce wke wsk gp gw gs gn ga gb gst gtw gwo gce gke gsk hm hi
      show lb_X7_same0_49 _ _ _ _ _ _ _ _ _ _ _ _ _ _ _ _ _ _ _ _ _ _ _ _ _ _ _ _ _ _ _ _ _ _ _ _ _ _ _ _ _ _ _ _ _ _ _ _ _ _ _ _ _ _ _ _ _ _ _ _ _ _ _ _ _
      unfold lb_X7_same0_49
      exact ⟨fun _ => h _ _ _ _ _ _ _ _ _ _ _ _ _ _ _ _ _ _ _ _ _ _ _ _ _, fun z => absurd (cnt_le (by omega) (by omega)) z⟩
    | succ m ih =>
      intro i wp ww ws wn wa wb wst wtw wwo wce wke wsk gp gw gs gn ga gb gst gtw gwo gce gke gsk hm hi
      show lb_X7_same0_49 _ _ _ _ _ _ _ _ _ _ _ _ _ _ _ _ _ _ _ _ _ _ _ _ _ _ _ _ _ _ _ _ _ _ _ _ _ _ _ _ _ _ _ _ _ _ _ _ _ _ _ _ _ _ _ _ _ _ _ _ _ _ _ _ _
      unfold lb_X7_same0_49
      rw [nI_1]
      refine ⟨fun _ => h _ _ _ _ _ _ _ _ _ _ _ _ _ _ _ _ _ _ _ _ _ _ _ _ _, fun _ => sp_X7_walk hP (by decide) hs (fun _ _ _ _ _ _ _ _ _ _ => sp_X7_walk hP2 (by decide) hs2 (fun _ _ _ _ _ _ _ _ _ _ => ?_))⟩
      exact sp_E (fun a => sp_E (fun b => ⟨fun _ => h _ _ _ _ _ _ _ _ _ _ _ _ _ _ _ _ _ _ _ _ _ _ _ _ _, fun _ => sp_X1_wroteLike (by decide) ⟨fun z => absurd rfl z, fun _ => h _ _ _ _ _ _ _ _ _ _ _ _ _ _ _ _ _ _ _ _ _ _ _ _ _⟩ ⟨fun _ => ih (i + 1) _ _ _ _ _ _ _ _ _ _ _ _ _ _ _ _ _ _ _ _ _ _ _ _ (by omega) (by omega), fun z => absurd z (by decide)⟩⟩))
  exact key (r.toNatClampNeg - 0) 0 _ _ _ _ _ _ _ _ _ _ _ _ _ _ _ _ _ _ _ _ _ _ _ _ rfl (by omega)
theorem sp_X7_same1 {wp : Nat} {ww ws wn wa wb : Int32} {wst wtw wwo wce wke wsk : Nat → Int32} {gp : Nat} {gw gs gn ga gb : Int32} {gst gtw gwo gce gke gsk : Nat → Int32} {Φ : PW2} (hP : PJ e g l cl tg cd) (hP2 : PJ e2 g2 l2 cl2 tg2 cd2) (hs : AS hst) (hs2 : AS kst) (h : AW2 Φ) : wp_X7_same1 hst htw bm kst ktw (nI e) (nI g) (nI l) be to_ gc le gr ac tg fr mi en cd (nI e2) (nI g2) (nI l2) be2 to2 gc2 le2 gr2 ac2 tg2 fr2 mi2 en2 cd2 cl cl2 pg kp wp ww ws wn wa wb wst wtw wwo wce wke wsk gp gw gs gn ga gb gst gtw gwo gce gke gsk Φ := by
  unfold wp_X7_same1
  have o := h (-2) wp ww ws wn wa wb wst wtw wwo wce wke wsk gp gw gs gn ga gb gst gtw gwo gce gke gsk
  refine sp_X7_within ⟨fun _ => o, fun z => absurd rfl z⟩ (fun _ _ => ⟨fun _ => o, fun _ => ⟨fun _ => o, fun _ => sp_X7_comparable hP.2.1 hP2.2.1 ⟨fun z => absurd rfl z, fun _ => o⟩ ⟨fun _ => sp_X2_inputCount hP.2.1 (fun r => ⟨r.toNatClampNeg - 0 + 1, ?_⟩), fun _ => o⟩⟩⟩)
  have key : ∀ (m i : Nat) (wp : Nat) (ww ws wn wa wb : Int32) (wst wtw wwo wce wke wsk : Nat → Int32) (gp : Nat) (gw gs gn ga gb : Int32) (gst gtw gwo gce gke gsk : Nat → Int32), m = r.toNatClampNeg - i → i ≤ r.toNatClampNeg → lf_X7_same1_49 hst htw bm kst ktw (nI e) (nI g) (nI l) be to_ gc le gr ac tg fr mi en cd (nI e2) (nI g2) (nI l2) be2 to2 gc2 le2 gr2 ac2 tg2 fr2 mi2 en2 cd2 cl cl2 pg kp Φ (m + 1) wp ww ws wn wa wb wst wtw wwo wce wke wsk gp gw gs gn ga gb gst gtw gwo gce gke gsk r (nI i) := by
    have hr := cnt_lt r
    intro m
    induction m with
    | zero =>
      intro i wp ww ws wn wa wb wst wtw wwo wce wke wsk gp gw gs gn ga gb gst gtw gwo gce gke gsk hm hi
      show lb_X7_same1_49 _ _ _ _ _ _ _ _ _ _ _ _ _ _ _ _ _ _ _ _ _ _ _ _ _ _ _ _ _ _ _ _ _ _ _ _ _ _ _ _ _ _ _ _ _ _ _ _ _ _ _ _ _ _ _ _ _ _ _ _ _ _ _ _ _
      unfold lb_X7_same1_49
      exact ⟨fun _ => h _ _ _ _ _ _ _ _ _ _ _ _ _ _ _ _ _ _ _ _ _ _ _ _ _, fun z => absurd (cnt_le (by omega) (by omega)) z⟩
    | succ m ih =>
      intro i wp ww ws wn wa wb wst wtw wwo wce wke wsk gp gw gs gn ga gb gst gtw gwo gce gke gsk hm hi
      show lb_X7_same1_49 _ _ _ _ _ _ _ _ _ _ _ _ _ _ _ _ _ _ _ _ _ _ _ _ _ _ _ _ _ _ _ _ _ _ _ _ _ _ _ _ _ _ _ _ _ _ _ _ _ _ _ _ _ _ _ _ _ _ _ _ _ _ _ _ _
      unfold lb_X7_same1_49
      rw [nI_1]
      refine ⟨fun _ => h _ _ _ _ _ _ _ _ _ _ _ _ _ _ _ _ _ _ _ _ _ _ _ _ _, fun _ => sp_X7_walk hP (by decide) hs (fun _ _ _ _ _ _ _ _ _ _ => sp_X7_walk hP2 (by decide) hs2 (fun _ _ _ _ _ _ _ _ _ _ => ?_))⟩
      exact sp_E (fun a => sp_E (fun b => ⟨fun _ => h _ _ _ _ _ _ _ _ _ _ _ _ _ _ _ _ _ _ _ _ _ _ _ _ _, fun _ => sp_X1_wroteLike (by decide) ⟨fun z => absurd rfl z, fun _ => h _ _ _ _ _ _ _ _ _ _ _ _ _ _ _ _ _ _ _ _ _ _ _ _ _⟩ ⟨fun _ => ih (i + 1) _ _ _ _ _ _ _ _ _ _ _ _ _ _ _ _ _ _ _ _ _ _ _ _ (by omega) (by omega), fun z => absurd z (by decide)⟩⟩))
  exact key (r.toNatClampNeg - 0) 0 _ _ _ _ _ _ _ _ _ _ _ _ _ _ _ _ _ _ _ _ _ _ _ _ rfl (by omega)
theorem sp_X7_same2 {wp : Nat} {ww ws wn wa wb : Int32} {wst wtw wwo wce wke wsk : Nat → Int32} {gp : Nat} {gw gs gn ga gb : Int32} {gst gtw gwo gce gke gsk : Nat → Int32} {Φ : PW2} (hP : PJ e g l cl tg cd) (hP2 : PJ e2 g2 l2 cl2 tg2 cd2) (hs : AS hst) (hs2 : AS kst) (h : AW2 Φ) : wp_X7_same2 hst htw bm kst ktw (nI e) (nI g) (nI l) be to_ gc le gr ac tg fr mi en cd (nI e2) (nI g2) (nI l2) be2 to2 gc2 le2 gr2 ac2 tg2 fr2 mi2 en2 cd2 cl cl2 pg kp wp ww ws wn wa wb wst wtw wwo wce wke wsk gp gw gs gn ga gb gst gtw gwo gce gke gsk Φ := by
  unfold wp_X7_same2
  have o := h (-2) wp ww ws wn wa wb wst wtw wwo wce wke wsk gp gw gs gn ga gb gst gtw gwo gce gke gsk
  refine sp_X7_within ⟨fun _ => o, fun z => absurd rfl z⟩ (fun _ _ => ⟨fun _ => o, fun _ => ⟨fun _ => o, fun _ => sp_X7_comparable hP.2.1 hP2.2.1 ⟨fun z => absurd rfl z, fun _ => o⟩ ⟨fun _ => sp_X2_inputCount hP.2.1 (fun r => ⟨r.toNatClampNeg - 0 + 1, ?_⟩), fun _ => o⟩⟩⟩)
  have key : ∀ (m i : Nat) (wp : Nat) (ww ws wn wa wb : Int32) (wst wtw wwo wce wke wsk : Nat → Int32) (gp : Nat) (gw gs gn ga gb : Int32) (gst gtw gwo gce gke gsk : Nat → Int32), m = r.toNatClampNeg - i → i ≤ r.toNatClampNeg → lf_X7_same2_49 hst htw bm kst ktw (nI e) (nI g) (nI l) be to_ gc le gr ac tg fr mi en cd (nI e2) (nI g2) (nI l2) be2 to2 gc2 le2 gr2 ac2 tg2 fr2 mi2 en2 cd2 cl cl2 pg kp Φ (m + 1) wp ww ws wn wa wb wst wtw wwo wce wke wsk gp gw gs gn ga gb gst gtw gwo gce gke gsk r (nI i) := by
    have hr := cnt_lt r
    intro m
    induction m with
    | zero =>
      intro i wp ww ws wn wa wb wst wtw wwo wce wke wsk gp gw gs gn ga gb gst gtw gwo gce gke gsk hm hi
      show lb_X7_same2_49 _ _ _ _ _ _ _ _ _ _ _ _ _ _ _ _ _ _ _ _ _ _ _ _ _ _ _ _ _ _ _ _ _ _ _ _ _ _ _ _ _ _ _ _ _ _ _ _ _ _ _ _ _ _ _ _ _ _ _ _ _ _ _ _ _
      unfold lb_X7_same2_49
      exact ⟨fun _ => h _ _ _ _ _ _ _ _ _ _ _ _ _ _ _ _ _ _ _ _ _ _ _ _ _, fun z => absurd (cnt_le (by omega) (by omega)) z⟩
    | succ m ih =>
      intro i wp ww ws wn wa wb wst wtw wwo wce wke wsk gp gw gs gn ga gb gst gtw gwo gce gke gsk hm hi
      show lb_X7_same2_49 _ _ _ _ _ _ _ _ _ _ _ _ _ _ _ _ _ _ _ _ _ _ _ _ _ _ _ _ _ _ _ _ _ _ _ _ _ _ _ _ _ _ _ _ _ _ _ _ _ _ _ _ _ _ _ _ _ _ _ _ _ _ _ _ _
      unfold lb_X7_same2_49
      rw [nI_1]
      refine ⟨fun _ => h _ _ _ _ _ _ _ _ _ _ _ _ _ _ _ _ _ _ _ _ _ _ _ _ _, fun _ => sp_X7_walk hP (by decide) hs (fun _ _ _ _ _ _ _ _ _ _ => sp_X7_walk hP2 (by decide) hs2 (fun _ _ _ _ _ _ _ _ _ _ => ?_))⟩
      exact sp_E (fun a => sp_E (fun b => ⟨fun _ => h _ _ _ _ _ _ _ _ _ _ _ _ _ _ _ _ _ _ _ _ _ _ _ _ _, fun _ => sp_X1_wroteLike (by decide) ⟨fun z => absurd rfl z, fun _ => h _ _ _ _ _ _ _ _ _ _ _ _ _ _ _ _ _ _ _ _ _ _ _ _ _⟩ ⟨fun _ => ih (i + 1) _ _ _ _ _ _ _ _ _ _ _ _ _ _ _ _ _ _ _ _ _ _ _ _ (by omega) (by omega), fun z => absurd z (by decide)⟩⟩))
  exact key (r.toNatClampNeg - 0) 0 _ _ _ _ _ _ _ _ _ _ _ _ _ _ _ _ _ _ _ _ _ _ _ _ rfl (by omega)
theorem sp_X7_same3 {wp : Nat} {ww ws wn wa wb : Int32} {wst wtw wwo wce wke wsk : Nat → Int32} {gp : Nat} {gw gs gn ga gb : Int32} {gst gtw gwo gce gke gsk : Nat → Int32} {Φ : PW2} (hP : PJ e g l cl tg cd) (hP2 : PJ e2 g2 l2 cl2 tg2 cd2) (hs : AS hst) (hs2 : AS kst) (h : AW2 Φ) : wp_X7_same3 hst htw bm kst ktw (nI e) (nI g) (nI l) be to_ gc le gr ac tg fr mi en cd (nI e2) (nI g2) (nI l2) be2 to2 gc2 le2 gr2 ac2 tg2 fr2 mi2 en2 cd2 cl cl2 pg kp wp ww ws wn wa wb wst wtw wwo wce wke wsk gp gw gs gn ga gb gst gtw gwo gce gke gsk Φ := by
  unfold wp_X7_same3
  have o := h (-2) wp ww ws wn wa wb wst wtw wwo wce wke wsk gp gw gs gn ga gb gst gtw gwo gce gke gsk
  refine sp_X7_within ⟨fun _ => o, fun z => absurd rfl z⟩ (fun _ _ => ⟨fun _ => o, fun _ => ⟨fun _ => o, fun _ => sp_X7_comparable hP.2.1 hP2.2.1 ⟨fun z => absurd rfl z, fun _ => o⟩ ⟨fun _ => sp_X2_inputCount hP.2.1 (fun r => ⟨r.toNatClampNeg - 0 + 1, ?_⟩), fun _ => o⟩⟩⟩)
  have key : ∀ (m i : Nat) (wp : Nat) (ww ws wn wa wb : Int32) (wst wtw wwo wce wke wsk : Nat → Int32) (gp : Nat) (gw gs gn ga gb : Int32) (gst gtw gwo gce gke gsk : Nat → Int32), m = r.toNatClampNeg - i → i ≤ r.toNatClampNeg → lf_X7_same3_49 hst htw bm kst ktw (nI e) (nI g) (nI l) be to_ gc le gr ac tg fr mi en cd (nI e2) (nI g2) (nI l2) be2 to2 gc2 le2 gr2 ac2 tg2 fr2 mi2 en2 cd2 cl cl2 pg kp Φ (m + 1) wp ww ws wn wa wb wst wtw wwo wce wke wsk gp gw gs gn ga gb gst gtw gwo gce gke gsk r (nI i) := by
    have hr := cnt_lt r
    intro m
    induction m with
    | zero =>
      intro i wp ww ws wn wa wb wst wtw wwo wce wke wsk gp gw gs gn ga gb gst gtw gwo gce gke gsk hm hi
      show lb_X7_same3_49 _ _ _ _ _ _ _ _ _ _ _ _ _ _ _ _ _ _ _ _ _ _ _ _ _ _ _ _ _ _ _ _ _ _ _ _ _ _ _ _ _ _ _ _ _ _ _ _ _ _ _ _ _ _ _ _ _ _ _ _ _ _ _ _ _
      unfold lb_X7_same3_49
      exact ⟨fun _ => h _ _ _ _ _ _ _ _ _ _ _ _ _ _ _ _ _ _ _ _ _ _ _ _ _, fun z => absurd (cnt_le (by omega) (by omega)) z⟩
    | succ m ih =>
      intro i wp ww ws wn wa wb wst wtw wwo wce wke wsk gp gw gs gn ga gb gst gtw gwo gce gke gsk hm hi
      show lb_X7_same3_49 _ _ _ _ _ _ _ _ _ _ _ _ _ _ _ _ _ _ _ _ _ _ _ _ _ _ _ _ _ _ _ _ _ _ _ _ _ _ _ _ _ _ _ _ _ _ _ _ _ _ _ _ _ _ _ _ _ _ _ _ _ _ _ _ _
      unfold lb_X7_same3_49
      rw [nI_1]
      refine ⟨fun _ => h _ _ _ _ _ _ _ _ _ _ _ _ _ _ _ _ _ _ _ _ _ _ _ _ _, fun _ => sp_X7_walk hP (by decide) hs (fun _ _ _ _ _ _ _ _ _ _ => sp_X7_walk hP2 (by decide) hs2 (fun _ _ _ _ _ _ _ _ _ _ => ?_))⟩
      exact sp_E (fun a => sp_E (fun b => ⟨fun _ => h _ _ _ _ _ _ _ _ _ _ _ _ _ _ _ _ _ _ _ _ _ _ _ _ _, fun _ => sp_X1_wroteLike (by decide) ⟨fun z => absurd rfl z, fun _ => h _ _ _ _ _ _ _ _ _ _ _ _ _ _ _ _ _ _ _ _ _ _ _ _ _⟩ ⟨fun _ => ih (i + 1) _ _ _ _ _ _ _ _ _ _ _ _ _ _ _ _ _ _ _ _ _ _ _ _ (by omega) (by omega), fun z => absurd z (by decide)⟩⟩))
  exact key (r.toNatClampNeg - 0) 0 _ _ _ _ _ _ _ _ _ _ _ _ _ _ _ _ _ _ _ _ _ _ _ _ rfl (by omega)
end SA
section MR
variable {hp kp : Nat} {hw hs hn ha hb kw ks kn ka kb : Int32} {hst htw hwo hce hke kst ktw kwo kce kke bm : Nat → Int32}
abbrev PCmk : Type := Int32 → Nat → Int32 → Int32 → Int32 → Int32 → Int32 → (Nat → Int32) → (Nat → Int32) → (Nat → Int32) → (Nat → Int32) → (Nat → Int32) → (Nat → Int32) → Nat → Int32 → Int32 → Int32 → Int32 → Int32 → (Nat → Int32) → (Nat → Int32) → (Nat → Int32) → (Nat → Int32) → (Nat → Int32) → Prop
theorem sp_X7_markx {x y : Int32} {Φ : Int32 → Prop} (hx : x < 0 ∨ 4 ≤ x) (h : Φ 0) : wp_X7_markx bm x y Φ := by
  unfold wp_X7_markx
  exact sp_X7_within ⟨fun _ => h, fun z => absurd rfl z⟩ (fun a b => absurd hx (fun z => z.elim a b))
theorem sp_X7_mark0 {y : Int32} {Φ : PCmk} (hs1 : AS hst) (hs2 : AS kst)
    (h0 : ¬ y = 0 → bm 0 = 0 → Φ 0 hp hw hs hn ha hb hst htw hwo hce hke bm kp kw ks kn ka kb kst ktw kwo kce kke)
    (h1 : ∀ kst' ktw' kwo' kce' kke' : Nat → Int32, y = 0 → AS kst' → Φ 1 hp hw hs hn ha hb hst htw hwo hce hke (upd bm 0 (vp_nar .boolean 1)) hp hw hs hn ha hb kst' ktw' kwo' kce' kke')
    (h2 : ∀ hst' htw' hwo' hce' hke' : Nat → Int32, ¬ y = 0 → ¬ bm 0 = 0 → AS hst' → Φ 1 kp kw ks kn ka kb hst' htw' hwo' hce' hke' bm kp kw ks kn ka kb kst ktw kwo kce kke) : wp_X7_mark0 y hp hw hs hn ha hb hst htw hwo hce hke bm kp kw ks kn ka kb kst ktw kwo kce kke Φ := by
  unfold wp_X7_mark0
  refine ⟨fun z => absurd z (by decide), fun _ => ⟨fun z => absurd z (by decide), fun _ => ⟨fun z => absurd z (by decide), fun _ => ⟨fun ey => ?_, fun ey => ⟨fun eb => ?_, fun eb => h0 ey eb⟩⟩⟩⟩⟩
  · exact ⟨fun _ => sp_X1_copy hs1 (by decide) (by decide) (fun st' tw' wo' ce' ke' h => h1 _ _ _ _ _ ey h), fun z => absurd ey z⟩
  · exact ⟨fun z => absurd z ey, fun _ => sp_X1_copy hs2 (by decide) (by decide) (fun st' tw' wo' ce' ke' h => h2 _ _ _ _ _ ey eb h)⟩
theorem sp_X7_mark1 {y : Int32} {Φ : PCmk} (hs1 : AS hst) (hs2 : AS kst)
    (h0 : ¬ y = 0 → bm 1 = 0 → Φ 0 hp hw hs hn ha hb hst htw hwo hce hke bm kp kw ks kn ka kb kst ktw kwo kce kke)
    (h1 : ∀ kst' ktw' kwo' kce' kke' : Nat → Int32, y = 0 → AS kst' → Φ 1 hp hw hs hn ha hb hst htw hwo hce hke (upd bm 1 (vp_nar .boolean 1)) hp hw hs hn ha hb kst' ktw' kwo' kce' kke')
    (h2 : ∀ hst' htw' hwo' hce' hke' : Nat → Int32, ¬ y = 0 → ¬ bm 1 = 0 → AS hst' → Φ 1 kp kw ks kn ka kb hst' htw' hwo' hce' hke' bm kp kw ks kn ka kb kst ktw kwo kce kke) : wp_X7_mark1 y hp hw hs hn ha hb hst htw hwo hce hke bm kp kw ks kn ka kb kst ktw kwo kce kke Φ := by
  unfold wp_X7_mark1
  refine ⟨fun z => absurd z (by decide), fun _ => ⟨fun z => absurd z (by decide), fun _ => ⟨fun z => absurd z (by decide), fun _ => ⟨fun ey => ?_, fun ey => ⟨fun eb => ?_, fun eb => h0 ey eb⟩⟩⟩⟩⟩
  · exact ⟨fun _ => sp_X1_copy hs1 (by decide) (by decide) (fun st' tw' wo' ce' ke' h => h1 _ _ _ _ _ ey h), fun z => absurd ey z⟩
  · exact ⟨fun z => absurd z ey, fun _ => sp_X1_copy hs2 (by decide) (by decide) (fun st' tw' wo' ce' ke' h => h2 _ _ _ _ _ ey eb h)⟩
theorem sp_X7_mark2 {y : Int32} {Φ : PCmk} (hs1 : AS hst) (hs2 : AS kst)
    (h0 : ¬ y = 0 → bm 2 = 0 → Φ 0 hp hw hs hn ha hb hst htw hwo hce hke bm kp kw ks kn ka kb kst ktw kwo kce kke)
    (h1 : ∀ kst' ktw' kwo' kce' kke' : Nat → Int32, y = 0 → AS kst' → Φ 1 hp hw hs hn ha hb hst htw hwo hce hke (upd bm 2 (vp_nar .boolean 1)) hp hw hs hn ha hb kst' ktw' kwo' kce' kke')
    (h2 : ∀ hst' htw' hwo' hce' hke' : Nat → Int32, ¬ y = 0 → ¬ bm 2 = 0 → AS hst' → Φ 1 kp kw ks kn ka kb hst' htw' hwo' hce' hke' bm kp kw ks kn ka kb kst ktw kwo kce kke) : wp_X7_mark2 y hp hw hs hn ha hb hst htw hwo hce hke bm kp kw ks kn ka kb kst ktw kwo kce kke Φ := by
  unfold wp_X7_mark2
  refine ⟨fun z => absurd z (by decide), fun _ => ⟨fun z => absurd z (by decide), fun _ => ⟨fun z => absurd z (by decide), fun _ => ⟨fun ey => ?_, fun ey => ⟨fun eb => ?_, fun eb => h0 ey eb⟩⟩⟩⟩⟩
  · exact ⟨fun _ => sp_X1_copy hs1 (by decide) (by decide) (fun st' tw' wo' ce' ke' h => h1 _ _ _ _ _ ey h), fun z => absurd ey z⟩
  · exact ⟨fun z => absurd z ey, fun _ => sp_X1_copy hs2 (by decide) (by decide) (fun st' tw' wo' ce' ke' h => h2 _ _ _ _ _ ey eb h)⟩
theorem sp_X7_mark3 {y : Int32} {Φ : PCmk} (hs1 : AS hst) (hs2 : AS kst)
    (h0 : ¬ y = 0 → bm 3 = 0 → Φ 0 hp hw hs hn ha hb hst htw hwo hce hke bm kp kw ks kn ka kb kst ktw kwo kce kke)
    (h1 : ∀ kst' ktw' kwo' kce' kke' : Nat → Int32, y = 0 → AS kst' → Φ 1 hp hw hs hn ha hb hst htw hwo hce hke (upd bm 3 (vp_nar .boolean 1)) hp hw hs hn ha hb kst' ktw' kwo' kce' kke')
    (h2 : ∀ hst' htw' hwo' hce' hke' : Nat → Int32, ¬ y = 0 → ¬ bm 3 = 0 → AS hst' → Φ 1 kp kw ks kn ka kb hst' htw' hwo' hce' hke' bm kp kw ks kn ka kb kst ktw kwo kce kke) : wp_X7_mark3 y hp hw hs hn ha hb hst htw hwo hce hke bm kp kw ks kn ka kb kst ktw kwo kce kke Φ := by
  unfold wp_X7_mark3
  refine ⟨fun z => absurd z (by decide), fun _ => ⟨fun z => absurd z (by decide), fun _ => ⟨fun z => absurd z (by decide), fun _ => ⟨fun ey => ?_, fun ey => ⟨fun eb => ?_, fun eb => h0 ey eb⟩⟩⟩⟩⟩
  · exact ⟨fun _ => sp_X1_copy hs1 (by decide) (by decide) (fun st' tw' wo' ce' ke' h => h1 _ _ _ _ _ ey h), fun z => absurd ey z⟩
  · exact ⟨fun z => absurd z ey, fun _ => sp_X1_copy hs2 (by decide) (by decide) (fun st' tw' wo' ce' ke' h => h2 _ _ _ _ _ ey eb h)⟩
end MR
abbrev PCpr : Type := Int32 → Nat → Int32 → Int32 → Nat → Int32 → Int64 → Int32 → (Nat → Int64) → (Nat → Int64) → (Nat → Int32) → Int32 → Int32 → (Nat → Nat) → (Nat → Int32) → (Nat → Int64) → Int32 → Int32 → Int32 → Int32 → (Nat → Int32) → (Nat → Int32) → (Nat → Int32) → (Nat → Int32) → (Nat → Int32) → (Nat → Int32) → (Nat → Int32) → (Nat → Int32) → (Nat → Int32) → (Nat → Int32) → (Nat → Int32) → (Nat → Int32) → Nat → (Nat → Int32) → Nat → Int32 → Int32 → Int32 → Int32 → (Nat → Int32) → (Nat → Int32) → (Nat → Int32) → Prop
theorem sp_X7_programme {n tok hp : Nat} {sg code pl hst htw hwo : Nat → Int32} {a b p f C hs hn ha hb : Int32} {v : Int64} {sn cn vl : Nat → Int64} {tk : Nat → Nat} {Φ : PCpr} (hn1 : n ≤ 1000)
    (h : ∀ (r : Int32) (pg d t tok : Nat) (p : Int32) (v : Int64) (f : Int32) (sn cn : Nat → Int64) (code : Nat → Int32) (c : Nat) (tk : Nat → Nat) (pl : Nat → Int32) (vl : Nat → Int64) (s e g l : Nat) (be co to_ gc le gr ac so tg fr mi en cd : Nat → Int32), PK s e g l so tg d cd → Φ r pg (nI d) (nI t) tok p v f sn cn code 0 (nI c) tk pl vl (nI s) (nI e) (nI g) (nI l) be co to_ gc le gr ac so tg fr mi en d cd hp hs hn ha hb hst htw hwo ∧ ∀ st' tw' wo', AS st' → Φ r pg (nI d) (nI t) tok p v f sn cn code 0 (nI c) tk pl vl (nI s) (nI e) (nI g) (nI l) be co to_ gc le gr ac so tg fr mi en d cd pg 0 0 0 0 st' tw' wo') : wp_X7_programme sg a b tok p v f sn cn code (nI n) C tk pl vl hp hs hn ha hb hst htw hwo Φ := by
  unfold wp_X7_programme
  refine sp_X3_read hn1 (fun pg d t tok p v f sn cn code c tk pl vl s e g l be co to_ gc le gr ac so tg fr mi en cd hK => ⟨fun _ => (h _ _ _ _ _ _ _ _ _ _ _ _ _ _ _ _ _ _ _ _ _ _ _ _ _ _ _ _ _ _ _ _ hK).1, fun _ => ?_⟩)
  exact sp_X1_takeAsTold hK.2.2.2.2.1 (fun st' tw' wo' ha => (h _ _ _ _ _ _ _ _ _ _ _ _ _ _ _ _ _ _ _ _ _ _ _ _ _ _ _ _ _ _ _ _ hK).2 _ _ _ ha)
end
section
/-- a sign that may stand on the tape -/
def OKc (c : Nat) : Prop := c = 10 ∨ (32 ≤ c ∧ c ≤ 126)
/-- the row t holds the signs ts -/
def TL (ts : List Nat) (t : Nat → Int32) : Prop := ts.length ≤ 1000 ∧ (∀ c ∈ ts, OKc c) ∧ ∀ (i c : Nat), ts[i]? = some c → t i = nI c
theorem TL.nil {t : Nat → Int32} : TL [] t := ⟨Nat.zero_le _, fun c h => (by cases h), fun i c h => by simp at h⟩
theorem fok_n {x : Int32} (hx : fok x) : ∃ j : Nat, OKc j ∧ x = nI j := by
  have hp : ¬ x < 0 := by
    rcases hx with e | ⟨a, b⟩
    · rw [e]; decide
    · intro z
      apply a
      rw [Int32.lt_iff_toInt_lt] at z ⊢
      have e0 : (0 : Int32).toInt = 0 := rfl
      have e1 : (32 : Int32).toInt = 32 := rfl
      omega
  obtain ⟨j, hj, e⟩ := nI_of hp
  refine ⟨j, ?_, e⟩
  subst e
  rcases hx with e | ⟨a, b⟩
  · exact Or.inl ((nI_eq (b := 10) hj (by decide)).mp e)
  · exact Or.inr ⟨Nat.le_of_not_lt (fun z => a ((nI_ltI (b := 32) hj (by decide)).mpr z)), Nat.le_of_not_lt (fun z => b ((nI_ltI (a := 126) (by decide) hj).mpr z))⟩
theorem OKc.lt {c : Nat} (h : OKc c) : c < 127 := by rcases h with h | h <;> omega
theorem TL.push {ts : List Nat} {t : Nat → Int32} {x : Int32} (h : TL ts t) (hn : ts.length < 1000) (hx : fok x) : TL (ts ++ [x.toNatClampNeg]) (upd t ts.length x) := by
  obtain ⟨j, hj, e⟩ := fok_n hx
  have hl := hj.lt
  subst e
  rw [nI_clamp (by omega)]
  refine ⟨by rw [List.length_append]; exact hn, fun c hc => ?_, fun i c hi => ?_⟩
  · rcases List.mem_append.mp hc with hc | hc
    · exact h.2.1 c hc
    · rw [List.mem_singleton.mp hc]; exact hj
  · by_cases e : i = ts.length
    · subst e
      rw [List.getElem?_append_right (Nat.le_refl _), Nat.sub_self] at hi
      rw [pk_us]
      exact congrArg nI (Option.some.inj hi)
    · rw [pk_un e]
      by_cases hlt : i < ts.length
      · rw [List.getElem?_append_left hlt] at hi
        exact h.2.2 i c hi
      · rw [List.getElem?_append_right (by omega)] at hi
        have : i - ts.length = (i - ts.length - 1) + 1 := by omega
        rw [this] at hi
        simp at hi
theorem nar_char1 : ∀ j : Fin 127, vp_nar .char (((nI j.val).toUInt32 % 65536).toInt32) = nI j.val := by decide
theorem nar_char {x : Int32} (hx : fok x) : vp_nar .char ((x.toUInt32 % 65536).toInt32) = x := by
  obtain ⟨j, hj, e⟩ := fok_n hx
  subst e
  exact nar_char1 ⟨j, hj.lt⟩
section FT
variable (xa xb xc : Int64)
/-- what lies on the tape behind the turns k .. k + m of feed -/
def fts : Nat → Nat → List Nat → List Nat
  | 0, _, ts => ts
  | m + 1, k, ts => fts m (k + 1) (if ts.length < 1000 ∧ fok (fby xa xb xc k) then ts ++ [(fby xa xb xc k).toNatClampNeg] else ts)
theorem fts_len : ∀ m k ts, (fts xa xb xc m k ts).length = fcn xa xb xc m k ts.length := by
  intro m
  induction m with
  | zero => intro k ts; rfl
  | succ m ih =>
    intro k ts
    show (fts xa xb xc m (k + 1) _).length = fcn xa xb xc m (k + 1) _
    rw [ih]
    by_cases e : ts.length < 1000 ∧ fok (fby xa xb xc k)
    · rw [if_pos e, if_pos e, List.length_append]; rfl
    · rw [if_neg e, if_neg e]
theorem fts_add : ∀ a b k ts, fts xa xb xc (a + b) k ts = fts xa xb xc b (k + a) (fts xa xb xc a k ts) := by
  intro a
  induction a with
  | zero => intro b k ts; rw [Nat.zero_add]; rfl
  | succ a ih =>
    intro b k ts
    rw [show a + 1 + b = (a + b) + 1 by omega]
    show fts xa xb xc (a + b) (k + 1) _ = fts xa xb xc b (k + (a + 1)) (fts xa xb xc a (k + 1) _)
    rw [ih, show k + 1 + a = k + (a + 1) by omega]
end FT
theorem sq_X8_feed {xa xb xc : Int64} {ts : List Nat} {F : Int32} {t : Nat → Int32} {Φ : Int32 → Int32 → Int32 → (Nat → Int32) → Prop} (hT : TL ts t) (hΦ : ∀ t', TL (fts xa xb xc 24 0 ts) t' → Φ (nI (fts xa xb xc 24 0 ts).length) 0 (nI (fts xa xb xc 24 0 ts).length) t') : wp_X8_feed xa xb xc F (nI ts.length) t Φ := by
  have key : ∀ (m k : Nat) (ts : List Nat) (t : Nat → Int32), m = 24 - k → k ≤ 24 → TL ts t → (∀ t', TL (fts xa xb xc m k ts) t' → Φ (nI (fts xa xb xc m k ts).length) 0 (nI (fts xa xb xc m k ts).length) t') → lf_X8_feed_8 xa xb xc Φ (m + 1) 0 (nI ts.length) t (nI k) := by
    intro m
    induction m with
    | zero =>
      intro k ts t hm hk hT hΦ
      have e : k = 24 := by omega
      subst e
      exact ⟨fun _ => hΦ t hT, fun z => absurd (by decide) z⟩
    | succ m ih =>
      intro k ts t hm hk hT hΦ
      have hn := hT.1
      show lb_X8_feed_8 _ _ _ _ _ _ _ _ _
      unfold lb_X8_feed_8
      have hv : ∀ w : Int64, w = (if k < 8 then xa else if k < 16 then xb else xc) → kf_X8_feed_39 xa xb xc (lf_X8_feed_8 xa xb xc Φ (m + 1)) Φ 0 (nI ts.length) t (nI k) w := by
        intro w hw
        subst hw
        unfold kf_X8_feed_39 kf_X8_feed_93
        have ev : ((((((if k < 8 then xa else if k < 16 then xb else xc)).toUInt64 >>> ((56 - (8 * (nI k &&& 7))).toInt64.toUInt64 &&& Int64.toUInt64 63)).toInt64) &&& 255).toInt32) = fby xa xb xc k := rfl
        rw [ev, nI_1, nI_1]
        have no : (¬ (ts.length < 1000 ∧ fok (fby xa xb xc k))) → lf_X8_feed_8 xa xb xc Φ (m + 1) 0 (nI ts.length) t (nI (k + 1)) := fun z => ih (k + 1) ts t (by omega) (by omega) hT (fun t' => by
          have := hΦ t'
          unfold fts at this
          rw [if_neg z] at this
          exact this)
        have ys : ts.length < 1000 → fok (fby xa xb xc k) → vp_in (nI ts.length) 1000 ∧ lf_X8_feed_8 xa xb xc Φ (m + 1) 0 (nI (ts.length + 1)) (upd t (nI ts.length).toNatClampNeg (fby xa xb xc k)) (nI (k + 1)) := fun y z => by
          have h9 := ih (k + 1) (ts ++ [(fby xa xb xc k).toNatClampNeg]) (upd t ts.length (fby xa xb xc k)) (by omega) (by omega) (hT.push y z) (fun t' => by
            have := hΦ t'
            unfold fts at this
            rw [if_pos ⟨y, z⟩] at this
            exact this)
          rw [List.length_append] at h9
          rw [nI_clamp (by omega)]
          exact ⟨pk_in ts.length 1000 y, h9⟩
        refine ⟨fun z => no (fun y => nI_ge (b := 1000) y.1 (by decide) z), fun z => ?_⟩
        have hlt : ts.length < 1000 := Nat.lt_of_not_le (fun y => z (nI_le (a := 1000) y (by omega)))
        refine ⟨fun e => ys hlt (Or.inl e), fun e => ⟨fun e2 => no (fun y => ?_), fun e2 => ⟨fun e3 => no (fun y => ?_), fun e3 => ys hlt (Or.inr ⟨e2, e3⟩)⟩⟩⟩
        · rcases y.2 with y | y
          · exact e y
          · exact y.1 e2
        · rcases y.2 with y | y
          · exact e y
          · exact y.2 e3
      refine ⟨fun z => absurd z (nI_ge (b := 24) (by omega) (by decide)), fun _ => ⟨fun z8 => ⟨fun z16 => hv xc ?_, fun z16 => hv xb ?_⟩, fun z8 => hv xa ?_⟩⟩
      · rw [if_neg (fun y => nI_ge (b := 8) y (by decide) z8), if_neg (fun y => nI_ge (b := 16) y (by decide) z16)]
      · rw [if_neg (fun y => nI_ge (b := 8) y (by decide) z8), if_pos (Nat.lt_of_not_le (fun y => z16 (nI_le (a := 16) y (by omega))))]
      · rw [if_pos (Nat.lt_of_not_le (fun y => z8 (nI_le (a := 8) y (by omega))))]
  exact ⟨24 - 0 + 1, key (24 - 0) 0 ts t rfl (by decide) hT hΦ⟩
theorem sq_X5_addBytes {xa xb xc w : Int64} {q : Nat} {ts : List Nat} {sg : Nat → Int32} {Φ : Int32 → (Nat → Int32) → Prop} (hq : q < 3) (hw : w = (if q = 0 then xa else if q = 1 then xb else xc)) (hT : TL ts sg) (hΦ : ∀ sg', TL (fts xa xb xc 8 (8 * q) ts) sg' → Φ (nI (fts xa xb xc 8 (8 * q) ts).length) sg') : wp_X5_addBytes w (nI ts.length) sg Φ := by
  have key : ∀ (m i : Nat) (ts : List Nat) (sg : Nat → Int32), m = 8 - i → i ≤ 8 → TL ts sg → (∀ sg', TL (fts xa xb xc m (8 * q + i) ts) sg' → Φ (nI (fts xa xb xc m (8 * q + i) ts).length) sg') → lf_X5_addBytes_3 w Φ (m + 1) (nI ts.length) sg (ab i) := by
    intro m
    induction m with
    | zero =>
      intro i ts sg hm hi hT hΦ
      have e : i = 8 := by omega
      subst e
      exact ⟨fun _ => hΦ sg hT, fun z => absurd (by decide) z⟩
    | succ m ih =>
      intro i ts sg hm hi hT hΦ
      have hn := hT.1
      show lb_X5_addBytes_3 _ _ _ _ _ _
      unfold lb_X5_addBytes_3 kf_X5_addBytes_48
      have s1 := ab_step ⟨i, by omega⟩
      have s2 := ab_sh ⟨q, hq⟩ ⟨i, by omega⟩
      simp only at s1 s2
      have ew : w = (if 8 * q + i < 8 then xa else if 8 * q + i < 16 then xb else xc) := by
        rw [hw]
        by_cases e0 : q = 0
        · rw [if_pos e0, if_pos (show 8 * q + i < 8 by omega)]
        · rw [if_neg e0, if_neg (show ¬ 8 * q + i < 8 by omega)]
          by_cases e1 : q = 1
          · rw [if_pos e1, if_pos (show 8 * q + i < 16 by omega)]
          · rw [if_neg e1, if_neg (show ¬ 8 * q + i < 16 by omega)]
      have ev : ((((w).toUInt64 >>> ((ab i).toInt64.toUInt64 &&& Int64.toUInt64 63)).toInt64).toInt32) &&& 255 = fby xa xb xc (8 * q + i) := by
        rw [by_and, s2, ew]; rfl
      rw [ev, nI_1, s1.2]
      have no : (¬ (ts.length < 1000 ∧ fok (fby xa xb xc (8 * q + i)))) → lf_X5_addBytes_3 w Φ (m + 1) (nI ts.length) sg (ab (i + 1)) := fun z => ih (i + 1) ts sg (by omega) (by omega) hT (fun t' => by
        have := hΦ t'
        unfold fts at this
        rw [if_neg z] at this
        exact this)
      have ys : ts.length < 1000 → fok (fby xa xb xc (8 * q + i)) → vp_in (nI ts.length) 1000 ∧ lf_X5_addBytes_3 w Φ (m + 1) (nI (ts.length + 1)) (upd sg (nI ts.length).toNatClampNeg (vp_nar .char (((fby xa xb xc (8 * q + i)).toUInt32 % 65536).toInt32))) (ab (i + 1)) := fun y z => by
        have h9 := ih (i + 1) (ts ++ [(fby xa xb xc (8 * q + i)).toNatClampNeg]) (upd sg ts.length (fby xa xb xc (8 * q + i))) (by omega) (by omega) (hT.push y z) (fun t' => by
          have := hΦ t'
          unfold fts at this
          rw [if_pos ⟨y, z⟩] at this
          exact this)
        rw [List.length_append] at h9
        rw [nI_clamp (by omega), nar_char z]
        exact ⟨pk_in ts.length 1000 y, h9⟩
      refine ⟨fun z => absurd z s1.1, fun _ => ⟨fun z => no (fun y => nI_ge (b := 1000) y.1 (by decide) z), fun z => ?_⟩⟩
      have hlt : ts.length < 1000 := Nat.lt_of_not_le (fun y => z (nI_le (a := 1000) y (by omega)))
      refine ⟨fun e => ys hlt (Or.inl e), fun e => ⟨fun e2 => no (fun y => ?_), fun e2 => ⟨fun e3 => no (fun y => ?_), fun e3 => ys hlt (Or.inr ⟨e2, e3⟩)⟩⟩⟩
      · rcases y.2 with y | y
        · exact e y
        · exact y.1 e2
      · rcases y.2 with y | y
        · exact e y
        · exact y.2 e3
  exact ⟨8 - 0 + 1, key (8 - 0) 0 ts sg rfl (by decide) hT hΦ⟩
theorem sq_X7_feed {xa xb xc : Int64} {ts : List Nat} {sg : Nat → Int32} {Φ : Int32 → Int32 → (Nat → Int32) → Prop} (hT : TL ts sg) (hΦ : ∀ sg', TL (fts xa xb xc 24 0 ts) sg' → Φ (nI (fts xa xb xc 24 0 ts).length) (nI (fts xa xb xc 24 0 ts).length) sg') : wp_X7_feed xa xb xc (nI ts.length) sg Φ := by
  unfold wp_X7_feed
  refine sq_X5_addBytes (xa := xa) (xb := xb) (xc := xc) (q := 0) (by decide) rfl hT (fun s1 h1 => ?_)
  refine sq_X5_addBytes (xa := xa) (xb := xb) (xc := xc) (q := 1) (by decide) rfl h1 (fun s2 h2 => ?_)
  refine sq_X5_addBytes (xa := xa) (xb := xb) (xc := xc) (q := 2) (by decide) rfl h2 (fun s3 h3 => ?_)
  have e : fts xa xb xc 24 0 ts = fts xa xb xc 8 (8 * 2) (fts xa xb xc 8 (8 * 1) (fts xa xb xc 8 (8 * 0) ts)) := by
    rw [show (24 : Nat) = 8 + (8 + 8) from rfl, fts_add, fts_add]
  rw [← e] at h3 ⊢
  exact hΦ s3 h3
end
section
/-- a token: its kind (0 the end, 1 a word, 2 a number, 3 a sign, 4 none), its place, its signs -/
abbrev Tok : Type := Nat × Nat × List Nat
def cB (c : Nat) : Bool := c == 10 || c == 32
def isLt (c : Nat) : Bool := decide (97 ≤ c) && decide (c ≤ 122)
def isDg (c : Nat) : Bool := decide (48 ≤ c) && decide (c ≤ 57)
def cS (c : Nat) : Bool := (decide (40 ≤ c) && decide (c ≤ 43)) || c == 45 || (decide (59 ≤ c) && decide (c ≤ 61))
def sgn (ts : List Nat) (p : Nat) : Nat := ts.getD p 0
def wl (f : Nat → Bool) (ts : List Nat) : Nat → Nat → Nat
  | 0, p => p
  | m + 1, p => if f (sgn ts p) then wl f ts m (p + 1) else p
/-- where the signs that are f end, from p on -/
def wE (f : Nat → Bool) (ts : List Nat) (p : Nat) : Nat := wl f ts (ts.length - p) p
theorem wE_yes {f : Nat → Bool} {ts : List Nat} {p : Nat} (hp : p < ts.length) (h : f (sgn ts p) = true) : wE f ts p = wE f ts (p + 1) := by
  unfold wE
  rw [show ts.length - p = (ts.length - (p + 1)) + 1 by omega]
  show (if f (sgn ts p) then _ else _) = _
  rw [if_pos h]
theorem wE_no {f : Nat → Bool} {ts : List Nat} {p : Nat} (h : ¬ f (sgn ts p) = true) : wE f ts p = p := by
  unfold wE
  cases ts.length - p with
  | zero => rfl
  | succ m =>
    show (if f (sgn ts p) then _ else _) = _
    rw [if_neg h]
theorem wE_end {f : Nat → Bool} {ts : List Nat} {p : Nat} (hp : ts.length ≤ p) : wE f ts p = p := by
  unfold wE
  rw [Nat.sub_eq_zero_of_le hp]
  rfl
theorem wl_ge (f : Nat → Bool) (ts : List Nat) : ∀ m p, p ≤ wl f ts m p ∧ wl f ts m p ≤ p + m := by
  intro m
  induction m with
  | zero => intro p; exact ⟨Nat.le_refl _, Nat.le_refl _⟩
  | succ m ih =>
    intro p
    show p ≤ (if f (sgn ts p) then _ else _) ∧ (if f (sgn ts p) then _ else _) ≤ _
    by_cases h : f (sgn ts p) = true
    · rw [if_pos h]
      have := ih (p + 1)
      omega
    · rw [if_neg h]
      omega
theorem wE_ge {f : Nat → Bool} {ts : List Nat} {p : Nat} : p ≤ wE f ts p := (wl_ge f ts _ p).1
theorem wE_le {f : Nat → Bool} {ts : List Nat} {p : Nat} (hp : p ≤ ts.length) : wE f ts p ≤ ts.length := by
  have := (wl_ge f ts (ts.length - p) p).2
  unfold wE
  omega
/-- the signs from p to q -/
def cut (ts : List Nat) (p q : Nat) : List Nat := (ts.drop p).take (q - p)
theorem cut_len {ts : List Nat} {p q : Nat} (hq : q ≤ ts.length) : (cut ts p q).length = q - p := by
  unfold cut
  rw [List.length_take, List.length_drop]
  omega
theorem cut_nil {ts : List Nat} {p : Nat} : cut ts p p = [] := by
  unfold cut
  rw [Nat.sub_self]
  rfl
theorem sgn_get {ts : List Nat} {p : Nat} (hp : p < ts.length) : ts[p]? = some (sgn ts p) := by
  unfold sgn
  rw [List.getD_eq_getElem?_getD, List.getElem?_eq_getElem hp]
  rfl
theorem cut_sn {ts : List Nat} {p q : Nat} (hp : p ≤ q) (hq : q < ts.length) : cut ts p (q + 1) = cut ts p q ++ [sgn ts q] := by
  unfold cut
  rw [show q + 1 - p = (q - p) + 1 by omega, List.take_add_one, List.getElem?_drop, show p + (q - p) = q by omega, sgn_get hq]
  rfl
def tkAt (ts : List Nat) (p : Nat) : Tok :=
  if isLt (sgn ts p) then (if wE isLt ts p - p ≤ 8 then (1, p, cut ts p (wE isLt ts p)) else (4, p, []))
  else if isDg (sgn ts p) then (if wE isDg ts p - p ≤ 4 then (2, p, cut ts p (wE isDg ts p)) else (4, p, []))
  else if cS (sgn ts p) then (3, p, [sgn ts p]) else (4, p, [])
def tkEnd (ts : List Nat) (p : Nat) : Nat := if isLt (sgn ts p) then wE isLt ts p else if isDg (sgn ts p) then wE isDg ts p else p + 1
theorem tkEnd_gt {ts : List Nat} {p : Nat} (hp : p < ts.length) : p < tkEnd ts p ∧ tkEnd ts p ≤ ts.length := by
  unfold tkEnd
  by_cases h : isLt (sgn ts p) = true
  · rw [if_pos h, wE_yes hp h]
    exact ⟨wE_ge, wE_le hp⟩
  · rw [if_neg h]
    by_cases h : isDg (sgn ts p) = true
    · rw [if_pos h, wE_yes hp h]
      exact ⟨wE_ge, wE_le hp⟩
    · rw [if_neg h]
      omega
def tkf (ts : List Nat) : Nat → Nat → List Tok
  | 0, p => [(0, p, [])]
  | f + 1, p => if p < ts.length then (if cB (sgn ts p) then tkf ts f (p + 1) else tkAt ts p :: tkf ts f (tkEnd ts p)) else [(0, p, [])]
theorem tkf_fuel (ts : List Nat) : ∀ f g p, ts.length - p ≤ f → ts.length - p ≤ g → tkf ts f p = tkf ts g p := by
  intro f
  induction f with
  | zero =>
    intro g p h1 h2
    cases g with
    | zero => rfl
    | succ g =>
      show _ = (if p < ts.length then _ else _)
      rw [if_neg (by omega)]
      rfl
  | succ f ih =>
    intro g p h1 h2
    cases g with
    | zero =>
      show (if p < ts.length then _ else _) = _
      rw [if_neg (by omega)]
      rfl
    | succ g =>
      show (if p < ts.length then _ else _) = (if p < ts.length then _ else _)
      by_cases hp : p < ts.length
      · rw [if_pos hp, if_pos hp]
        have := tkEnd_gt hp
        rw [ih g (p + 1) (by omega) (by omega), ih g (tkEnd ts p) (by omega) (by omega)]
      · rw [if_neg hp, if_neg hp]
/-- the tokens from p on; the last is the end -/
def tokL (ts : List Nat) (p : Nat) : List Tok := tkf ts (ts.length - p) p
theorem tokL_end {ts : List Nat} {p : Nat} (h : ts.length ≤ p) : tokL ts p = [(0, p, [])] := by
  unfold tokL
  rw [Nat.sub_eq_zero_of_le h]
  rfl
theorem tokL_blank {ts : List Nat} {p : Nat} (hp : p < ts.length) (h : cB (sgn ts p) = true) : tokL ts p = tokL ts (p + 1) := by
  unfold tokL
  rw [show ts.length - p = (ts.length - (p + 1)) + 1 by omega]
  show (if p < ts.length then _ else _) = _
  rw [if_pos hp, if_pos h]
theorem tokL_tok {ts : List Nat} {p : Nat} (hp : p < ts.length) (h : ¬ cB (sgn ts p) = true) : tokL ts p = tkAt ts p :: tokL ts (tkEnd ts p) := by
  unfold tokL
  rw [show ts.length - p = (ts.length - (p + 1)) + 1 by omega]
  show (if p < ts.length then _ else _) = _
  have := tkEnd_gt hp
  rw [if_pos hp, if_neg h, tkf_fuel ts _ (ts.length - tkEnd ts p) (tkEnd ts p) (by omega) (Nat.le_refl _)]
theorem tokL_ne {ts : List Nat} : ∀ (k p : Nat), ts.length - p ≤ k → tokL ts p ≠ [] := by
  intro k
  induction k with
  | zero =>
    intro p h
    rw [tokL_end (by omega)]
    exact List.cons_ne_nil _ _
  | succ k ih =>
    intro p h
    by_cases hp : p < ts.length
    · by_cases hb : cB (sgn ts p) = true
      · rw [tokL_blank hp hb]
        exact ih (p + 1) (by omega)
      · rw [tokL_tok hp hb]
        exact List.cons_ne_nil _ _
    · rw [tokL_end (by omega)]
      exact List.cons_ne_nil _ _
/-- to the next token; the end stays -/
def adv : List Tok → List Tok
  | [] => []
  | [k] => [k]
  | _ :: k :: r => k :: r
def eW (l : List Nat) : Int64 := l.foldl (fun w c => ((w * 27) + (nI c).toInt64) - 96) 0
def eB (l : List Nat) : Int64 := l.foldl (fun w c => ((w <<< ((8 : Int32).toInt64 &&& 63)) ||| (nI c).toInt64)) 0
def eN (l : List Nat) : Int32 := l.foldl (fun w c => ((w * 10) + nI c) - 48) 0
def eM (l : List Nat) : Int64 := l.foldl (fun w c => (w * 10) + ((nI c - 48).toInt64)) 0
end
section
/-- the reference's token: where its signs end (q), where it begins (b), kind, word, number -/
def CR (ts : List Nat) (q b : Nat) (T : Int32) (w : Int64) (td : Int32) (k : Tok) : Prop := k.2.1 = b ∧ T = nI k.1 ∧ k.1 ≤ 4 ∧ q ≤ ts.length ∧ b ≤ q ∧ (k.1 = 0 → q = ts.length ∧ b = q) ∧ (¬ k.1 = 0 → b < ts.length) ∧ (k.1 = 1 → w = eW k.2.2) ∧ (k.1 = 2 → td = eN k.2.2) ∧ (k.1 = 3 → k.2.2 = [sgn ts b]) ∧ (k.1 = 0 → k.2.2 = [])
section NT
variable {ts : List Nat} {t : Nat → Int32} {Φ : Int32 → Int32 → Int32 → Int64 → Int32 → Prop}
theorem TL.at (h : TL ts t) {p : Nat} (hp : p < ts.length) : t p = nI (sgn ts p) := h.2.2 p _ (sgn_get hp)
theorem TL.ok (h : TL ts t) {p : Nat} (hp : p < ts.length) : OKc (sgn ts p) := h.2.1 _ (List.mem_of_getElem? (sgn_get hp))
theorem TL.lt (h : TL ts t) (p : Nat) : sgn ts p < 127 := by
  by_cases hp : p < ts.length
  · exact (h.ok hp).lt
  · unfold sgn
    rw [List.getD_eq_getElem?_getD, List.getElem?_eq_none (by omega)]
    decide
theorem sq_signAt {k : Nat} {Φ : Int32 → Prop} (hT : TL ts t) (hk : k ≤ 1000) (h : Φ (nI (sgn ts k))) : wp_X8_signAt (nI ts.length) t (nI k) Φ := by
  have hn := hT.1
  unfold wp_X8_signAt
  refine pk_le ts.length k (fun h1 => ?_) (fun h1 => ⟨pk_in k 1000 (by omega), ?_⟩)
  · have e : sgn ts k = 0 := by
      unfold sgn
      rw [List.getD_eq_getElem?_getD, List.getElem?_eq_none h1]
      rfl
    rw [e] at h
    exact h
  · rw [nI_clamp (by omega), hT.at h1]
    exact h
/-- (c < lo → A) ∧ (¬ c < lo → (hi < c → B) ∧ (¬ hi < c → C)) -/
theorem rg {c lo hi : Nat} {A B C : Prop} (hc : c < 127) (hl : lo < 200) (hh : hi < 200) (no : ¬ (lo ≤ c ∧ c ≤ hi) → A ∧ B) (ys : lo ≤ c → c ≤ hi → C) : (nI c < nI lo → A) ∧ (¬ nI c < nI lo → (nI hi < nI c → B) ∧ (¬ nI hi < nI c → C)) :=
  pk_lt c lo (fun h => (no (by omega)).1) (fun h => pk_lt hi c (fun h2 => (no (by omega)).2) (fun h2 => ys h h2))
theorem cL_iff {c : Nat} : isLt c = true ↔ 97 ≤ c ∧ c ≤ 122 := by unfold isLt; rw [Bool.and_eq_true, decide_eq_true_eq, decide_eq_true_eq]
theorem cD_iff {c : Nat} : isDg c = true ↔ 48 ≤ c ∧ c ≤ 57 := by unfold isDg; rw [Bool.and_eq_true, decide_eq_true_eq, decide_eq_true_eq]
theorem cB_iff {c : Nat} : cB c = true ↔ c = 10 ∨ c = 32 := by unfold cB; rw [Bool.or_eq_true, beq_iff_eq, beq_iff_eq]
theorem cS_iff {c : Nat} : cS c = true ↔ (40 ≤ c ∧ c ≤ 43) ∨ c = 45 ∨ (59 ≤ c ∧ c ≤ 61) := by
  unfold cS
  rw [Bool.or_eq_true, Bool.or_eq_true, Bool.and_eq_true, Bool.and_eq_true, beq_iff_eq, decide_eq_true_eq, decide_eq_true_eq, decide_eq_true_eq, decide_eq_true_eq]
  exact or_assoc
theorem sgn_end {p : Nat} (hp : ts.length ≤ p) : sgn ts p = 0 := by
  unfold sgn
  rw [List.getD_eq_getElem?_getD, List.getElem?_eq_none hp]
  rfl
theorem eW_push (l : List Nat) (c : Nat) : eW (l ++ [c]) = ((eW l * 27) + (nI c).toInt64) - 96 := by unfold eW; rw [List.foldl_append]; rfl
theorem eN_push (l : List Nat) (c : Nat) : eN (l ++ [c]) = ((eN l * 10) + nI c) - 48 := by unfold eN; rw [List.foldl_append]; rfl
/-- the word's loop -/
theorem sq_nt109 (hT : TL ts t) {p : Nat} (hp : p < ts.length) (hL : isLt (sgn ts p) = true) (h : ∀ w d, CR ts (tkEnd ts p) p (nI (tkAt ts p).1) w d (tkAt ts p) → Φ (nI (tkEnd ts p)) (nI p) (nI (tkAt ts p).1) w d) {T d : Int32} : ∃ n_, lf_X8_nextToken_109 (nI ts.length) t Φ n_ (nI p) (nI p) T 0 d := by
  have hn := hT.1
  have eE : tkEnd ts p = wE isLt ts p := by unfold tkEnd; rw [if_pos hL]
  have hE := tkEnd_gt hp
  rw [eE] at hE h
  have A1 : wE isLt ts p - p ≤ 8 → tkAt ts p = (1, p, cut ts p (wE isLt ts p)) := fun z => by unfold tkAt; rw [if_pos hL, if_pos z]
  have A4 : ¬ wE isLt ts p - p ≤ 8 → tkAt ts p = (4, p, []) := fun z => by unfold tkAt; rw [if_pos hL, if_neg z]
  have ex : ∀ q, p ≤ q → q = wE isLt ts p → kf_X8_nextToken_188 (nI ts.length) t Φ (nI q) (nI p) T (eW (cut ts p (min q (p + 8)))) d := by
    intro q hpq he
    unfold kf_X8_nextToken_188
    rw [pk_sub hpq]
    refine pk_le (q - p) 8 (fun z => ?_) (fun z => ?_)
    · subst he
      rw [A1 z] at h
      rw [Nat.min_eq_left (by omega)]
      exact h _ _ ⟨rfl, rfl, by (try dsimp only); decide, hE.2, Nat.le_of_lt hE.1, fun z => absurd z (by (try dsimp only); decide), fun _ => hp, fun _ => rfl, fun z => absurd z (by (try dsimp only); decide), fun z => absurd z (by (try dsimp only); decide), fun z => absurd z (by (try dsimp only); decide)⟩
    · subst he
      rw [A4 (by omega)] at h
      exact h _ _ ⟨rfl, rfl, by (try dsimp only); decide, hE.2, Nat.le_of_lt hE.1, fun z => absurd z (by (try dsimp only); decide), fun _ => hp, fun z => absurd z (by (try dsimp only); decide), fun z => absurd z (by (try dsimp only); decide), fun z => absurd z (by (try dsimp only); decide), fun z => absurd z (by (try dsimp only); decide)⟩
  have step : ∀ (q : Nat) (back : Int32 → Int32 → Int32 → Int64 → Int32 → Prop), p ≤ q → q ≤ ts.length → wE isLt ts q = wE isLt ts p → (q < ts.length → isLt (sgn ts q) = true → back (nI (q + 1)) (nI p) T (eW (cut ts p (min (q + 1) (p + 8)))) d) → lb_X8_nextToken_109 (nI ts.length) t Φ back (nI q) (nI p) T (eW (cut ts p (min q (p + 8)))) d := by
    intro q back hpq hq he hb
    unfold lb_X8_nextToken_109
    have hno : ¬ isLt (sgn ts q) = true → kf_X8_nextToken_188 (nI ts.length) t Φ (nI q) (nI p) T (eW (cut ts p (min q (p + 8)))) d := fun z => ex q hpq (by rw [← he, wE_no z])
    refine sq_signAt hT (by omega) (pk_lt (sgn ts q) 97 (fun z => hno (fun y => ?_)) (fun z => ?_) rfl rfl (Nat.lt_trans (hT.lt q) (by decide)) (by decide))
    · rw [cL_iff] at y; omega
    refine sq_signAt hT (by omega) (pk_lt 122 (sgn ts q) (fun z2 => hno (fun y => ?_)) (fun z2 => ?_) rfl rfl (by decide) (Nat.lt_trans (hT.lt q) (by decide)))
    · rw [cL_iff] at y; omega
    have hy : isLt (sgn ts q) = true := cL_iff.mpr ⟨z, z2⟩
    have hlt : q < ts.length := by
      rcases Nat.lt_or_ge q ts.length with y | y
      · exact y
      · rw [sgn_end y] at hy; exact absurd hy (by decide)
    have hb2 := hb hlt hy
    rw [pk_sub hpq, nI_1]
    refine pk_le 8 (q - p) (fun z3 => ?_) (fun z3 => ?_)
    · rw [Nat.min_eq_right (by omega)] at hb2 ⊢
      exact hb2
    · rw [Nat.min_eq_left (by omega), cut_sn hpq hlt, eW_push] at hb2
      rw [Nat.min_eq_left (by omega)]
      exact sq_signAt hT (by omega) hb2
  have key : ∀ (k q : Nat), k = ts.length - q → p ≤ q → q ≤ ts.length → wE isLt ts q = wE isLt ts p → lf_X8_nextToken_109 (nI ts.length) t Φ (k + 1) (nI q) (nI p) T (eW (cut ts p (min q (p + 8)))) d := by
    intro k
    induction k with
    | zero =>
      intro q hk hpq hq he
      exact step q _ hpq hq he (fun z => absurd z (by omega))
    | succ k ih =>
      intro q hk hpq hq he
      exact step q _ hpq hq he (fun z y => ih (q + 1) (by omega) (by omega) (by omega) (by rw [← he, wE_yes z y]))
  exact ⟨_, by have := key (ts.length - p) p rfl (Nat.le_refl _) (Nat.le_of_lt hp) rfl; rw [Nat.min_eq_left (by omega), cut_nil] at this; exact this⟩
/-- the number's loop -/
theorem sq_nt224 (hT : TL ts t) {p : Nat} (hp : p < ts.length) (hL : ¬ isLt (sgn ts p) = true) (hD : isDg (sgn ts p) = true) (h : ∀ w d, CR ts (tkEnd ts p) p (nI (tkAt ts p).1) w d (tkAt ts p) → Φ (nI (tkEnd ts p)) (nI p) (nI (tkAt ts p).1) w d) {T : Int32} {w : Int64} : ∃ n_, lf_X8_nextToken_224 (nI ts.length) t Φ n_ (nI p) (nI p) T w 0 := by
  have hn := hT.1
  have eE : tkEnd ts p = wE isDg ts p := by unfold tkEnd; rw [if_neg hL, if_pos hD]
  have hE := tkEnd_gt hp
  rw [eE] at hE h
  have A1 : wE isDg ts p - p ≤ 4 → tkAt ts p = (2, p, cut ts p (wE isDg ts p)) := fun z => by unfold tkAt; rw [if_neg hL, if_pos hD, if_pos z]
  have A4 : ¬ wE isDg ts p - p ≤ 4 → tkAt ts p = (4, p, []) := fun z => by unfold tkAt; rw [if_neg hL, if_pos hD, if_neg z]
  have ex : ∀ q, p ≤ q → q = wE isDg ts p → kf_X8_nextToken_299 (nI ts.length) t Φ (nI q) (nI p) T w (eN (cut ts p (min q (p + 4)))) := by
    intro q hpq he
    unfold kf_X8_nextToken_299
    rw [pk_sub hpq]
    refine pk_le (q - p) 4 (fun z => ?_) (fun z => ?_)
    · subst he
      rw [A1 z] at h
      rw [Nat.min_eq_left (by omega)]
      exact h _ _ ⟨rfl, rfl, by (try dsimp only); decide, hE.2, Nat.le_of_lt hE.1, fun z => absurd z (by (try dsimp only); decide), fun _ => hp, fun z => absurd z (by (try dsimp only); decide), fun _ => rfl, fun z => absurd z (by (try dsimp only); decide), fun z => absurd z (by (try dsimp only); decide)⟩
    · subst he
      rw [A4 (by omega)] at h
      exact h _ _ ⟨rfl, rfl, by (try dsimp only); decide, hE.2, Nat.le_of_lt hE.1, fun z => absurd z (by (try dsimp only); decide), fun _ => hp, fun z => absurd z (by (try dsimp only); decide), fun z => absurd z (by (try dsimp only); decide), fun z => absurd z (by (try dsimp only); decide), fun z => absurd z (by (try dsimp only); decide)⟩
  have step : ∀ (q : Nat) (back : Int32 → Int32 → Int32 → Int64 → Int32 → Prop), p ≤ q → q ≤ ts.length → wE isDg ts q = wE isDg ts p → (q < ts.length → isDg (sgn ts q) = true → back (nI (q + 1)) (nI p) T w (eN (cut ts p (min (q + 1) (p + 4))))) → lb_X8_nextToken_224 (nI ts.length) t Φ back (nI q) (nI p) T w (eN (cut ts p (min q (p + 4)))) := by
    intro q back hpq hq he hb
    unfold lb_X8_nextToken_224
    have hno : ¬ isDg (sgn ts q) = true → kf_X8_nextToken_299 (nI ts.length) t Φ (nI q) (nI p) T w (eN (cut ts p (min q (p + 4)))) := fun z => ex q hpq (by rw [← he, wE_no z])
    refine sq_signAt hT (by omega) (pk_lt (sgn ts q) 48 (fun z => hno (fun y => ?_)) (fun z => ?_) rfl rfl (Nat.lt_trans (hT.lt q) (by decide)) (by decide))
    · rw [cD_iff] at y; omega
    refine sq_signAt hT (by omega) (pk_lt 57 (sgn ts q) (fun z2 => hno (fun y => ?_)) (fun z2 => ?_) rfl rfl (by decide) (Nat.lt_trans (hT.lt q) (by decide)))
    · rw [cD_iff] at y; omega
    have hy : isDg (sgn ts q) = true := cD_iff.mpr ⟨z, z2⟩
    have hlt : q < ts.length := by
      rcases Nat.lt_or_ge q ts.length with y | y
      · exact y
      · rw [sgn_end y] at hy; exact absurd hy (by decide)
    have hb2 := hb hlt hy
    rw [pk_sub hpq, nI_1]
    refine pk_le 4 (q - p) (fun z3 => ?_) (fun z3 => ?_)
    · rw [Nat.min_eq_right (by omega)] at hb2 ⊢
      exact hb2
    · rw [Nat.min_eq_left (by omega), cut_sn hpq hlt, eN_push] at hb2
      rw [Nat.min_eq_left (by omega)]
      exact sq_signAt hT (by omega) hb2
  have key : ∀ (k q : Nat), k = ts.length - q → p ≤ q → q ≤ ts.length → wE isDg ts q = wE isDg ts p → lf_X8_nextToken_224 (nI ts.length) t Φ (k + 1) (nI q) (nI p) T w (eN (cut ts p (min q (p + 4)))) := by
    intro k
    induction k with
    | zero =>
      intro q hk hpq hq he
      exact step q _ hpq hq he (fun z => absurd z (by omega))
    | succ k ih =>
      intro q hk hpq hq he
      exact step q _ hpq hq he (fun z y => ih (q + 1) (by omega) (by omega) (by omega) (by rw [← he, wE_yes z y]))
  exact ⟨_, by have := key (ts.length - p) p rfl (Nat.le_refl _) (Nat.le_of_lt hp) rfl; rw [Nat.min_eq_left (by omega), cut_nil] at this; exact this⟩
/-- at a token's first sign, or at the end -/
theorem sq_nt52 (hT : TL ts t) {p : Nat} (hp : p ≤ ts.length) (hB : p < ts.length → ¬ cB (sgn ts p) = true) (h : ∀ (k : Tok) (r : List Tok) (q b : Nat) (T : Int32) (w : Int64) (d : Int32), tokL ts p = k :: r → (¬ k.1 = 0 → r = tokL ts q) → (k.1 = 0 → r = []) → CR ts q b T w d k → Φ (nI q) (nI b) T w d) {B T d : Int32} {w : Int64} : kf_X8_nextToken_52 (nI ts.length) t Φ (nI p) B T w d := by
  have hn := hT.1
  unfold kf_X8_nextToken_52
  refine ⟨fun z => ?_, fun z => ?_⟩
  · have hlt : p < ts.length := Nat.lt_of_le_of_ne hp (fun e => z (by rw [e]))
    have hc := hT.lt p
    have hk := tokL_tok hlt (hB hlt)
    have kk : ∀ w d, CR ts (tkEnd ts p) p (nI (tkAt ts p).1) w d (tkAt ts p) → Φ (nI (tkEnd ts p)) (nI p) (nI (tkAt ts p).1) w d := fun w d hC => by
      refine h _ _ _ _ _ _ _ hk (fun _ => rfl) (fun z => ?_) hC
      exact absurd (hC.2.2.2.2.2.1 z) (by have := hC.2.2.2.2.2.1 z; intro y; have := tkEnd_gt hlt; omega)
    rw [nI_clamp (by omega), hT.at hlt]
    refine ⟨pk_in p 1000 (by omega), ?_⟩
    have h212 : ¬ isLt (sgn ts p) = true → kf_X8_nextToken_212 (nI ts.length) t Φ (nI p) (nI p) T 0 0 (nI (sgn ts p)) := by
      intro hL
      unfold kf_X8_nextToken_212
      have h322 : ¬ isDg (sgn ts p) = true → kf_X8_nextToken_322 (nI ts.length) t Φ (nI p) (nI p) T 0 0 (nI (sgn ts p)) := by
        intro hD
        have eE : tkEnd ts p = p + 1 := by unfold tkEnd; rw [if_neg hL, if_neg hD]
        have y3 : cS (sgn ts p) = true → Φ (nI (p + 1)) (nI p) 3 0 0 := fun z => by
          have e : tkAt ts p = (3, p, [sgn ts p]) := by unfold tkAt; rw [if_neg hL, if_neg hD, if_pos z]
          rw [e, eE] at kk
          exact kk 0 0 ⟨rfl, rfl, by (try dsimp only); decide, hlt, Nat.le_succ _, fun z => absurd z (by (try dsimp only); decide), fun _ => hlt, fun z => absurd z (by (try dsimp only); decide), fun z => absurd z (by (try dsimp only); decide), fun _ => rfl, fun z => absurd z (by (try dsimp only); decide)⟩
        have y4 : ¬ cS (sgn ts p) = true → Φ (nI (p + 1)) (nI p) 4 0 0 := fun z => by
          have e : tkAt ts p = (4, p, []) := by unfold tkAt; rw [if_neg hL, if_neg hD, if_neg z]
          rw [e, eE] at kk
          exact kk 0 0 ⟨rfl, rfl, by (try dsimp only); decide, hlt, Nat.le_succ _, fun z => absurd z (by (try dsimp only); decide), fun _ => hlt, fun z => absurd z (by (try dsimp only); decide), fun z => absurd z (by (try dsimp only); decide), fun z => absurd z (by (try dsimp only); decide), fun z => absurd z (by (try dsimp only); decide)⟩
        have h345 : ¬ (40 ≤ sgn ts p ∧ sgn ts p ≤ 43) → kf_X8_nextToken_345 (nI ts.length) t Φ (nI (p + 1)) (nI p) T 0 0 (nI (sgn ts p)) := by
          intro hz
          unfold kf_X8_nextToken_345
          refine pk_eq (sgn ts p) 45 (fun e => y3 (cS_iff.mpr (Or.inr (Or.inl e)))) (fun e => ?_) rfl rfl (by omega) (by decide)
          refine pk_lt (sgn ts p) 59 (fun e2 => y4 (fun y => ?_)) (fun e2 => ?_) rfl rfl (by omega) (by decide)
          · rw [cS_iff] at y; omega
          refine pk_lt 61 (sgn ts p) (fun e3 => y4 (fun y => ?_)) (fun e3 => y3 (cS_iff.mpr (Or.inr (Or.inr ⟨e2, e3⟩)))) rfl rfl (by decide) (by omega)
          rw [cS_iff] at y; omega
        unfold kf_X8_nextToken_322
        rw [nI_1]
        refine pk_lt (sgn ts p) 40 (fun e => h345 (by omega)) (fun e => ?_) rfl rfl (by omega) (by decide)
        exact pk_le (sgn ts p) 43 (fun e2 => y3 (cS_iff.mpr (Or.inl ⟨e, e2⟩))) (fun e2 => h345 (by omega)) rfl rfl (by omega) (by decide)
      refine pk_lt (sgn ts p) 48 (fun e => h322 (fun y => ?_)) (fun e => ?_) rfl rfl (by omega) (by decide)
      · rw [cD_iff] at y; omega
      refine pk_lt 57 (sgn ts p) (fun e2 => h322 (fun y => ?_)) (fun e2 => sq_nt224 hT hlt hL (cD_iff.mpr ⟨e, e2⟩) kk) rfl rfl (by decide) (by omega)
      rw [cD_iff] at y; omega
    refine pk_lt (sgn ts p) 97 (fun e => h212 (fun y => ?_)) (fun e => ?_) rfl rfl (by omega) (by decide)
    · rw [cL_iff] at y; omega
    refine pk_lt 122 (sgn ts p) (fun e2 => h212 (fun y => ?_)) (fun e2 => sq_nt109 hT hlt (cL_iff.mpr ⟨e, e2⟩) kk) rfl rfl (by decide) (by omega)
    rw [cL_iff] at y; omega
  · have e : p = ts.length := (nI_eq (by omega) (by omega)).mp z
    subst e
    exact h _ _ _ _ _ _ _ (tokL_end (Nat.le_refl _)) (fun z => absurd rfl z) (fun _ => rfl) ⟨rfl, rfl, by (try dsimp only); decide, Nat.le_refl _, Nat.le_refl _, fun _ => ⟨rfl, rfl⟩, fun z => absurd rfl z, fun z => absurd z (by (try dsimp only); decide), fun z => absurd z (by (try dsimp only); decide), fun z => absurd z (by (try dsimp only); decide), fun _ => rfl⟩
theorem sq_X8_nextToken (hT : TL ts t) {p : Nat} (hp : p ≤ ts.length) (h : ∀ (k : Tok) (r : List Tok) (q b : Nat) (T : Int32) (w : Int64) (d : Int32), tokL ts p = k :: r → (¬ k.1 = 0 → r = tokL ts q) → (k.1 = 0 → r = []) → CR ts q b T w d k → Φ (nI q) (nI b) T w d) {B T d : Int32} {w : Int64} : wp_X8_nextToken (nI ts.length) t (nI p) B T w d Φ := by
  have hn := hT.1
  refine ⟨ts.length - p + 1, ?_⟩
  have key : ∀ (k q : Nat), k = ts.length - q → q ≤ ts.length → tokL ts q = tokL ts p → lf_X8_nextToken_0 (nI ts.length) t Φ (k + 1) (nI q) B T w d := by
    intro k
    induction k with
    | zero =>
      intro q hk hq he
      show lb_X8_nextToken_0 _ _ _ _ _ _ _ _ _
      unfold lb_X8_nextToken_0
      exact ⟨fun _ => sq_nt52 hT hq (fun z => absurd z (by omega)) (by rw [he]; exact h), fun h1 => absurd (nI_le (by omega) (by omega)) h1⟩
    | succ k ih =>
      intro q hk hq he
      show lb_X8_nextToken_0 _ _ _ _ _ _ _ _ _
      unfold lb_X8_nextToken_0
      have hlt : q < ts.length := by omega
      have hc := hT.lt q
      refine ⟨fun z => absurd z (nI_ge hlt (by omega)), fun _ => ⟨pk_in q 1000 (by omega), ?_⟩⟩
      rw [nI_1, nI_clamp (by omega), hT.at hlt]
      have bk : cB (sgn ts q) = true → lf_X8_nextToken_0 (nI ts.length) t Φ (k + 1) (nI (q + 1)) B T w d := fun z => ih (q + 1) (by omega) (by omega) (by rw [← he, tokL_blank hlt z])
      refine pk_eq (sgn ts q) 32 (fun e => bk (cB_iff.mpr (Or.inr e))) (fun e => ⟨pk_in q 1000 (by omega), ?_⟩) rfl rfl (by omega) (by decide)
      have h10 := pk_eq (A := lf_X8_nextToken_0 (nI ts.length) t Φ (k + 1) (nI (q + 1)) B T w d) (B := kf_X8_nextToken_52 (nI ts.length) t Φ (nI q) B T w d) (sgn ts q) 10 (fun e2 => bk (cB_iff.mpr (Or.inl e2))) (fun e2 => sq_nt52 hT hq (fun _ y => by rw [cB_iff] at y; omega) (by rw [he]; exact h)) rfl rfl (by omega) (by decide)
      exact ⟨h10.2, h10.1⟩
  exact key (ts.length - p) p rfl hp rfl
end NT
end
section
/-- the number that a row of digits makes, the first the least -/
def nBr (B : Nat) : List Nat → Nat
  | [] => 0
  | c :: l => c + B * nBr B l
theorem nBr_inj {B : Nat} : ∀ (l m : List Nat), (∀ c ∈ l, 0 < c ∧ c < B) → (∀ c ∈ m, 0 < c ∧ c < B) → nBr B l = nBr B m → l = m := by
  intro l
  induction l with
  | nil =>
    intro m _ hm e
    cases m with
    | nil => rfl
    | cons c m =>
      have h1 := (hm c List.mem_cons_self).1
      have e : 0 = c + B * nBr B m := e
      omega
  | cons c l ih =>
    intro m hl hm e
    cases m with
    | nil =>
      have h1 := (hl c List.mem_cons_self).1
      have e : c + B * nBr B l = 0 := e
      omega
    | cons d m =>
      have h1 := hl c List.mem_cons_self
      have h2 := hm d List.mem_cons_self
      have e : c + B * nBr B l = d + B * nBr B m := e
      have ec : c = d := by
        have h3 : (c + B * nBr B l) % B = (d + B * nBr B m) % B := by rw [e]
        rw [Nat.add_mul_mod_self_left, Nat.add_mul_mod_self_left, Nat.mod_eq_of_lt h1.2, Nat.mod_eq_of_lt h2.2] at h3
        exact h3
      subst ec
      have en : nBr B l = nBr B m := Nat.eq_of_mul_eq_mul_left (show 0 < B by omega) (by omega)
      rw [ih m (fun x hx => hl x (List.mem_cons_of_mem _ hx)) (fun x hx => hm x (List.mem_cons_of_mem _ hx)) en]
/-- a word: up to eight letters -/
def WD (w : List Nat) : Prop := w.length ≤ 8 ∧ ∀ c ∈ w, 97 ≤ c ∧ c ≤ 122
theorem sh_or {a c : Nat} (ha : a < 2 ^ 55) (hc : c < 256) : (lN a <<< ((8 : Int32).toInt64 &&& 63)) ||| lN c = lN (a * 256 + c) := by
  apply Int64.toBitVec_inj.mp
  apply BitVec.eq_of_toNat_eq
  have e8 : ((8 : Int32).toInt64 &&& 63) = 8 := by decide
  rw [e8, Int64.toBitVec_or, Int64.toBitVec_shiftLeft, BitVec.toNat_or]
  have es : (BitVec.smod (8 : Int64).toBitVec 64) = 8#64 := by decide
  rw [es, BitVec.shiftLeft_eq', BitVec.toNat_shiftLeft]
  have ea : (lN a).toBitVec.toNat = a := Nat.mod_eq_of_lt (by omega)
  have ec : (lN c).toBitVec.toNat = c := Nat.mod_eq_of_lt (by omega)
  have er : (lN (a * 256 + c)).toBitVec.toNat = a * 256 + c := Nat.mod_eq_of_lt (by omega)
  rw [ea, ec, er, show (8#64).toNat = 8 from rfl, Nat.shiftLeft_eq, Nat.mod_eq_of_lt (by omega)]
  have := Nat.shiftLeft_add_eq_or_of_lt (b := c) (i := 8) (by omega) a
  rw [Nat.shiftLeft_eq] at this
  rw [← this]
theorem eB_rev : ∀ m : List Nat, m.length ≤ 8 → (∀ c ∈ m, 97 ≤ c ∧ c ≤ 122) → eB m.reverse = lN (nBr 256 m) ∧ 2 * nBr 256 m < 256 ^ m.length := by
  intro m
  induction m with
  | nil => intro _ _; exact ⟨rfl, by decide⟩
  | cons c m ih =>
    intro hl hc
    have hl : m.length + 1 ≤ 8 := hl
    obtain ⟨h1, h2⟩ := ih (by omega) (fun x hx => hc x (List.mem_cons_of_mem _ hx))
    have hcc := hc c List.mem_cons_self
    have hp : 256 ^ m.length ≤ 256 ^ 7 := Nat.pow_le_pow_right (by decide) (by omega)
    have hb : nBr 256 m < 2 ^ 55 := by
      have : (256 : Nat) ^ 7 = 2 ^ 56 := by decide
      omega
    refine ⟨?_, ?_⟩
    · rw [List.reverse_cons]
      unfold eB
      rw [List.foldl_append]
      show (eB m.reverse <<< _) ||| (nI c).toInt64 = lN (c + 256 * nBr 256 m)
      rw [h1, nI_l (by omega), sh_or hb (by omega)]
      exact congrArg lN (by omega)
    · show 2 * (c + 256 * nBr 256 m) < 256 ^ (m.length + 1)
      rw [Nat.pow_succ]
      omega
theorem eW_rev : ∀ m : List Nat, m.length ≤ 8 → (∀ c ∈ m, 97 ≤ c ∧ c ≤ 122) → eW m.reverse = lN (nBr 27 (m.map (fun c => c - 96))) ∧ nBr 27 (m.map (fun c => c - 96)) < 27 ^ m.length := by
  intro m
  induction m with
  | nil => intro _ _; exact ⟨rfl, by decide⟩
  | cons c m ih =>
    intro hl hc
    have hl : m.length + 1 ≤ 8 := hl
    obtain ⟨h1, h2⟩ := ih (by omega) (fun x hx => hc x (List.mem_cons_of_mem _ hx))
    have hcc := hc c List.mem_cons_self
    refine ⟨?_, ?_⟩
    · rw [List.reverse_cons]
      unfold eW
      rw [List.foldl_append]
      show ((eW m.reverse * 27) + (nI c).toInt64) - 96 = lN ((c - 96) + 27 * nBr 27 (m.map (fun c => c - 96)))
      rw [h1, nI_l (by omega), show (27 : Int64) = lN 27 from rfl, show (96 : Int64) = lN 96 from rfl, lN_mul, lN_add, lN_sub (by omega)]
      exact congrArg lN (by omega)
    · show (c - 96) + 27 * nBr 27 (m.map (fun c => c - 96)) < 27 ^ (m.length + 1)
      rw [Nat.pow_succ]
      omega
theorem WD.rev {w : List Nat} (h : WD w) : w.reverse.length ≤ 8 ∧ ∀ c ∈ w.reverse, 97 ≤ c ∧ c ≤ 122 := ⟨by rw [List.length_reverse]; exact h.1, fun c hc => h.2 c (List.mem_reverse.mp hc)⟩
theorem eB_nat {w : List Nat} (h : WD w) : eB w = lN (nBr 256 w.reverse) ∧ nBr 256 w.reverse < 2 ^ 63 := by
  obtain ⟨h1, h2⟩ := h.rev
  obtain ⟨a, b⟩ := eB_rev w.reverse h1 h2
  rw [List.reverse_reverse] at a
  refine ⟨a, ?_⟩
  have hp : 256 ^ w.reverse.length ≤ 256 ^ 8 := Nat.pow_le_pow_right (by decide) h1
  have : (256 : Nat) ^ 8 = 2 ^ 64 := by decide
  omega
theorem eW_nat {w : List Nat} (h : WD w) : eW w = lN (nBr 27 (w.reverse.map (fun c => c - 96))) ∧ nBr 27 (w.reverse.map (fun c => c - 96)) < 2 ^ 63 := by
  obtain ⟨h1, h2⟩ := h.rev
  obtain ⟨a, b⟩ := eW_rev w.reverse h1 h2
  rw [List.reverse_reverse] at a
  refine ⟨a, ?_⟩
  have hp : 27 ^ w.reverse.length ≤ 27 ^ 8 := Nat.pow_le_pow_right (by decide) h1
  have : (27 : Nat) ^ 8 < 2 ^ 63 := by decide
  omega
theorem eB_inj {w z : List Nat} (hw : WD w) (hz : WD z) : eB w = eB z ↔ w = z := by
  refine ⟨fun e => ?_, fun e => by rw [e]⟩
  obtain ⟨a1, a2⟩ := eB_nat hw
  obtain ⟨b1, b2⟩ := eB_nat hz
  rw [a1, b1] at e
  have en := (pk_lEQ a2 b2).mp e
  have := nBr_inj _ _ (fun c hc => by have := hw.2 c (List.mem_reverse.mp hc); omega) (fun c hc => by have := hz.2 c (List.mem_reverse.mp hc); omega) en
  exact List.reverse_inj.mp this
theorem eW_inj {w z : List Nat} (hw : WD w) (hz : WD z) : eW w = eW z ↔ w = z := by
  refine ⟨fun e => ?_, fun e => by rw [e]⟩
  obtain ⟨a1, a2⟩ := eW_nat hw
  obtain ⟨b1, b2⟩ := eW_nat hz
  rw [a1, b1] at e
  have en := (pk_lEQ a2 b2).mp e
  have h0 := nBr_inj _ _ (fun c hc => by obtain ⟨x, hx, rfl⟩ := List.mem_map.mp hc; have := hw.2 x (List.mem_reverse.mp hx); omega) (fun c hc => by obtain ⟨x, hx, rfl⟩ := List.mem_map.mp hc; have := hz.2 x (List.mem_reverse.mp hx); omega) en
  have h1 : w.reverse = z.reverse := by
    have h2 := congrArg (List.map (fun c => c + 96)) h0
    rw [List.map_map, List.map_map] at h2
    have hid : ∀ l : List Nat, (∀ c ∈ l, 97 ≤ c ∧ c ≤ 122) → l.map ((fun c => c + 96) ∘ fun c => c - 96) = l := by
      intro l
      induction l with
      | nil => intro _; rfl
      | cons c l ih =>
        intro hl
        have := hl c List.mem_cons_self
        rw [List.map_cons, ih (fun x hx => hl x (List.mem_cons_of_mem _ hx))]
        show (c - 96 + 96) :: l = c :: l
        rw [show c - 96 + 96 = c by omega]
    rw [hid _ hw.rev.2, hid _ hz.rev.2] at h2
    exact h2
  exact List.reverse_inj.mp h1
/-- the words that are kept, in the class's order: token 12 is the first -/
def KW : List (List Nat) := [[115, 116, 117, 102, 102], [98, 101, 97, 114, 115], [99, 111, 115, 116, 115], [99, 101, 108, 108], [105, 110, 112, 117, 116], [108, 105, 110, 101], [107, 101, 101, 112], [98, 121], [115, 101, 116], [119, 114, 105, 116, 101], [103, 111], [105, 102], [99, 97, 108, 108], [109, 101, 110, 100], [104, 97, 108, 116], [119, 111, 114, 110], [110, 111, 116], [97, 110, 100], [111, 114]]
theorem KW_wd : ∀ z ∈ KW, WD z := by unfold WD KW; decide
def kwI (w : List Nat) : Nat := if w ∈ KW then 12 + KW.idxOf w else 3
def sgI (c : Nat) : Nat := if c = 40 then 4 else if c = 41 then 5 else if c = 59 then 6 else if c = 60 then 7 else if c = 61 then 8 else if c = 43 then 9 else if c = 45 then 10 else if c = 42 then 11 else 1
/-- the class's number of a token -/
def ix (k : Tok) : Nat := if k.1 = 0 then 0 else if k.1 = 1 then kwI k.2.2 else if k.1 = 2 then 2 else if k.1 = 3 then sgI (k.2.2.headD 0) else 1
theorem KW_eB : KW.map eB = (List.range 19).map (fun j => tkS (12 + j)) := by decide +kernel
theorem KW_eW : KW.map eW = [10506516, 1162531, 1903978, 63030, 5070782, 243140, 220309, 79, 14006, 12584543, 204, 249, 60114, 259906, 158537, 464144, 10631, 1111, 423] := by decide +kernel
end
section
def MT (k : Tok) (tok : Nat) (p : Int32) (v : Int64) : Prop := tok = ix k ∧ p = nI k.2.1 ∧ (k.1 = 1 → v = eB k.2.2) ∧ (k.1 = 2 → v = eM k.2.2)
/-- the class's rows hold the tokens P -/
def AC (P : List Tok) (tk : Nat → Nat) (pl : Nat → Int32) (vl : Nat → Int64) : Prop := ∀ j k, P[j]? = some k → MT k (tk j) (pl j) (vl j)
theorem AC.nil {tk : Nat → Nat} {pl : Nat → Int32} {vl : Nat → Int64} : AC [] tk pl vl := fun j k h => by simp at h
theorem kwI_lt (w : List Nat) : kwI w < 31 := by
  unfold kwI
  by_cases h : w ∈ KW
  · rw [if_pos h]
    have : KW.idxOf w < KW.length := List.idxOf_lt_length_of_mem h
    have e : KW.length = 19 := rfl
    omega
  · rw [if_neg h]; decide
theorem sgI_lt (c : Nat) : sgI c < 31 := by
  unfold sgI
  repeat' split
  all_goals decide
theorem ix_lt (k : Tok) : ix k < 31 := by
  unfold ix
  repeat' split
  · decide
  · exact kwI_lt _
  · decide
  · exact sgI_lt _
  · decide
section SX
variable {P : List Tok} {tk : Nat → Nat} {pl : Nat → Int32} {vl : Nat → Int64}
theorem sq_X5_add {k : Tok} {t : Nat} {p : Int32} {v : Int64} {Φ : PTk} (hk : MT k t p v) (hc : P.length < 1001) (h : AC P tk pl vl) (hΦ : ∀ tk' pl' vl', AC (P ++ [k]) tk' pl' vl' → Φ (nI (P ++ [k]).length) tk' pl' vl') : wp_X5_add t p v (nI P.length) tk pl vl Φ := by
  unfold wp_X5_add
  have ic : vp_in (nI P.length) 1001 := pk_in P.length 1001 hc
  have ht : t < 31 := by rw [hk.1]; exact ix_lt k
  rw [nI_1, nI_clamp (n := P.length) (by omega)]
  refine ⟨fun z => absurd z (nI_ge (b := 1001) hc (by decide)), fun _ => ⟨ic, ht, ic, ic, ?_⟩⟩
  have h9 := hΦ (updN tk P.length t) (upd pl P.length p) (vp_updL vl P.length v) (fun j k' hj => ?_)
  · rw [List.length_append] at h9
    exact h9
  · by_cases e : j = P.length
    · subst e
      rw [List.getElem?_append_right (Nat.le_refl _), Nat.sub_self] at hj
      have e2 : k = k' := Option.some.inj hj
      subst e2
      rw [pk_us, pk_uLs]
      have e3 : updN tk P.length t P.length = t := if_pos rfl
      rw [e3]
      exact hk
    · by_cases hlt : j < P.length
      · rw [List.getElem?_append_left hlt] at hj
        rw [pk_un e, pk_uLn e]
        have e3 : updN tk P.length t j = tk j := if_neg e
        rw [e3]
        exact h j k' hj
      · rw [List.getElem?_append_right (by omega)] at hj
        rw [show j - P.length = (j - P.length - 1) + 1 by omega] at hj
        simp at hj
theorem KW_ix : ∀ j : Fin 19, KW.idxOf (KW.getD j.val []) = j.val ∧ KW.getD j.val [] ∈ KW ∧ eB (KW.getD j.val []) = tkS (12 + j.val) := by decide +kernel
theorem tk_small : ∀ j : Fin 12, ∃ x : Fin 97, tkS j.val = lN x.val := by decide +kernel
theorem eB_big {w : List Nat} (hw : WD w) (hne : w ≠ []) : ∃ N, 97 ≤ N ∧ N < 2 ^ 63 ∧ eB w = lN N := by
  obtain ⟨a, b⟩ := eB_nat hw
  refine ⟨_, ?_, b, a⟩
  cases e : w.reverse with
  | nil => exact absurd (List.reverse_eq_nil_iff.mp e) hne
  | cons c l =>
    have := hw.2 c (List.mem_reverse.mp (by rw [e]; exact List.mem_cons_self))
    show 97 ≤ c + 256 * nBr 256 l
    omega
theorem sq_X5_spelledW {w : List Nat} {Φ : Nat → Prop} (hw : WD w) (hne : w ≠ []) (h : Φ (kwI w)) : wp_X5_spelled (eB w) 3 Φ := by
  have key : ∀ m k : Nat, m = 31 - k → k ≤ 31 → (∀ j, j < k → ¬ tkS j = eB w) → lf_X5_spelled_11 (eB w) 3 Φ (m + 1) 31 (nI k) := by
    intro m
    induction m with
    | zero =>
      intro k hm hk hj
      have e : k = 31 := by omega
      subst e
      refine ⟨fun _ => ?_, fun z => absurd (by decide) z⟩
      have hn : ¬ w ∈ KW := by
        intro hm
        obtain ⟨j, hj1, hj2⟩ := List.getElem_of_mem hm
        have hj3 : j < 19 := hj1
        have := (KW_ix ⟨j, hj3⟩).2.2
        have e2 : KW.getD j [] = w := by rw [List.getD_eq_getElem?_getD, List.getElem?_eq_getElem hj1, hj2]; rfl
        simp only [e2] at this
        exact hj (12 + j) (by omega) this.symm
      have e : kwI w = 3 := if_neg hn
      rw [e] at h
      exact h
    | succ m ih =>
      intro k hm hk hj
      show lb_X5_spelled_11 _ _ _ _ _ _
      unfold lb_X5_spelled_11
      rw [nI_1, nI_clamp (n := k) (by omega)]
      refine ⟨fun z => absurd z (nI_ge (b := 31) (by omega) (by decide)), fun _ => ⟨pk_in k 31 (by omega), by omega, fun z => ih (k + 1) (by omega) (by omega) (fun j hj2 => ?_), fun z => ?_⟩⟩
      · by_cases e : j = k
        · subst e; exact fun y => z ((lg_cmp_eq _ _).mpr y)
        · exact hj j (by omega)
      · have e := (lg_cmp_eq _ _).mp z
        obtain ⟨N, h97, hN, eN⟩ := eB_big hw hne
        have hk12 : 12 ≤ k := by
          rcases Nat.lt_or_ge k 12 with y | y
          · obtain ⟨x, hx⟩ := tk_small ⟨k, y⟩
            simp only at hx
            rw [hx, eN] at e
            have := (pk_lEQ (a := x.val) (b := N) (by omega) hN).mp e
            omega
          · exact y
        obtain ⟨a1, a2, a3⟩ := KW_ix ⟨k - 12, by omega⟩
        simp only [show 12 + (k - 12) = k by omega] at a3
        have e2 : KW.getD (k - 12) [] = w := (eB_inj (KW_wd _ a2) hw).mp (a3.trans e)
        simp only [e2] at a1 a2
        have e3 : kwI w = k := by unfold kwI; rw [if_pos a2, a1]; omega
        rw [e3] at h
        exact h
  exact ⟨31 - 0 + 1, key (31 - 0) 0 rfl (by decide) (fun j hj => absurd hj (by omega))⟩
theorem sg_a : ∀ c : Fin 127, ∀ k : Fin 31, ¬ c.val = 0 → tkS k.val = lN c.val → k.val = sgI c.val := by decide +kernel
theorem sg_b : ∀ c : Fin 127, sgI c.val = 1 ∨ tkS (sgI c.val) = lN c.val := by decide +kernel
theorem sq_X5_spelledS {c : Nat} {Φ : Nat → Prop} (hc : c < 127) (h0 : ¬ c = 0) (h : Φ (sgI c)) : wp_X5_spelled ((nI c).toInt64) 1 Φ := by
  rw [nI_l (by omega)]
  have key : ∀ m k : Nat, m = 31 - k → k ≤ 31 → (∀ j, j < k → ¬ tkS j = lN c) → lf_X5_spelled_11 (lN c) 1 Φ (m + 1) 31 (nI k) := by
    intro m
    induction m with
    | zero =>
      intro k hm hk hj
      have e : k = 31 := by omega
      subst e
      refine ⟨fun _ => ?_, fun z => absurd (by decide) z⟩
      have e : sgI c = 1 := by
        rcases sg_b ⟨c, hc⟩ with y | y
        · exact y
        · exact absurd y (hj _ (sgI_lt c))
      rw [e] at h
      exact h
    | succ m ih =>
      intro k hm hk hj
      show lb_X5_spelled_11 _ _ _ _ _ _
      unfold lb_X5_spelled_11
      rw [nI_1, nI_clamp (n := k) (by omega)]
      refine ⟨fun z => absurd z (nI_ge (b := 31) (by omega) (by decide)), fun _ => ⟨pk_in k 31 (by omega), by omega, fun z => ih (k + 1) (by omega) (by omega) (fun j hj2 => ?_), fun z => ?_⟩⟩
      · by_cases e : j = k
        · subst e; exact fun y => z ((lg_cmp_eq _ _).mpr y)
        · exact hj j (by omega)
      · have e3 : k = sgI c := sg_a ⟨c, hc⟩ ⟨k, by omega⟩ h0 ((lg_cmp_eq _ _).mp z)
        rw [e3]
        exact h
  exact ⟨31 - 0 + 1, key (31 - 0) 0 rfl (by decide) (fun j hj => absurd hj (by omega))⟩
end SX
end
section
theorem wl_all (f : Nat → Bool) (ts : List Nat) : ∀ m p q, p ≤ q → q < wl f ts m p → f (sgn ts q) = true := by
  intro m
  induction m with
  | zero => intro p q h1 h2; exact absurd h2 (Nat.not_lt.mpr h1)
  | succ m ih =>
    intro p q h1 h2
    have h2 : q < (if f (sgn ts p) then wl f ts m (p + 1) else p) := h2
    by_cases h : f (sgn ts p) = true
    · rw [if_pos h] at h2
      by_cases e : q = p
      · rw [e]; exact h
      · exact ih (p + 1) q (by omega) h2
    · rw [if_neg h] at h2
      omega
theorem wE_all {f : Nat → Bool} {ts : List Nat} {p q : Nat} (h1 : p ≤ q) (h2 : q < wE f ts p) : f (sgn ts q) = true := wl_all f ts _ p q h1 h2
theorem wl_stop (f : Nat → Bool) (ts : List Nat) : ∀ m p, ts.length - p ≤ m → wl f ts m p < ts.length → ¬ f (sgn ts (wl f ts m p)) = true := by
  intro m
  induction m with
  | zero =>
    intro p h1 h2
    have h2 : p < ts.length := h2
    omega
  | succ m ih =>
    intro p h1 h2
    show ¬ f (sgn ts (if f (sgn ts p) then wl f ts m (p + 1) else p)) = true
    have h2 : (if f (sgn ts p) then wl f ts m (p + 1) else p) < ts.length := h2
    by_cases h : f (sgn ts p) = true
    · rw [if_pos h] at h2 ⊢
      exact ih (p + 1) (by omega) h2
    · rw [if_neg h]
      exact h
theorem wE_stop {f : Nat → Bool} {ts : List Nat} {p : Nat} (_ : p ≤ ts.length) (h : wE f ts p < ts.length) : ¬ f (sgn ts (wE f ts p)) = true := wl_stop f ts _ p (Nat.le_refl _) h
theorem cut_mem {ts : List Nat} {p q c : Nat} (hq : q ≤ ts.length) (h : c ∈ cut ts p q) : ∃ j, p ≤ j ∧ j < q ∧ c = sgn ts j := by
  obtain ⟨i, hi, e⟩ := List.getElem_of_mem h
  have hl := cut_len (p := p) hq
  have hi2 : i < q - p := by omega
  refine ⟨p + i, by omega, by omega, ?_⟩
  have h9 : (cut ts p q)[i]? = some c := by rw [List.getElem?_eq_getElem hi, e]
  unfold cut at h9
  rw [List.getElem?_take_of_lt hi2, List.getElem?_drop, sgn_get (by omega)] at h9
  exact (Option.some.inj h9).symm
theorem eB_push (l : List Nat) (c : Nat) : eB (l ++ [c]) = (eB l <<< ((8 : Int32).toInt64 &&& 63)) ||| (nI c).toInt64 := by unfold eB; rw [List.foldl_append]; rfl
theorem eM_push (l : List Nat) (c : Nat) : eM (l ++ [c]) = (eM l * 10) + ((nI c - 48).toInt64) := by unfold eM; rw [List.foldl_append]; rfl
section SY
variable {ts : List Nat} {sg : Nat → Int32} {P : List Tok} {tk : Nat → Nat} {pl : Nat → Int32} {vl : Nat → Int64}
theorem sq_X5_addWord {a : Nat} {Φ : PTk} (hT : TL ts sg) (ha : a < ts.length) (hL : isLt (sgn ts a) = true) (hc : P.length < 1001) (h : AC P tk pl vl) (hΦ : ∀ tk' pl' vl', AC (P ++ [tkAt ts a]) tk' pl' vl' → Φ (nI (P ++ [tkAt ts a]).length) tk' pl' vl') : wp_X5_addWord sg (nI a) (nI (wE isLt ts a)) (nI P.length) tk pl vl Φ := by
  have hn := hT.1
  have hE : a < wE isLt ts a ∧ wE isLt ts a ≤ ts.length := by
    rw [wE_yes ha hL]
    exact ⟨wE_ge, wE_le ha⟩
  have key : ∀ (m q : Nat), m = wE isLt ts a - q → a ≤ q → q ≤ wE isLt ts a → lf_X5_addWord_5 sg (nI a) (nI (wE isLt ts a)) Φ (m + 1) (nI P.length) tk pl vl (eB (cut ts a q)) (nI q) := by
    intro m
    induction m with
    | zero =>
      intro q hm hq1 hq2
      have e : q = wE isLt ts a := by omega
      show lb_X5_addWord_5 _ _ _ _ _ _ _ _ _ _ _
      unfold lb_X5_addWord_5
      rw [e, pk_sub (Nat.le_of_lt hE.1)]
      refine ⟨fun _ => pk_le (wE isLt ts a - a) 8 (fun z => ?_) (fun z => ?_), fun z => absurd (nI_le (Nat.le_refl _) (by omega)) z⟩
      · have ek : tkAt ts a = (1, a, cut ts a (wE isLt ts a)) := by unfold tkAt; rw [if_pos hL, if_pos z]
        have hw : WD (cut ts a (wE isLt ts a)) := ⟨by rw [cut_len hE.2]; exact z, fun c hc => by
          obtain ⟨j, h1, h2, h3⟩ := cut_mem hE.2 hc
          rw [h3]
          exact cL_iff.mp (wE_all h1 h2)⟩
        have hne : cut ts a (wE isLt ts a) ≠ [] := by
          intro e
          have := cut_len (p := a) hE.2
          rw [e] at this
          have : 0 = wE isLt ts a - a := this
          omega
        rw [ek] at hΦ
        exact sq_X5_spelledW hw hne (sq_X5_add ⟨rfl, rfl, fun _ => rfl, fun z => absurd z (by (try dsimp only); decide)⟩ hc h hΦ)
      · have ek : tkAt ts a = (4, a, []) := by unfold tkAt; rw [if_pos hL, if_neg (by omega)]
        rw [ek] at hΦ
        exact sq_X5_add ⟨rfl, rfl, fun z => absurd z (by (try dsimp only); decide), fun z => absurd z (by (try dsimp only); decide)⟩ hc h hΦ
    | succ m ih =>
      intro q hm hq1 hq2
      show lb_X5_addWord_5 _ _ _ _ _ _ _ _ _ _ _
      unfold lb_X5_addWord_5
      have hlt : q < ts.length := by omega
      have h9 := ih (q + 1) (by omega) (by omega) (by omega)
      rw [cut_sn hq1 hlt, eB_push] at h9
      rw [nI_1, nI_clamp (n := q) (by omega), hT.at hlt]
      exact ⟨fun z => absurd z (nI_ge (by omega) (by omega)), fun _ => ⟨pk_in q 1000 (by omega), h9⟩⟩
  have := key (wE isLt ts a - a) a rfl (Nat.le_refl _) (Nat.le_of_lt hE.1)
  rw [cut_nil] at this
  exact ⟨_, this⟩
theorem sq_X5_addNumber {a : Nat} {Φ : PTk} (hT : TL ts sg) (ha : a < ts.length) (hL : ¬ isLt (sgn ts a) = true) (hD : isDg (sgn ts a) = true) (hc : P.length < 1001) (h : AC P tk pl vl) (hΦ : ∀ tk' pl' vl', AC (P ++ [tkAt ts a]) tk' pl' vl' → Φ (nI (P ++ [tkAt ts a]).length) tk' pl' vl') : wp_X5_addNumber sg (nI a) (nI (wE isDg ts a)) (nI P.length) tk pl vl Φ := by
  have hn := hT.1
  have hE : a < wE isDg ts a ∧ wE isDg ts a ≤ ts.length := by
    rw [wE_yes ha hD]
    exact ⟨wE_ge, wE_le ha⟩
  have key : ∀ (m q : Nat), m = wE isDg ts a - q → a ≤ q → q ≤ wE isDg ts a → lf_X5_addNumber_5 sg (nI a) (nI (wE isDg ts a)) Φ (m + 1) (nI P.length) tk pl vl (eM (cut ts a q)) (nI q) := by
    intro m
    induction m with
    | zero =>
      intro q hm hq1 hq2
      have e : q = wE isDg ts a := by omega
      show lb_X5_addNumber_5 _ _ _ _ _ _ _ _ _ _ _
      unfold lb_X5_addNumber_5
      rw [e, pk_sub (Nat.le_of_lt hE.1)]
      refine ⟨fun _ => pk_le (wE isDg ts a - a) 4 (fun z => ?_) (fun z => ?_), fun z => absurd (nI_le (Nat.le_refl _) (by omega)) z⟩
      · have ek : tkAt ts a = (2, a, cut ts a (wE isDg ts a)) := by unfold tkAt; rw [if_neg hL, if_pos hD, if_pos z]
        rw [ek] at hΦ
        exact sq_X5_add ⟨rfl, rfl, fun z => absurd z (by (try dsimp only); decide), fun _ => rfl⟩ hc h hΦ
      · have ek : tkAt ts a = (4, a, []) := by unfold tkAt; rw [if_neg hL, if_pos hD, if_neg (by omega)]
        rw [ek] at hΦ
        exact sq_X5_add ⟨rfl, rfl, fun z => absurd z (by (try dsimp only); decide), fun z => absurd z (by (try dsimp only); decide)⟩ hc h hΦ
    | succ m ih =>
      intro q hm hq1 hq2
      show lb_X5_addNumber_5 _ _ _ _ _ _ _ _ _ _ _
      unfold lb_X5_addNumber_5
      have hlt : q < ts.length := by omega
      have h9 := ih (q + 1) (by omega) (by omega) (by omega)
      rw [cut_sn hq1 hlt, eM_push] at h9
      rw [nI_1, nI_clamp (n := q) (by omega), hT.at hlt]
      exact ⟨fun z => absurd z (nI_ge (by omega) (by omega)), fun _ => ⟨pk_in q 1000 (by omega), h9⟩⟩
  have := key (wE isDg ts a - a) a rfl (Nat.le_refl _) (Nat.le_of_lt hE.1)
  rw [cut_nil] at this
  exact ⟨_, this⟩
/-- the class's kind of a sign -/
def kd (c : Nat) : Nat := if isLt c then 97 else if isDg c then 48 else 0
theorem sq_X5_kindOf {c : Nat} {Φ : Int32 → Prop} (hc : c < 127) (h : Φ (nI (kd c))) : wp_X5_kindOf (nI c) Φ := by
  unfold wp_X5_kindOf
  have k : ¬ isLt c = true → kf_X5_kindOf_15 (nI c) Φ := by
    intro hL
    unfold kf_X5_kindOf_15
    have h0 : ¬ isDg c = true → Φ 0 := fun hD => by
      unfold kd at h
      rw [if_neg hL, if_neg hD] at h
      exact h
    refine pk_lt c 48 (fun z => h0 (fun y => ?_)) (fun z => pk_lt 57 c (fun z2 => h0 (fun y => ?_)) (fun z2 => ?_) rfl rfl (by decide) (by omega)) rfl rfl (by omega) (by decide)
    · rw [cD_iff] at y; omega
    · rw [cD_iff] at y; omega
    · unfold kd at h
      rw [if_neg hL, if_pos (cD_iff.mpr ⟨z, z2⟩)] at h
      exact h
  refine pk_lt c 97 (fun z => k (fun y => ?_)) (fun z => pk_lt 122 c (fun z2 => k (fun y => ?_)) (fun z2 => ?_) rfl rfl (by decide) (by omega)) rfl rfl (by omega) (by decide)
  · rw [cL_iff] at y; omega
  · rw [cL_iff] at y; omega
  · unfold kd at h
    rw [if_pos (cL_iff.mpr ⟨z, z2⟩)] at h
    exact h
theorem kd_cases (c : Nat) : (isLt c = true ∧ kd c = 97) ∨ (¬ isLt c = true ∧ isDg c = true ∧ kd c = 48) ∨ (¬ isLt c = true ∧ ¬ isDg c = true ∧ kd c = 0) := by
  unfold kd
  by_cases hL : isLt c = true
  · exact Or.inl ⟨hL, if_pos hL⟩
  · by_cases hD : isDg c = true
    · exact Or.inr (Or.inl ⟨hL, hD, by rw [if_neg hL, if_pos hD]⟩)
    · exact Or.inr (Or.inr ⟨hL, hD, by rw [if_neg hL, if_neg hD]⟩)
theorem sq_X5_splitOne {a : Nat} {Φ : Int32 → PTk} (hT : TL ts sg) (ha : a < ts.length) (hB : ¬ cB (sgn ts a) = true) (hc : P.length < 1001) (h : AC P tk pl vl) (hΦ : ∀ tk' pl' vl', AC (P ++ [tkAt ts a]) tk' pl' vl' → Φ (nI (tkEnd ts a)) (nI (P ++ [tkAt ts a]).length) tk' pl' vl') : wp_X5_splitOne (nI ts.length) sg (nI a) (nI P.length) tk pl vl Φ := by
  have hn := hT.1
  have hk := hT.lt a
  unfold wp_X5_splitOne
  rw [nI_clamp (n := a) (by omega), hT.at ha]
  refine ⟨pk_in a 1000 (by omega), sq_X5_kindOf hk ?_⟩
  have out : kf_X5_splitOne_53 (nI ts.length) sg (nI a) Φ (nI P.length) tk pl vl (nI (kd (sgn ts a))) (nI (tkEnd ts a)) := by
    unfold kf_X5_splitOne_53
    rcases kd_cases (sgn ts a) with ⟨hL, e⟩ | ⟨hL, hD, e⟩ | ⟨hL, hD, e⟩
    · rw [e]
      have eE : tkEnd ts a = wE isLt ts a := by unfold tkEnd; rw [if_pos hL]
      rw [eE] at hΦ ⊢
      exact ⟨fun z => absurd rfl z, fun _ => sq_X5_addWord hT ha hL hc h hΦ⟩
    · rw [e]
      have eE : tkEnd ts a = wE isDg ts a := by unfold tkEnd; rw [if_neg hL, if_pos hD]
      rw [eE] at hΦ ⊢
      exact ⟨fun _ => ⟨fun z => absurd rfl z, fun _ => sq_X5_addNumber hT ha hL hD hc h hΦ⟩, fun z => absurd z (by (try dsimp only); decide)⟩
    · rw [e]
      rw [nI_clamp (n := a) (by omega), hT.at ha]
      have h0 : ¬ sgn ts a = 0 := by
        intro y
        rcases hT.ok ha with q | q <;> omega
      have hk2 : MT (tkAt ts a) (sgI (sgn ts a)) (nI a) 0 := by
        by_cases hS : cS (sgn ts a) = true
        · have ek : tkAt ts a = (3, a, [sgn ts a]) := by unfold tkAt; rw [if_neg hL, if_neg hD, if_pos hS]
          rw [ek]
          exact ⟨rfl, rfl, fun z => absurd z (by (try dsimp only); decide), fun z => absurd z (by (try dsimp only); decide)⟩
        · have ek : tkAt ts a = (4, a, []) := by unfold tkAt; rw [if_neg hL, if_neg hD, if_neg hS]
          rw [ek]
          refine ⟨?_, rfl, fun z => absurd z (by (try dsimp only); decide), fun z => absurd z (by (try dsimp only); decide)⟩
          show sgI (sgn ts a) = 1
          rw [cS_iff] at hS
          unfold sgI
          rw [if_neg (by omega), if_neg (by omega), if_neg (by omega), if_neg (by omega), if_neg (by omega), if_neg (by omega), if_neg (by omega), if_neg (by omega)]
      exact ⟨fun _ => ⟨fun _ => ⟨pk_in a 1000 (by omega), sq_X5_spelledS hk h0 (sq_X5_add hk2 hc h hΦ)⟩, fun z => absurd z (by (try dsimp only); decide)⟩, fun z => absurd z (by (try dsimp only); decide)⟩
  have hEnd := tkEnd_gt ha
  have key : ∀ (m e : Nat), m = ts.length - e → a < e → e ≤ tkEnd ts a → (∀ q, a < q → q < e → kd (sgn ts q) = kd (sgn ts a)) → lf_X5_splitOne_17 (nI ts.length) sg (nI a) Φ (m + 1) (nI P.length) tk pl vl (nI (kd (sgn ts a))) (nI e) (nI e) := by
    intro m
    induction m with
    | zero =>
      intro e hm h1 h2 h3
      show lb_X5_splitOne_17 _ _ _ _ _ _ _ _ _ _ _ _
      unfold lb_X5_splitOne_17
      have ee : e = tkEnd ts a := by omega
      rw [ee]
      exact ⟨fun _ => out, fun z => absurd (nI_le (by omega) (by omega)) z⟩
    | succ m ih =>
      intro e hm h1 h2 h3
      show lb_X5_splitOne_17 _ _ _ _ _ _ _ _ _ _ _ _
      unfold lb_X5_splitOne_17
      have hlt : e < ts.length := by omega
      have he := hT.lt e
      -- the token ends at e just where the kind changes
      have stop : (kd (sgn ts a) = 0 ∨ ¬ kd (sgn ts e) = kd (sgn ts a)) → e = tkEnd ts a := by
        intro hz
        rcases kd_cases (sgn ts a) with ⟨hL, ek⟩ | ⟨hL, hD, ek⟩ | ⟨hL, hD, ek⟩
        · have eE : tkEnd ts a = wE isLt ts a := by unfold tkEnd; rw [if_pos hL]
          rcases Nat.lt_or_ge e (tkEnd ts a) with y | y
          · rw [eE] at y
            have y2 := wE_all (Nat.le_of_lt h1) y
            rcases hz with z | z
            · rw [ek] at z; exact absurd z (by (try dsimp only); decide)
            · exact absurd (by rw [ek]; exact if_pos y2) z
          · omega
        · have eE : tkEnd ts a = wE isDg ts a := by unfold tkEnd; rw [if_neg hL, if_pos hD]
          rcases Nat.lt_or_ge e (tkEnd ts a) with y | y
          · rw [eE] at y
            have y2 := wE_all (Nat.le_of_lt h1) y
            have y3 : ¬ isLt (sgn ts e) = true := by
              intro q
              rw [cL_iff] at q
              rw [cD_iff] at y2
              omega
            rcases hz with z | z
            · rw [ek] at z; exact absurd z (by (try dsimp only); decide)
            · exact absurd (by rw [ek]; unfold kd; rw [if_neg y3, if_pos y2]) z
          · omega
        · have eE : tkEnd ts a = a + 1 := by unfold tkEnd; rw [if_neg hL, if_neg hD]
          omega
      refine ⟨fun z => absurd z (nI_ge hlt (by omega)), fun _ => ⟨fun z => ?_, fun z => ⟨pk_in e 1000 (by omega), ?_⟩⟩⟩
      · have z2 : kd (sgn ts a) = 0 := by
          rcases kd_cases (sgn ts a) with ⟨_, ek⟩ | ⟨_, _, ek⟩ | ⟨_, _, ek⟩
          · rw [ek] at z; exact absurd z (by (try dsimp only); decide)
          · rw [ek] at z; exact absurd z (by (try dsimp only); decide)
          · exact ek
        rw [stop (Or.inl z2)]
        exact out
      · rw [nI_clamp (n := e) (by omega), hT.at hlt]
        refine sq_X5_kindOf he ⟨fun y => ?_, fun y => ?_⟩
        · rw [stop (Or.inr (fun q => y (by rw [q])))]
          exact out
        · have hkd : ∀ c, kd c < 200 := fun c => by
            rcases kd_cases c with ⟨_, ek⟩ | ⟨_, _, ek⟩ | ⟨_, _, ek⟩ <;> rw [ek] <;> decide
          have y2 : kd (sgn ts e) = kd (sgn ts a) := (nI_eq (Nat.lt_trans (hkd _) (by decide)) (Nat.lt_trans (hkd _) (by decide))).mp y
          have hne : ¬ kd (sgn ts a) = 0 := fun q => z (by rw [q]; rfl)
          rw [nI_1]
          refine ih (e + 1) (by omega) (by omega) ?_ (fun q h4 h5 => ?_)
          · -- the kind goes on: the token is longer
            rcases Nat.lt_or_ge e (tkEnd ts a) with q | q
            · exact q
            · exfalso
              have e9 : e = tkEnd ts a := by omega
              rcases kd_cases (sgn ts a) with ⟨hL, ek⟩ | ⟨hL, hD, ek⟩ | ⟨hL, hD, ek⟩
              · have eE : tkEnd ts a = wE isLt ts a := by unfold tkEnd; rw [if_pos hL]
                have hy : isLt (sgn ts e) = true := by
                  rcases kd_cases (sgn ts e) with ⟨g, _⟩ | ⟨_, _, g⟩ | ⟨_, _, g⟩
                  · exact g
                  · rw [y2, ek] at g; exact absurd g (by (try dsimp only); decide)
                  · rw [y2, ek] at g; exact absurd g (by (try dsimp only); decide)
                have := wE_stop (f := isLt) (ts := ts) (p := a) (Nat.le_of_lt ha) (by rw [← eE, ← e9]; exact hlt)
                rw [← eE, ← e9] at this
                exact this hy
              · have eE : tkEnd ts a = wE isDg ts a := by unfold tkEnd; rw [if_neg hL, if_pos hD]
                have hy : isDg (sgn ts e) = true := by
                  rcases kd_cases (sgn ts e) with ⟨_, g⟩ | ⟨_, g, _⟩ | ⟨_, _, g⟩
                  · rw [y2, ek] at g; exact absurd g (by (try dsimp only); decide)
                  · exact g
                  · rw [y2, ek] at g; exact absurd g (by (try dsimp only); decide)
                have := wE_stop (f := isDg) (ts := ts) (p := a) (Nat.le_of_lt ha) (by rw [← eE, ← e9]; exact hlt)
                rw [← eE, ← e9] at this
                exact this hy
              · exact hne ek
          · by_cases e8 : q = e
            · rw [e8]; exact y2
            · exact h3 q h4 (by omega)
  rw [nI_1]
  exact ⟨_, key (ts.length - (a + 1)) (a + 1) rfl (by omega) hEnd.1 (fun q h1 h2 => absurd h2 (by omega))⟩
end SY
end
section
section SZ
variable {ts : List Nat} {sg : Nat → Int32} {Φ : PTk}
theorem sq_X5_split {tk : Nat → Nat} {pl : Nat → Int32} {vl : Nat → Int64} {C : Int32} (hT : TL ts sg) (hΦ : ∀ tk' pl' vl', AC (tokL ts 0) tk' pl' vl' → Φ (nI (tokL ts 0).length) tk' pl' vl') : wp_X5_split (nI ts.length) sg C tk pl vl Φ := by
  have hn := hT.1
  have out : ∀ (P : List Tok) (tk : Nat → Nat) (pl : Nat → Int32) (vl : Nat → Int64), P.length ≤ 1000 → tokL ts 0 = P ++ tokL ts ts.length → AC P tk pl vl → wp_X5_add 0 (nI ts.length) 0 (nI P.length) tk pl vl Φ := by
    intro P tk pl vl hP he h
    rw [tokL_end (Nat.le_refl _)] at he
    rw [he] at hΦ
    exact sq_X5_add (k := (0, ts.length, [])) ⟨rfl, rfl, fun z => absurd z (by (try dsimp only); decide), fun z => absurd z (by (try dsimp only); decide)⟩ (by omega) h hΦ
  have key : ∀ (m i a : Nat) (P : List Tok) (tk : Nat → Nat) (pl : Nat → Int32) (vl : Nat → Int64), m = 1000 - i → i ≤ 1000 → a ≤ ts.length → P.length ≤ i → i ≤ a → tokL ts 0 = P ++ tokL ts a → AC P tk pl vl → lf_X5_split_9 (nI ts.length) sg Φ (m + 1) (nI P.length) tk pl vl (nI a) (nI i) := by
    intro m
    induction m with
    | zero =>
      intro i a P tk pl vl hm hi ha hc hia he h
      have e : i = 1000 := by omega
      have e2 : a = ts.length := by omega
      subst e
      rw [e2] at he
      show lb_X5_split_9 _ _ _ _ _ _ _ _ _ _
      unfold lb_X5_split_9
      exact ⟨fun _ => out P tk pl vl (by omega) he h, fun z => absurd (by decide) z⟩
    | succ m ih =>
      intro i a P tk pl vl hm hi ha hc hia he h
      show lb_X5_split_9 _ _ _ _ _ _ _ _ _ _
      unfold lb_X5_split_9
      refine ⟨fun z => absurd z (nI_ge (b := 1000) (by omega) (by decide)), fun _ => pk_le ts.length a (fun z => ?_) (fun hal => ⟨pk_in a 1000 (by omega), ?_⟩)⟩
      · have e2 : a = ts.length := by omega
        rw [e2] at he
        exact out P tk pl vl (by omega) he h
      · have hk := hT.lt a
        rw [nI_clamp (n := a) (by omega), hT.at hal, nI_1, nI_1]
        have bk : cB (sgn ts a) = true → lf_X5_split_9 (nI ts.length) sg Φ (m + 1) (nI P.length) tk pl vl (nI (a + 1)) (nI (i + 1)) := fun hb => ih (i + 1) (a + 1) P tk pl vl (by omega) (by omega) (by omega) (by omega) (by omega) (by rw [he, tokL_blank hal hb]) h
        have so : ¬ cB (sgn ts a) = true → wp_X5_splitOne (nI ts.length) sg (nI a) (nI P.length) tk pl vl (fun r_24 Tcnt_20 Ttoks_21 Tplc_22 Tvals_23 => lf_X5_split_9 (nI ts.length) sg Φ (m + 1) Tcnt_20 Ttoks_21 Tplc_22 Tvals_23 r_24 (nI (i + 1))) := fun hb => by
          have hE := tkEnd_gt hal
          refine sq_X5_splitOne hT hal hb (by omega) h (fun tk' pl' vl' h' => ih (i + 1) (tkEnd ts a) (P ++ [tkAt ts a]) tk' pl' vl' (by omega) (by omega) hE.2 ?_ (by omega) ?_ h')
          · rw [List.length_append]
            show P.length + 1 ≤ i + 1
            omega
          · rw [he, tokL_tok hal hb, List.append_assoc]
            rfl
        unfold wp_X5_isBlank
        have f1 : (¬ (0 : Int32) = 0 → lf_X5_split_9 (nI ts.length) sg Φ (m + 1) (nI P.length) tk pl vl (nI (a + 1)) (nI (i + 1))) := fun z => absurd rfl z
        refine pk_eq (sgn ts a) 10 (fun e => ⟨fun z => absurd z (by (try dsimp only); decide), fun _ => bk (cB_iff.mpr (Or.inl e))⟩) (fun e => ?_) rfl rfl (by omega) (by decide)
        have h32 := pk_eq (A := ((1 : Int32) = 0 → wp_X5_splitOne (nI ts.length) sg (nI a) (nI P.length) tk pl vl (fun r_24 Tcnt_20 Ttoks_21 Tplc_22 Tvals_23 => lf_X5_split_9 (nI ts.length) sg Φ (m + 1) Tcnt_20 Ttoks_21 Tplc_22 Tvals_23 r_24 (nI (i + 1)))) ∧ (¬ (1 : Int32) = 0 → lf_X5_split_9 (nI ts.length) sg Φ (m + 1) (nI P.length) tk pl vl (nI (a + 1)) (nI (i + 1)))) (B := ((0 : Int32) = 0 → wp_X5_splitOne (nI ts.length) sg (nI a) (nI P.length) tk pl vl (fun r_24 Tcnt_20 Ttoks_21 Tplc_22 Tvals_23 => lf_X5_split_9 (nI ts.length) sg Φ (m + 1) Tcnt_20 Ttoks_21 Tplc_22 Tvals_23 r_24 (nI (i + 1)))) ∧ (¬ (0 : Int32) = 0 → lf_X5_split_9 (nI ts.length) sg Φ (m + 1) (nI P.length) tk pl vl (nI (a + 1)) (nI (i + 1)))) (sgn ts a) 32 (fun e2 => ⟨fun z => absurd z (by (try dsimp only); decide), fun _ => bk (cB_iff.mpr (Or.inr e2))⟩) (fun e2 => ⟨fun _ => so (fun y => by rw [cB_iff] at y; omega), f1⟩) rfl rfl (by omega) (by decide)
        exact ⟨h32.2, h32.1⟩
  exact ⟨_, key (1000 - 0) 0 0 [] tk pl vl rfl (by decide) (Nat.zero_le _) (Nat.le_refl _) (Nat.le_refl _) rfl AC.nil⟩
/-- what a list of tokens must be: the end is last, and nowhere else -/
def WT (L : List Tok) : Prop := ∃ (M : List Tok) (p : Nat), L = M ++ [(0, p, [])] ∧ ∀ k ∈ M, ¬ k.1 = 0
theorem tkAt_ne {p : Nat} : ¬ (tkAt ts p).1 = 0 := by
  unfold tkAt
  repeat' split
  all_goals (dsimp only; decide)
theorem tokL_WT : ∀ (k p : Nat), ts.length - p ≤ k → WT (tokL ts p) := by
  intro k
  induction k with
  | zero =>
    intro p h
    rw [tokL_end (by omega)]
    exact ⟨[], p, rfl, fun k hk => by cases hk⟩
  | succ k ih =>
    intro p h
    by_cases hp : p < ts.length
    · by_cases hb : cB (sgn ts p) = true
      · rw [tokL_blank hp hb]
        exact ih (p + 1) (by omega)
      · rw [tokL_tok hp hb]
        have := tkEnd_gt hp
        obtain ⟨M, q, e, hM⟩ := ih (tkEnd ts p) (by omega)
        refine ⟨tkAt ts p :: M, q, by rw [e]; rfl, fun k hk => ?_⟩
        rcases List.mem_cons.mp hk with e | hk
        · rw [e]; exact tkAt_ne
        · exact hM k hk
    · rw [tokL_end (by omega)]
      exact ⟨[], p, rfl, fun k hk => by cases hk⟩
end SZ
end
section
def kl_X8_feed_93 (xa : Int64) (xb : Int64) (xc : Int64) (κ8 : Int32 → Int32 → (Nat → Int32) → Int32 → Prop) (Φ : Int32 → Int32 → Int32 → (Nat → Int32) → Prop) (Fthrown : Int32) (Ftaped : Int32) (Atape : Nat → Int32) (l7 : Int32) (l10 : Int32) : Prop := (vp_in Ftaped 1000 → (κ8 Fthrown (Ftaped + 1) (upd Atape (Ftaped).toNatClampNeg l10) (l7 + 1)))
theorem kq_X8_feed_93 {xa : Int64} {xb : Int64} {xc : Int64} {Fthrown : Int32} {Ftaped : Int32} {Atape : Nat → Int32} {l7 : Int32} {l10 : Int32} {κ81 κ82 κ83 : Int32 → Int32 → (Nat → Int32) → Int32 → Prop} {Φ1 Φ2 Φ3 : Int32 → Int32 → Int32 → (Nat → Int32) → Prop} (hk8 : ∀ (a0 : Int32) (a1 : Int32) (a2 : (Nat → Int32)) (a3 : Int32), κ81 a0 a1 a2 a3 → κ82 a0 a1 a2 a3 → κ83 a0 a1 a2 a3) (hF : ∀ (a0 : Int32) (a1 : Int32) (a2 : Int32) (a3 : (Nat → Int32)), Φ1 a0 a1 a2 a3 → Φ2 a0 a1 a2 a3 → Φ3 a0 a1 a2 a3) (g1 : kf_X8_feed_93 xa xb xc κ81 Φ1 Fthrown Ftaped Atape l7 l10) (g2 : kl_X8_feed_93 xa xb xc κ82 Φ2 Fthrown Ftaped Atape l7 l10) : kf_X8_feed_93 xa xb xc κ83 Φ3 Fthrown Ftaped Atape l7 l10 := ⟨g1.1, (hk8 _ _ _ _ g1.2 (g2 g1.1))⟩
theorem ik_X8_feed_93 {xa : Int64} {xb : Int64} {xc : Int64} {Fthrown : Int32} {Ftaped : Int32} {Atape : Nat → Int32} {l7 : Int32} {l10 : Int32} {κ81 κ82 : Int32 → Int32 → (Nat → Int32) → Int32 → Prop} {Φ1 Φ2 : Int32 → Int32 → Int32 → (Nat → Int32) → Prop} (hk8 : ∀ (a0 : Int32) (a1 : Int32) (a2 : (Nat → Int32)) (a3 : Int32), κ81 a0 a1 a2 a3 → κ82 a0 a1 a2 a3) (hF : ∀ (a0 : Int32) (a1 : Int32) (a2 : Int32) (a3 : (Nat → Int32)), Φ1 a0 a1 a2 a3 → Φ2 a0 a1 a2 a3) (g1 : kf_X8_feed_93 xa xb xc κ81 Φ1 Fthrown Ftaped Atape l7 l10) : kl_X8_feed_93 xa xb xc κ82 Φ2 Fthrown Ftaped Atape l7 l10 := (fun _ => (hk8 _ _ _ _ g1.2))
def kl_X8_feed_39 (xa : Int64) (xb : Int64) (xc : Int64) (κ8 : Int32 → Int32 → (Nat → Int32) → Int32 → Prop) (Φ : Int32 → Int32 → Int32 → (Nat → Int32) → Prop) (Fthrown : Int32) (Ftaped : Int32) (Atape : Nat → Int32) (l7 : Int32) (s0 : Int64) : Prop := (1000 ≤ Ftaped → (κ8 Fthrown Ftaped Atape (l7 + 1))) ∧ (¬ 1000 ≤ Ftaped → (((((((s0).toUInt64 >>> ((56 - (8 * (l7 &&& 7))).toInt64.toUInt64 &&& Int64.toUInt64 63)).toInt64) &&& 255).toInt32) = 10 → (kl_X8_feed_93 xa xb xc κ8 Φ Fthrown Ftaped Atape l7 (((((s0).toUInt64 >>> ((56 - (8 * (l7 &&& 7))).toInt64.toUInt64 &&& Int64.toUInt64 63)).toInt64) &&& 255).toInt32))) ∧ (¬ (((((s0).toUInt64 >>> ((56 - (8 * (l7 &&& 7))).toInt64.toUInt64 &&& Int64.toUInt64 63)).toInt64) &&& 255).toInt32) = 10 → (((((((s0).toUInt64 >>> ((56 - (8 * (l7 &&& 7))).toInt64.toUInt64 &&& Int64.toUInt64 63)).toInt64) &&& 255).toInt32) < 32 → (κ8 Fthrown Ftaped Atape (l7 + 1))) ∧ (¬ (((((s0).toUInt64 >>> ((56 - (8 * (l7 &&& 7))).toInt64.toUInt64 &&& Int64.toUInt64 63)).toInt64) &&& 255).toInt32) < 32 → ((126 < (((((s0).toUInt64 >>> ((56 - (8 * (l7 &&& 7))).toInt64.toUInt64 &&& Int64.toUInt64 63)).toInt64) &&& 255).toInt32) → (κ8 Fthrown Ftaped Atape (l7 + 1))) ∧ (¬ 126 < (((((s0).toUInt64 >>> ((56 - (8 * (l7 &&& 7))).toInt64.toUInt64 &&& Int64.toUInt64 63)).toInt64) &&& 255).toInt32) → (kl_X8_feed_93 xa xb xc κ8 Φ Fthrown Ftaped Atape l7 (((((s0).toUInt64 >>> ((56 - (8 * (l7 &&& 7))).toInt64.toUInt64 &&& Int64.toUInt64 63)).toInt64) &&& 255).toInt32)))))))))
theorem kq_X8_feed_39 {xa : Int64} {xb : Int64} {xc : Int64} {Fthrown : Int32} {Ftaped : Int32} {Atape : Nat → Int32} {l7 : Int32} {s0 : Int64} {κ81 κ82 κ83 : Int32 → Int32 → (Nat → Int32) → Int32 → Prop} {Φ1 Φ2 Φ3 : Int32 → Int32 → Int32 → (Nat → Int32) → Prop} (hk8 : ∀ (a0 : Int32) (a1 : Int32) (a2 : (Nat → Int32)) (a3 : Int32), κ81 a0 a1 a2 a3 → κ82 a0 a1 a2 a3 → κ83 a0 a1 a2 a3) (hF : ∀ (a0 : Int32) (a1 : Int32) (a2 : Int32) (a3 : (Nat → Int32)), Φ1 a0 a1 a2 a3 → Φ2 a0 a1 a2 a3 → Φ3 a0 a1 a2 a3) (g1 : kf_X8_feed_39 xa xb xc κ81 Φ1 Fthrown Ftaped Atape l7 s0) (g2 : kl_X8_feed_39 xa xb xc κ82 Φ2 Fthrown Ftaped Atape l7 s0) : kf_X8_feed_39 xa xb xc κ83 Φ3 Fthrown Ftaped Atape l7 s0 := ⟨(fun z1_ => (hk8 _ _ _ _ (g1.1 z1_) (g2.1 z1_))), (fun z2_ => ⟨(fun z3_ => (kq_X8_feed_93 hk8 hF ((g1.2 z2_).1 z3_) ((g2.2 z2_).1 z3_))), (fun z4_ => ⟨(fun z5_ => (hk8 _ _ _ _ (((g1.2 z2_).2 z4_).1 z5_) (((g2.2 z2_).2 z4_).1 z5_))), (fun z6_ => ⟨(fun z7_ => (hk8 _ _ _ _ ((((g1.2 z2_).2 z4_).2 z6_).1 z7_) ((((g2.2 z2_).2 z4_).2 z6_).1 z7_))), (fun z8_ => (kq_X8_feed_93 hk8 hF ((((g1.2 z2_).2 z4_).2 z6_).2 z8_) ((((g2.2 z2_).2 z4_).2 z6_).2 z8_)))⟩)⟩)⟩)⟩
theorem ik_X8_feed_39 {xa : Int64} {xb : Int64} {xc : Int64} {Fthrown : Int32} {Ftaped : Int32} {Atape : Nat → Int32} {l7 : Int32} {s0 : Int64} {κ81 κ82 : Int32 → Int32 → (Nat → Int32) → Int32 → Prop} {Φ1 Φ2 : Int32 → Int32 → Int32 → (Nat → Int32) → Prop} (hk8 : ∀ (a0 : Int32) (a1 : Int32) (a2 : (Nat → Int32)) (a3 : Int32), κ81 a0 a1 a2 a3 → κ82 a0 a1 a2 a3) (hF : ∀ (a0 : Int32) (a1 : Int32) (a2 : Int32) (a3 : (Nat → Int32)), Φ1 a0 a1 a2 a3 → Φ2 a0 a1 a2 a3) (g1 : kf_X8_feed_39 xa xb xc κ81 Φ1 Fthrown Ftaped Atape l7 s0) : kl_X8_feed_39 xa xb xc κ82 Φ2 Fthrown Ftaped Atape l7 s0 := ⟨(fun z9_ => (hk8 _ _ _ _ (g1.1 z9_))), (fun z10_ => ⟨(fun z11_ => (ik_X8_feed_93 hk8 hF ((g1.2 z10_).1 z11_))), (fun z12_ => ⟨(fun z13_ => (hk8 _ _ _ _ (((g1.2 z10_).2 z12_).1 z13_))), (fun z14_ => ⟨(fun z15_ => (hk8 _ _ _ _ ((((g1.2 z10_).2 z12_).2 z14_).1 z15_))), (fun z16_ => (ik_X8_feed_93 hk8 hF ((((g1.2 z10_).2 z12_).2 z14_).2 z16_)))⟩)⟩)⟩)⟩
def bl_X8_feed_8 (xa : Int64) (xb : Int64) (xc : Int64) (Φ : Int32 → Int32 → Int32 → (Nat → Int32) → Prop) (back : Int32 → Int32 → (Nat → Int32) → Int32 → Prop) (Fthrown : Int32) (Ftaped : Int32) (Atape : Nat → Int32) (l7 : Int32) : Prop := (24 ≤ l7 → (Φ Ftaped Fthrown Ftaped Atape)) ∧ (¬ 24 ≤ l7 → ((8 ≤ l7 → ((16 ≤ l7 → (kl_X8_feed_39 xa xb xc back Φ Fthrown Ftaped Atape l7 xc)) ∧ (¬ 16 ≤ l7 → (kl_X8_feed_39 xa xb xc back Φ Fthrown Ftaped Atape l7 xb)))) ∧ (¬ 8 ≤ l7 → (kl_X8_feed_39 xa xb xc back Φ Fthrown Ftaped Atape l7 xa))))
theorem bq_X8_feed_8 {xa : Int64} {xb : Int64} {xc : Int64} {Fthrown : Int32} {Ftaped : Int32} {Atape : Nat → Int32} {l7 : Int32} {Φ1 Φ2 Φ3 : Int32 → Int32 → Int32 → (Nat → Int32) → Prop} {back1 back2 back3 : Int32 → Int32 → (Nat → Int32) → Int32 → Prop} (hF : ∀ (a0 : Int32) (a1 : Int32) (a2 : Int32) (a3 : (Nat → Int32)), Φ1 a0 a1 a2 a3 → Φ2 a0 a1 a2 a3 → Φ3 a0 a1 a2 a3) (hback : ∀ (a0 : Int32) (a1 : Int32) (a2 : (Nat → Int32)) (a3 : Int32), back1 a0 a1 a2 a3 → back2 a0 a1 a2 a3 → back3 a0 a1 a2 a3) (g1 : lb_X8_feed_8 xa xb xc Φ1 back1 Fthrown Ftaped Atape l7) (g2 : bl_X8_feed_8 xa xb xc Φ2 back2 Fthrown Ftaped Atape l7) : lb_X8_feed_8 xa xb xc Φ3 back3 Fthrown Ftaped Atape l7 := ⟨(fun z1_ => (hF _ _ _ _ (g1.1 z1_) (g2.1 z1_))), (fun z2_ => ⟨(fun z3_ => ⟨(fun z4_ => (kq_X8_feed_39 hback hF (((g1.2 z2_).1 z3_).1 z4_) (((g2.2 z2_).1 z3_).1 z4_))), (fun z5_ => (kq_X8_feed_39 hback hF (((g1.2 z2_).1 z3_).2 z5_) (((g2.2 z2_).1 z3_).2 z5_)))⟩), (fun z6_ => (kq_X8_feed_39 hback hF ((g1.2 z2_).2 z6_) ((g2.2 z2_).2 z6_)))⟩)⟩
theorem ib_X8_feed_8 {xa : Int64} {xb : Int64} {xc : Int64} {Fthrown : Int32} {Ftaped : Int32} {Atape : Nat → Int32} {l7 : Int32} {Φ1 Φ2 : Int32 → Int32 → Int32 → (Nat → Int32) → Prop} {back1 back2 : Int32 → Int32 → (Nat → Int32) → Int32 → Prop} (hF : ∀ (a0 : Int32) (a1 : Int32) (a2 : Int32) (a3 : (Nat → Int32)), Φ1 a0 a1 a2 a3 → Φ2 a0 a1 a2 a3) (hback : ∀ (a0 : Int32) (a1 : Int32) (a2 : (Nat → Int32)) (a3 : Int32), back1 a0 a1 a2 a3 → back2 a0 a1 a2 a3) (g1 : lb_X8_feed_8 xa xb xc Φ1 back1 Fthrown Ftaped Atape l7) : bl_X8_feed_8 xa xb xc Φ2 back2 Fthrown Ftaped Atape l7 := ⟨(fun z7_ => (hF _ _ _ _ (g1.1 z7_))), (fun z8_ => ⟨(fun z9_ => ⟨(fun z10_ => (ik_X8_feed_39 hback hF (((g1.2 z8_).1 z9_).1 z10_))), (fun z11_ => (ik_X8_feed_39 hback hF (((g1.2 z8_).1 z9_).2 z11_)))⟩), (fun z12_ => (ik_X8_feed_39 hback hF ((g1.2 z8_).2 z12_)))⟩)⟩
def ll_X8_feed_8 (xa : Int64) (xb : Int64) (xc : Int64) (Φ : Int32 → Int32 → Int32 → (Nat → Int32) → Prop) : Nat → Int32 → Int32 → (Nat → Int32) → Int32 → Prop
  | 0, _, _, _, _ => True
  | n_ + 1, Fthrown, Ftaped, Atape, l7 => bl_X8_feed_8 xa xb xc  Φ (ll_X8_feed_8 xa xb xc  Φ n_) Fthrown Ftaped Atape l7
theorem lq_X8_feed_8 {xa : Int64} {xb : Int64} {xc : Int64} {Φ1 Φ2 Φ3 : Int32 → Int32 → Int32 → (Nat → Int32) → Prop} (hF : ∀ (a0 : Int32) (a1 : Int32) (a2 : Int32) (a3 : (Nat → Int32)), Φ1 a0 a1 a2 a3 → Φ2 a0 a1 a2 a3 → Φ3 a0 a1 a2 a3) : ∀ {n_ : Nat} {Fthrown : Int32} {Ftaped : Int32} {Atape : (Nat → Int32)} {l7 : Int32}, lf_X8_feed_8 xa xb xc Φ1 n_ Fthrown Ftaped Atape l7 → ll_X8_feed_8 xa xb xc Φ2 n_ Fthrown Ftaped Atape l7 → lf_X8_feed_8 xa xb xc Φ3 n_ Fthrown Ftaped Atape l7 := by
  intro n_
  induction n_ with
  | zero => intro Fthrown Ftaped Atape l7 z_ _; exact z_.elim
  | succ n_ ih => intro Fthrown Ftaped Atape l7 z_ y_; exact bq_X8_feed_8 hF (fun _ _ _ _ u_ v_ => ih u_ v_) z_ y_
theorem il_X8_feed_8 {xa : Int64} {xb : Int64} {xc : Int64} {Φ1 Φ2 : Int32 → Int32 → Int32 → (Nat → Int32) → Prop} (hF : ∀ (a0 : Int32) (a1 : Int32) (a2 : Int32) (a3 : (Nat → Int32)), Φ1 a0 a1 a2 a3 → Φ2 a0 a1 a2 a3) : ∀ {n_ : Nat} {Fthrown : Int32} {Ftaped : Int32} {Atape : (Nat → Int32)} {l7 : Int32}, lf_X8_feed_8 xa xb xc Φ1 n_ Fthrown Ftaped Atape l7 → ∀ m_, ll_X8_feed_8 xa xb xc Φ2 m_ Fthrown Ftaped Atape l7 := by
  intro n_
  induction n_ with
  | zero => intro Fthrown Ftaped Atape l7 z_; exact z_.elim
  | succ n_ ih =>
    intro Fthrown Ftaped Atape l7 z_ m_
    cases m_ with
    | zero => trivial
    | succ m_ => exact ib_X8_feed_8 hF (fun _ _ _ _ u_ => ih u_ m_) z_
def wl_X8_feed (xa : Int64) (xb : Int64) (xc : Int64) (Fthrown : Int32) (Ftaped : Int32) (Atape : Nat → Int32) (Φ : Int32 → Int32 → Int32 → (Nat → Int32) → Prop) : Prop := (∀ n_, ll_X8_feed_8 xa xb xc  Φ n_ 0 Ftaped Atape 0)
theorem wq_X8_feed {xa : Int64} {xb : Int64} {xc : Int64} {Fthrown : Int32} {Ftaped : Int32} {Atape : Nat → Int32} {Φ1 Φ2 Φ3 : Int32 → Int32 → Int32 → (Nat → Int32) → Prop} (hF : ∀ (a0 : Int32) (a1 : Int32) (a2 : Int32) (a3 : (Nat → Int32)), Φ1 a0 a1 a2 a3 → Φ2 a0 a1 a2 a3 → Φ3 a0 a1 a2 a3) (g1 : wp_X8_feed xa xb xc Fthrown Ftaped Atape Φ1) (g2 : wl_X8_feed xa xb xc Fthrown Ftaped Atape Φ2) : wp_X8_feed xa xb xc Fthrown Ftaped Atape Φ3 := (g1.elim (fun n_ z_ => ⟨n_, lq_X8_feed_8 hF z_ (g2 n_)⟩))
theorem iw_X8_feed {xa : Int64} {xb : Int64} {xc : Int64} {Fthrown : Int32} {Ftaped : Int32} {Atape : Nat → Int32} {Φ1 Φ2 : Int32 → Int32 → Int32 → (Nat → Int32) → Prop} (hF : ∀ (a0 : Int32) (a1 : Int32) (a2 : Int32) (a3 : (Nat → Int32)), Φ1 a0 a1 a2 a3 → Φ2 a0 a1 a2 a3) (g1 : wp_X8_feed xa xb xc Fthrown Ftaped Atape Φ1) : wl_X8_feed xa xb xc Fthrown Ftaped Atape Φ2 := (fun m_ => g1.elim (fun n_ z_ => il_X8_feed_8 hF z_ m_))
def kl_X8_nextToken_345 (Fsize : Int32) (Atape : Nat → Int32) (Φ : Int32 → Int32 → Int32 → Int64 → Int32 → Prop) (Fplace : Int32) (Fbegin : Int32) (Ftoken : Int32) (Fword : Int64) (Ftold : Int32) (l1 : Int32) : Prop := (l1 = 45 → (Φ Fplace Fbegin 3 Fword Ftold)) ∧ (¬ l1 = 45 → ((l1 < 59 → (Φ Fplace Fbegin 4 Fword Ftold)) ∧ (¬ l1 < 59 → ((61 < l1 → (Φ Fplace Fbegin 4 Fword Ftold)) ∧ (¬ 61 < l1 → (Φ Fplace Fbegin 3 Fword Ftold))))))
theorem kq_X8_nextToken_345 {Fsize : Int32} {Atape : Nat → Int32} {Fplace : Int32} {Fbegin : Int32} {Ftoken : Int32} {Fword : Int64} {Ftold : Int32} {l1 : Int32} {Φ1 Φ2 Φ3 : Int32 → Int32 → Int32 → Int64 → Int32 → Prop} (hF : ∀ (a0 : Int32) (a1 : Int32) (a2 : Int32) (a3 : Int64) (a4 : Int32), Φ1 a0 a1 a2 a3 a4 → Φ2 a0 a1 a2 a3 a4 → Φ3 a0 a1 a2 a3 a4) (g1 : kf_X8_nextToken_345 Fsize Atape Φ1 Fplace Fbegin Ftoken Fword Ftold l1) (g2 : kl_X8_nextToken_345 Fsize Atape Φ2 Fplace Fbegin Ftoken Fword Ftold l1) : kf_X8_nextToken_345 Fsize Atape Φ3 Fplace Fbegin Ftoken Fword Ftold l1 := ⟨(fun z1_ => (hF _ _ _ _ _ (g1.1 z1_) (g2.1 z1_))), (fun z2_ => ⟨(fun z3_ => (hF _ _ _ _ _ ((g1.2 z2_).1 z3_) ((g2.2 z2_).1 z3_))), (fun z4_ => ⟨(fun z5_ => (hF _ _ _ _ _ (((g1.2 z2_).2 z4_).1 z5_) (((g2.2 z2_).2 z4_).1 z5_))), (fun z6_ => (hF _ _ _ _ _ (((g1.2 z2_).2 z4_).2 z6_) (((g2.2 z2_).2 z4_).2 z6_)))⟩)⟩)⟩
theorem ik_X8_nextToken_345 {Fsize : Int32} {Atape : Nat → Int32} {Fplace : Int32} {Fbegin : Int32} {Ftoken : Int32} {Fword : Int64} {Ftold : Int32} {l1 : Int32} {Φ1 Φ2 : Int32 → Int32 → Int32 → Int64 → Int32 → Prop} (hF : ∀ (a0 : Int32) (a1 : Int32) (a2 : Int32) (a3 : Int64) (a4 : Int32), Φ1 a0 a1 a2 a3 a4 → Φ2 a0 a1 a2 a3 a4) (g1 : kf_X8_nextToken_345 Fsize Atape Φ1 Fplace Fbegin Ftoken Fword Ftold l1) : kl_X8_nextToken_345 Fsize Atape Φ2 Fplace Fbegin Ftoken Fword Ftold l1 := ⟨(fun z7_ => (hF _ _ _ _ _ (g1.1 z7_))), (fun z8_ => ⟨(fun z9_ => (hF _ _ _ _ _ ((g1.2 z8_).1 z9_))), (fun z10_ => ⟨(fun z11_ => (hF _ _ _ _ _ (((g1.2 z8_).2 z10_).1 z11_))), (fun z12_ => (hF _ _ _ _ _ (((g1.2 z8_).2 z10_).2 z12_)))⟩)⟩)⟩
def kl_X8_nextToken_322 (Fsize : Int32) (Atape : Nat → Int32) (Φ : Int32 → Int32 → Int32 → Int64 → Int32 → Prop) (Fplace : Int32) (Fbegin : Int32) (Ftoken : Int32) (Fword : Int64) (Ftold : Int32) (l1 : Int32) : Prop := (l1 < 40 → (kl_X8_nextToken_345 Fsize Atape Φ (Fplace + 1) Fbegin Ftoken Fword Ftold l1)) ∧ (¬ l1 < 40 → ((l1 ≤ 43 → (Φ (Fplace + 1) Fbegin 3 Fword Ftold)) ∧ (¬ l1 ≤ 43 → (kl_X8_nextToken_345 Fsize Atape Φ (Fplace + 1) Fbegin Ftoken Fword Ftold l1))))
theorem kq_X8_nextToken_322 {Fsize : Int32} {Atape : Nat → Int32} {Fplace : Int32} {Fbegin : Int32} {Ftoken : Int32} {Fword : Int64} {Ftold : Int32} {l1 : Int32} {Φ1 Φ2 Φ3 : Int32 → Int32 → Int32 → Int64 → Int32 → Prop} (hF : ∀ (a0 : Int32) (a1 : Int32) (a2 : Int32) (a3 : Int64) (a4 : Int32), Φ1 a0 a1 a2 a3 a4 → Φ2 a0 a1 a2 a3 a4 → Φ3 a0 a1 a2 a3 a4) (g1 : kf_X8_nextToken_322 Fsize Atape Φ1 Fplace Fbegin Ftoken Fword Ftold l1) (g2 : kl_X8_nextToken_322 Fsize Atape Φ2 Fplace Fbegin Ftoken Fword Ftold l1) : kf_X8_nextToken_322 Fsize Atape Φ3 Fplace Fbegin Ftoken Fword Ftold l1 := ⟨(fun z1_ => (kq_X8_nextToken_345 hF (g1.1 z1_) (g2.1 z1_))), (fun z2_ => ⟨(fun z3_ => (hF _ _ _ _ _ ((g1.2 z2_).1 z3_) ((g2.2 z2_).1 z3_))), (fun z4_ => (kq_X8_nextToken_345 hF ((g1.2 z2_).2 z4_) ((g2.2 z2_).2 z4_)))⟩)⟩
theorem ik_X8_nextToken_322 {Fsize : Int32} {Atape : Nat → Int32} {Fplace : Int32} {Fbegin : Int32} {Ftoken : Int32} {Fword : Int64} {Ftold : Int32} {l1 : Int32} {Φ1 Φ2 : Int32 → Int32 → Int32 → Int64 → Int32 → Prop} (hF : ∀ (a0 : Int32) (a1 : Int32) (a2 : Int32) (a3 : Int64) (a4 : Int32), Φ1 a0 a1 a2 a3 a4 → Φ2 a0 a1 a2 a3 a4) (g1 : kf_X8_nextToken_322 Fsize Atape Φ1 Fplace Fbegin Ftoken Fword Ftold l1) : kl_X8_nextToken_322 Fsize Atape Φ2 Fplace Fbegin Ftoken Fword Ftold l1 := ⟨(fun z5_ => (ik_X8_nextToken_345 hF (g1.1 z5_))), (fun z6_ => ⟨(fun z7_ => (hF _ _ _ _ _ ((g1.2 z6_).1 z7_))), (fun z8_ => (ik_X8_nextToken_345 hF ((g1.2 z6_).2 z8_)))⟩)⟩
def wl_X8_signAt (Fsize : Int32) (Atape : Nat → Int32) (x0 : Int32) (Φ : Int32 → Prop) : Prop := (Fsize ≤ x0 → (Φ 0)) ∧ (¬ Fsize ≤ x0 → ((vp_in x0 1000 → (Φ (Atape (x0).toNatClampNeg)))))
theorem wq_X8_signAt {Fsize : Int32} {Atape : Nat → Int32} {x0 : Int32} {Φ1 Φ2 Φ3 : Int32 → Prop} (hF : ∀ (a0 : Int32), Φ1 a0 → Φ2 a0 → Φ3 a0) (g1 : wp_X8_signAt Fsize Atape x0 Φ1) (g2 : wl_X8_signAt Fsize Atape x0 Φ2) : wp_X8_signAt Fsize Atape x0 Φ3 := ⟨(fun z1_ => (hF _ (g1.1 z1_) (g2.1 z1_))), (fun z2_ => ⟨(g1.2 z2_).1, (hF _ (g1.2 z2_).2 ((g2.2 z2_) (g1.2 z2_).1))⟩)⟩
theorem iw_X8_signAt {Fsize : Int32} {Atape : Nat → Int32} {x0 : Int32} {Φ1 Φ2 : Int32 → Prop} (hF : ∀ (a0 : Int32), Φ1 a0 → Φ2 a0) (g1 : wp_X8_signAt Fsize Atape x0 Φ1) : wl_X8_signAt Fsize Atape x0 Φ2 := ⟨(fun z3_ => (hF _ (g1.1 z3_))), (fun z4_ => (fun _ => (hF _ (g1.2 z4_).2)))⟩
def kl_X8_nextToken_299 (Fsize : Int32) (Atape : Nat → Int32) (Φ : Int32 → Int32 → Int32 → Int64 → Int32 → Prop) (Fplace : Int32) (Fbegin : Int32) (Ftoken : Int32) (Fword : Int64) (Ftold : Int32) : Prop := ((Fplace - Fbegin) ≤ 4 → (Φ Fplace Fbegin 2 Fword Ftold)) ∧ (¬ (Fplace - Fbegin) ≤ 4 → (Φ Fplace Fbegin 4 Fword Ftold))
theorem kq_X8_nextToken_299 {Fsize : Int32} {Atape : Nat → Int32} {Fplace : Int32} {Fbegin : Int32} {Ftoken : Int32} {Fword : Int64} {Ftold : Int32} {Φ1 Φ2 Φ3 : Int32 → Int32 → Int32 → Int64 → Int32 → Prop} (hF : ∀ (a0 : Int32) (a1 : Int32) (a2 : Int32) (a3 : Int64) (a4 : Int32), Φ1 a0 a1 a2 a3 a4 → Φ2 a0 a1 a2 a3 a4 → Φ3 a0 a1 a2 a3 a4) (g1 : kf_X8_nextToken_299 Fsize Atape Φ1 Fplace Fbegin Ftoken Fword Ftold) (g2 : kl_X8_nextToken_299 Fsize Atape Φ2 Fplace Fbegin Ftoken Fword Ftold) : kf_X8_nextToken_299 Fsize Atape Φ3 Fplace Fbegin Ftoken Fword Ftold := ⟨(fun z1_ => (hF _ _ _ _ _ (g1.1 z1_) (g2.1 z1_))), (fun z2_ => (hF _ _ _ _ _ (g1.2 z2_) (g2.2 z2_)))⟩
theorem ik_X8_nextToken_299 {Fsize : Int32} {Atape : Nat → Int32} {Fplace : Int32} {Fbegin : Int32} {Ftoken : Int32} {Fword : Int64} {Ftold : Int32} {Φ1 Φ2 : Int32 → Int32 → Int32 → Int64 → Int32 → Prop} (hF : ∀ (a0 : Int32) (a1 : Int32) (a2 : Int32) (a3 : Int64) (a4 : Int32), Φ1 a0 a1 a2 a3 a4 → Φ2 a0 a1 a2 a3 a4) (g1 : kf_X8_nextToken_299 Fsize Atape Φ1 Fplace Fbegin Ftoken Fword Ftold) : kl_X8_nextToken_299 Fsize Atape Φ2 Fplace Fbegin Ftoken Fword Ftold := ⟨(fun z3_ => (hF _ _ _ _ _ (g1.1 z3_))), (fun z4_ => (hF _ _ _ _ _ (g1.2 z4_)))⟩
def bl_X8_nextToken_224 (Fsize : Int32) (Atape : Nat → Int32) (Φ : Int32 → Int32 → Int32 → Int64 → Int32 → Prop) (back : Int32 → Int32 → Int32 → Int64 → Int32 → Prop) (Fplace : Int32) (Fbegin : Int32) (Ftoken : Int32) (Fword : Int64) (Ftold : Int32) : Prop := wl_X8_signAt Fsize Atape Fplace (fun r_13 => (r_13 < 48 → (kl_X8_nextToken_299 Fsize Atape Φ Fplace Fbegin Ftoken Fword Ftold)) ∧ (¬ r_13 < 48 → (wl_X8_signAt Fsize Atape Fplace (fun r_17 => (57 < r_17 → (kl_X8_nextToken_299 Fsize Atape Φ Fplace Fbegin Ftoken Fword Ftold)) ∧ (¬ 57 < r_17 → ((4 ≤ (Fplace - Fbegin) → (back (Fplace + 1) Fbegin Ftoken Fword Ftold)) ∧ (¬ 4 ≤ (Fplace - Fbegin) → (wl_X8_signAt Fsize Atape Fplace (fun r_21 => back (Fplace + 1) Fbegin Ftoken Fword (((Ftold * 10) + r_21) - 48))))))))))
theorem bq_X8_nextToken_224 {Fsize : Int32} {Atape : Nat → Int32} {Fplace : Int32} {Fbegin : Int32} {Ftoken : Int32} {Fword : Int64} {Ftold : Int32} {Φ1 Φ2 Φ3 : Int32 → Int32 → Int32 → Int64 → Int32 → Prop} {back1 back2 back3 : Int32 → Int32 → Int32 → Int64 → Int32 → Prop} (hF : ∀ (a0 : Int32) (a1 : Int32) (a2 : Int32) (a3 : Int64) (a4 : Int32), Φ1 a0 a1 a2 a3 a4 → Φ2 a0 a1 a2 a3 a4 → Φ3 a0 a1 a2 a3 a4) (hback : ∀ (a0 : Int32) (a1 : Int32) (a2 : Int32) (a3 : Int64) (a4 : Int32), back1 a0 a1 a2 a3 a4 → back2 a0 a1 a2 a3 a4 → back3 a0 a1 a2 a3 a4) (g1 : lb_X8_nextToken_224 Fsize Atape Φ1 back1 Fplace Fbegin Ftoken Fword Ftold) (g2 : bl_X8_nextToken_224 Fsize Atape Φ2 back2 Fplace Fbegin Ftoken Fword Ftold) : lb_X8_nextToken_224 Fsize Atape Φ3 back3 Fplace Fbegin Ftoken Fword Ftold := (wq_X8_signAt (fun _ u1_ v1_ => ⟨(fun z1_ => (kq_X8_nextToken_299 hF (u1_.1 z1_) (v1_.1 z1_))), (fun z2_ => (wq_X8_signAt (fun _ u2_ v2_ => ⟨(fun z3_ => (kq_X8_nextToken_299 hF (u2_.1 z3_) (v2_.1 z3_))), (fun z4_ => ⟨(fun z5_ => (hback _ _ _ _ _ ((u2_.2 z4_).1 z5_) ((v2_.2 z4_).1 z5_))), (fun z6_ => (wq_X8_signAt (fun _ u3_ v3_ => (hback _ _ _ _ _ u3_ v3_)) ((u2_.2 z4_).2 z6_) ((v2_.2 z4_).2 z6_)))⟩)⟩) (u1_.2 z2_) (v1_.2 z2_)))⟩) g1 g2)
theorem ib_X8_nextToken_224 {Fsize : Int32} {Atape : Nat → Int32} {Fplace : Int32} {Fbegin : Int32} {Ftoken : Int32} {Fword : Int64} {Ftold : Int32} {Φ1 Φ2 : Int32 → Int32 → Int32 → Int64 → Int32 → Prop} {back1 back2 : Int32 → Int32 → Int32 → Int64 → Int32 → Prop} (hF : ∀ (a0 : Int32) (a1 : Int32) (a2 : Int32) (a3 : Int64) (a4 : Int32), Φ1 a0 a1 a2 a3 a4 → Φ2 a0 a1 a2 a3 a4) (hback : ∀ (a0 : Int32) (a1 : Int32) (a2 : Int32) (a3 : Int64) (a4 : Int32), back1 a0 a1 a2 a3 a4 → back2 a0 a1 a2 a3 a4) (g1 : lb_X8_nextToken_224 Fsize Atape Φ1 back1 Fplace Fbegin Ftoken Fword Ftold) : bl_X8_nextToken_224 Fsize Atape Φ2 back2 Fplace Fbegin Ftoken Fword Ftold := (iw_X8_signAt (fun _ u4_ => ⟨(fun z7_ => (ik_X8_nextToken_299 hF (u4_.1 z7_))), (fun z8_ => (iw_X8_signAt (fun _ u5_ => ⟨(fun z9_ => (ik_X8_nextToken_299 hF (u5_.1 z9_))), (fun z10_ => ⟨(fun z11_ => (hback _ _ _ _ _ ((u5_.2 z10_).1 z11_))), (fun z12_ => (iw_X8_signAt (fun _ u6_ => (hback _ _ _ _ _ u6_)) ((u5_.2 z10_).2 z12_)))⟩)⟩) (u4_.2 z8_)))⟩) g1)
def ll_X8_nextToken_224 (Fsize : Int32) (Atape : Nat → Int32) (Φ : Int32 → Int32 → Int32 → Int64 → Int32 → Prop) : Nat → Int32 → Int32 → Int32 → Int64 → Int32 → Prop
  | 0, _, _, _, _, _ => True
  | n_ + 1, Fplace, Fbegin, Ftoken, Fword, Ftold => bl_X8_nextToken_224 Fsize Atape  Φ (ll_X8_nextToken_224 Fsize Atape  Φ n_) Fplace Fbegin Ftoken Fword Ftold
theorem lq_X8_nextToken_224 {Fsize : Int32} {Atape : Nat → Int32} {Φ1 Φ2 Φ3 : Int32 → Int32 → Int32 → Int64 → Int32 → Prop} (hF : ∀ (a0 : Int32) (a1 : Int32) (a2 : Int32) (a3 : Int64) (a4 : Int32), Φ1 a0 a1 a2 a3 a4 → Φ2 a0 a1 a2 a3 a4 → Φ3 a0 a1 a2 a3 a4) : ∀ {n_ : Nat} {Fplace : Int32} {Fbegin : Int32} {Ftoken : Int32} {Fword : Int64} {Ftold : Int32}, lf_X8_nextToken_224 Fsize Atape Φ1 n_ Fplace Fbegin Ftoken Fword Ftold → ll_X8_nextToken_224 Fsize Atape Φ2 n_ Fplace Fbegin Ftoken Fword Ftold → lf_X8_nextToken_224 Fsize Atape Φ3 n_ Fplace Fbegin Ftoken Fword Ftold := by
  intro n_
  induction n_ with
  | zero => intro Fplace Fbegin Ftoken Fword Ftold z_ _; exact z_.elim
  | succ n_ ih => intro Fplace Fbegin Ftoken Fword Ftold z_ y_; exact bq_X8_nextToken_224 hF (fun _ _ _ _ _ u_ v_ => ih u_ v_) z_ y_
theorem il_X8_nextToken_224 {Fsize : Int32} {Atape : Nat → Int32} {Φ1 Φ2 : Int32 → Int32 → Int32 → Int64 → Int32 → Prop} (hF : ∀ (a0 : Int32) (a1 : Int32) (a2 : Int32) (a3 : Int64) (a4 : Int32), Φ1 a0 a1 a2 a3 a4 → Φ2 a0 a1 a2 a3 a4) : ∀ {n_ : Nat} {Fplace : Int32} {Fbegin : Int32} {Ftoken : Int32} {Fword : Int64} {Ftold : Int32}, lf_X8_nextToken_224 Fsize Atape Φ1 n_ Fplace Fbegin Ftoken Fword Ftold → ∀ m_, ll_X8_nextToken_224 Fsize Atape Φ2 m_ Fplace Fbegin Ftoken Fword Ftold := by
  intro n_
  induction n_ with
  | zero => intro Fplace Fbegin Ftoken Fword Ftold z_; exact z_.elim
  | succ n_ ih =>
    intro Fplace Fbegin Ftoken Fword Ftold z_ m_
    cases m_ with
    | zero => trivial
    | succ m_ => exact ib_X8_nextToken_224 hF (fun _ _ _ _ _ u_ => ih u_ m_) z_
def kl_X8_nextToken_212 (Fsize : Int32) (Atape : Nat → Int32) (Φ : Int32 → Int32 → Int32 → Int64 → Int32 → Prop) (Fplace : Int32) (Fbegin : Int32) (Ftoken : Int32) (Fword : Int64) (Ftold : Int32) (l1 : Int32) : Prop := (l1 < 48 → (kl_X8_nextToken_322 Fsize Atape Φ Fplace Fbegin Ftoken Fword Ftold l1)) ∧ (¬ l1 < 48 → ((57 < l1 → (kl_X8_nextToken_322 Fsize Atape Φ Fplace Fbegin Ftoken Fword Ftold l1)) ∧ (¬ 57 < l1 → ((∀ n_, ll_X8_nextToken_224 Fsize Atape  Φ n_ Fplace Fbegin Ftoken Fword Ftold)))))
theorem kq_X8_nextToken_212 {Fsize : Int32} {Atape : Nat → Int32} {Fplace : Int32} {Fbegin : Int32} {Ftoken : Int32} {Fword : Int64} {Ftold : Int32} {l1 : Int32} {Φ1 Φ2 Φ3 : Int32 → Int32 → Int32 → Int64 → Int32 → Prop} (hF : ∀ (a0 : Int32) (a1 : Int32) (a2 : Int32) (a3 : Int64) (a4 : Int32), Φ1 a0 a1 a2 a3 a4 → Φ2 a0 a1 a2 a3 a4 → Φ3 a0 a1 a2 a3 a4) (g1 : kf_X8_nextToken_212 Fsize Atape Φ1 Fplace Fbegin Ftoken Fword Ftold l1) (g2 : kl_X8_nextToken_212 Fsize Atape Φ2 Fplace Fbegin Ftoken Fword Ftold l1) : kf_X8_nextToken_212 Fsize Atape Φ3 Fplace Fbegin Ftoken Fword Ftold l1 := ⟨(fun z1_ => (kq_X8_nextToken_322 hF (g1.1 z1_) (g2.1 z1_))), (fun z2_ => ⟨(fun z3_ => (kq_X8_nextToken_322 hF ((g1.2 z2_).1 z3_) ((g2.2 z2_).1 z3_))), (fun z4_ => (((g1.2 z2_).2 z4_).elim (fun n_ z_ => ⟨n_, lq_X8_nextToken_224 hF z_ (((g2.2 z2_).2 z4_) n_)⟩)))⟩)⟩
theorem ik_X8_nextToken_212 {Fsize : Int32} {Atape : Nat → Int32} {Fplace : Int32} {Fbegin : Int32} {Ftoken : Int32} {Fword : Int64} {Ftold : Int32} {l1 : Int32} {Φ1 Φ2 : Int32 → Int32 → Int32 → Int64 → Int32 → Prop} (hF : ∀ (a0 : Int32) (a1 : Int32) (a2 : Int32) (a3 : Int64) (a4 : Int32), Φ1 a0 a1 a2 a3 a4 → Φ2 a0 a1 a2 a3 a4) (g1 : kf_X8_nextToken_212 Fsize Atape Φ1 Fplace Fbegin Ftoken Fword Ftold l1) : kl_X8_nextToken_212 Fsize Atape Φ2 Fplace Fbegin Ftoken Fword Ftold l1 := ⟨(fun z5_ => (ik_X8_nextToken_322 hF (g1.1 z5_))), (fun z6_ => ⟨(fun z7_ => (ik_X8_nextToken_322 hF ((g1.2 z6_).1 z7_))), (fun z8_ => (fun m_ => ((g1.2 z6_).2 z8_).elim (fun n_ z_ => il_X8_nextToken_224 hF z_ m_)))⟩)⟩
def kl_X8_nextToken_188 (Fsize : Int32) (Atape : Nat → Int32) (Φ : Int32 → Int32 → Int32 → Int64 → Int32 → Prop) (Fplace : Int32) (Fbegin : Int32) (Ftoken : Int32) (Fword : Int64) (Ftold : Int32) : Prop := ((Fplace - Fbegin) ≤ 8 → (Φ Fplace Fbegin 1 Fword Ftold)) ∧ (¬ (Fplace - Fbegin) ≤ 8 → (Φ Fplace Fbegin 4 Fword Ftold))
theorem kq_X8_nextToken_188 {Fsize : Int32} {Atape : Nat → Int32} {Fplace : Int32} {Fbegin : Int32} {Ftoken : Int32} {Fword : Int64} {Ftold : Int32} {Φ1 Φ2 Φ3 : Int32 → Int32 → Int32 → Int64 → Int32 → Prop} (hF : ∀ (a0 : Int32) (a1 : Int32) (a2 : Int32) (a3 : Int64) (a4 : Int32), Φ1 a0 a1 a2 a3 a4 → Φ2 a0 a1 a2 a3 a4 → Φ3 a0 a1 a2 a3 a4) (g1 : kf_X8_nextToken_188 Fsize Atape Φ1 Fplace Fbegin Ftoken Fword Ftold) (g2 : kl_X8_nextToken_188 Fsize Atape Φ2 Fplace Fbegin Ftoken Fword Ftold) : kf_X8_nextToken_188 Fsize Atape Φ3 Fplace Fbegin Ftoken Fword Ftold := ⟨(fun z1_ => (hF _ _ _ _ _ (g1.1 z1_) (g2.1 z1_))), (fun z2_ => (hF _ _ _ _ _ (g1.2 z2_) (g2.2 z2_)))⟩
theorem ik_X8_nextToken_188 {Fsize : Int32} {Atape : Nat → Int32} {Fplace : Int32} {Fbegin : Int32} {Ftoken : Int32} {Fword : Int64} {Ftold : Int32} {Φ1 Φ2 : Int32 → Int32 → Int32 → Int64 → Int32 → Prop} (hF : ∀ (a0 : Int32) (a1 : Int32) (a2 : Int32) (a3 : Int64) (a4 : Int32), Φ1 a0 a1 a2 a3 a4 → Φ2 a0 a1 a2 a3 a4) (g1 : kf_X8_nextToken_188 Fsize Atape Φ1 Fplace Fbegin Ftoken Fword Ftold) : kl_X8_nextToken_188 Fsize Atape Φ2 Fplace Fbegin Ftoken Fword Ftold := ⟨(fun z3_ => (hF _ _ _ _ _ (g1.1 z3_))), (fun z4_ => (hF _ _ _ _ _ (g1.2 z4_)))⟩
def bl_X8_nextToken_109 (Fsize : Int32) (Atape : Nat → Int32) (Φ : Int32 → Int32 → Int32 → Int64 → Int32 → Prop) (back : Int32 → Int32 → Int32 → Int64 → Int32 → Prop) (Fplace : Int32) (Fbegin : Int32) (Ftoken : Int32) (Fword : Int64) (Ftold : Int32) : Prop := wl_X8_signAt Fsize Atape Fplace (fun r_24 => (r_24 < 97 → (kl_X8_nextToken_188 Fsize Atape Φ Fplace Fbegin Ftoken Fword Ftold)) ∧ (¬ r_24 < 97 → (wl_X8_signAt Fsize Atape Fplace (fun r_28 => (122 < r_28 → (kl_X8_nextToken_188 Fsize Atape Φ Fplace Fbegin Ftoken Fword Ftold)) ∧ (¬ 122 < r_28 → ((8 ≤ (Fplace - Fbegin) → (back (Fplace + 1) Fbegin Ftoken Fword Ftold)) ∧ (¬ 8 ≤ (Fplace - Fbegin) → (wl_X8_signAt Fsize Atape Fplace (fun r_32 => back (Fplace + 1) Fbegin Ftoken (((Fword * 27) + r_32.toInt64) - 96) Ftold)))))))))
theorem bq_X8_nextToken_109 {Fsize : Int32} {Atape : Nat → Int32} {Fplace : Int32} {Fbegin : Int32} {Ftoken : Int32} {Fword : Int64} {Ftold : Int32} {Φ1 Φ2 Φ3 : Int32 → Int32 → Int32 → Int64 → Int32 → Prop} {back1 back2 back3 : Int32 → Int32 → Int32 → Int64 → Int32 → Prop} (hF : ∀ (a0 : Int32) (a1 : Int32) (a2 : Int32) (a3 : Int64) (a4 : Int32), Φ1 a0 a1 a2 a3 a4 → Φ2 a0 a1 a2 a3 a4 → Φ3 a0 a1 a2 a3 a4) (hback : ∀ (a0 : Int32) (a1 : Int32) (a2 : Int32) (a3 : Int64) (a4 : Int32), back1 a0 a1 a2 a3 a4 → back2 a0 a1 a2 a3 a4 → back3 a0 a1 a2 a3 a4) (g1 : lb_X8_nextToken_109 Fsize Atape Φ1 back1 Fplace Fbegin Ftoken Fword Ftold) (g2 : bl_X8_nextToken_109 Fsize Atape Φ2 back2 Fplace Fbegin Ftoken Fword Ftold) : lb_X8_nextToken_109 Fsize Atape Φ3 back3 Fplace Fbegin Ftoken Fword Ftold := (wq_X8_signAt (fun _ u1_ v1_ => ⟨(fun z1_ => (kq_X8_nextToken_188 hF (u1_.1 z1_) (v1_.1 z1_))), (fun z2_ => (wq_X8_signAt (fun _ u2_ v2_ => ⟨(fun z3_ => (kq_X8_nextToken_188 hF (u2_.1 z3_) (v2_.1 z3_))), (fun z4_ => ⟨(fun z5_ => (hback _ _ _ _ _ ((u2_.2 z4_).1 z5_) ((v2_.2 z4_).1 z5_))), (fun z6_ => (wq_X8_signAt (fun _ u3_ v3_ => (hback _ _ _ _ _ u3_ v3_)) ((u2_.2 z4_).2 z6_) ((v2_.2 z4_).2 z6_)))⟩)⟩) (u1_.2 z2_) (v1_.2 z2_)))⟩) g1 g2)
theorem ib_X8_nextToken_109 {Fsize : Int32} {Atape : Nat → Int32} {Fplace : Int32} {Fbegin : Int32} {Ftoken : Int32} {Fword : Int64} {Ftold : Int32} {Φ1 Φ2 : Int32 → Int32 → Int32 → Int64 → Int32 → Prop} {back1 back2 : Int32 → Int32 → Int32 → Int64 → Int32 → Prop} (hF : ∀ (a0 : Int32) (a1 : Int32) (a2 : Int32) (a3 : Int64) (a4 : Int32), Φ1 a0 a1 a2 a3 a4 → Φ2 a0 a1 a2 a3 a4) (hback : ∀ (a0 : Int32) (a1 : Int32) (a2 : Int32) (a3 : Int64) (a4 : Int32), back1 a0 a1 a2 a3 a4 → back2 a0 a1 a2 a3 a4) (g1 : lb_X8_nextToken_109 Fsize Atape Φ1 back1 Fplace Fbegin Ftoken Fword Ftold) : bl_X8_nextToken_109 Fsize Atape Φ2 back2 Fplace Fbegin Ftoken Fword Ftold := (iw_X8_signAt (fun _ u4_ => ⟨(fun z7_ => (ik_X8_nextToken_188 hF (u4_.1 z7_))), (fun z8_ => (iw_X8_signAt (fun _ u5_ => ⟨(fun z9_ => (ik_X8_nextToken_188 hF (u5_.1 z9_))), (fun z10_ => ⟨(fun z11_ => (hback _ _ _ _ _ ((u5_.2 z10_).1 z11_))), (fun z12_ => (iw_X8_signAt (fun _ u6_ => (hback _ _ _ _ _ u6_)) ((u5_.2 z10_).2 z12_)))⟩)⟩) (u4_.2 z8_)))⟩) g1)
def ll_X8_nextToken_109 (Fsize : Int32) (Atape : Nat → Int32) (Φ : Int32 → Int32 → Int32 → Int64 → Int32 → Prop) : Nat → Int32 → Int32 → Int32 → Int64 → Int32 → Prop
  | 0, _, _, _, _, _ => True
  | n_ + 1, Fplace, Fbegin, Ftoken, Fword, Ftold => bl_X8_nextToken_109 Fsize Atape  Φ (ll_X8_nextToken_109 Fsize Atape  Φ n_) Fplace Fbegin Ftoken Fword Ftold
theorem lq_X8_nextToken_109 {Fsize : Int32} {Atape : Nat → Int32} {Φ1 Φ2 Φ3 : Int32 → Int32 → Int32 → Int64 → Int32 → Prop} (hF : ∀ (a0 : Int32) (a1 : Int32) (a2 : Int32) (a3 : Int64) (a4 : Int32), Φ1 a0 a1 a2 a3 a4 → Φ2 a0 a1 a2 a3 a4 → Φ3 a0 a1 a2 a3 a4) : ∀ {n_ : Nat} {Fplace : Int32} {Fbegin : Int32} {Ftoken : Int32} {Fword : Int64} {Ftold : Int32}, lf_X8_nextToken_109 Fsize Atape Φ1 n_ Fplace Fbegin Ftoken Fword Ftold → ll_X8_nextToken_109 Fsize Atape Φ2 n_ Fplace Fbegin Ftoken Fword Ftold → lf_X8_nextToken_109 Fsize Atape Φ3 n_ Fplace Fbegin Ftoken Fword Ftold := by
  intro n_
  induction n_ with
  | zero => intro Fplace Fbegin Ftoken Fword Ftold z_ _; exact z_.elim
  | succ n_ ih => intro Fplace Fbegin Ftoken Fword Ftold z_ y_; exact bq_X8_nextToken_109 hF (fun _ _ _ _ _ u_ v_ => ih u_ v_) z_ y_
theorem il_X8_nextToken_109 {Fsize : Int32} {Atape : Nat → Int32} {Φ1 Φ2 : Int32 → Int32 → Int32 → Int64 → Int32 → Prop} (hF : ∀ (a0 : Int32) (a1 : Int32) (a2 : Int32) (a3 : Int64) (a4 : Int32), Φ1 a0 a1 a2 a3 a4 → Φ2 a0 a1 a2 a3 a4) : ∀ {n_ : Nat} {Fplace : Int32} {Fbegin : Int32} {Ftoken : Int32} {Fword : Int64} {Ftold : Int32}, lf_X8_nextToken_109 Fsize Atape Φ1 n_ Fplace Fbegin Ftoken Fword Ftold → ∀ m_, ll_X8_nextToken_109 Fsize Atape Φ2 m_ Fplace Fbegin Ftoken Fword Ftold := by
  intro n_
  induction n_ with
  | zero => intro Fplace Fbegin Ftoken Fword Ftold z_; exact z_.elim
  | succ n_ ih =>
    intro Fplace Fbegin Ftoken Fword Ftold z_ m_
    cases m_ with
    | zero => trivial
    | succ m_ => exact ib_X8_nextToken_109 hF (fun _ _ _ _ _ u_ => ih u_ m_) z_
def kl_X8_nextToken_52 (Fsize : Int32) (Atape : Nat → Int32) (Φ : Int32 → Int32 → Int32 → Int64 → Int32 → Prop) (Fplace : Int32) (Fbegin : Int32) (Ftoken : Int32) (Fword : Int64) (Ftold : Int32) : Prop := (¬ Fplace = Fsize → ((vp_in Fplace 1000 → (((Atape (Fplace).toNatClampNeg) < 97 → (kl_X8_nextToken_212 Fsize Atape Φ Fplace Fplace Ftoken 0 0 (Atape (Fplace).toNatClampNeg))) ∧ (¬ (Atape (Fplace).toNatClampNeg) < 97 → ((122 < (Atape (Fplace).toNatClampNeg) → (kl_X8_nextToken_212 Fsize Atape Φ Fplace Fplace Ftoken 0 0 (Atape (Fplace).toNatClampNeg))) ∧ (¬ 122 < (Atape (Fplace).toNatClampNeg) → ((∀ n_, ll_X8_nextToken_109 Fsize Atape  Φ n_ Fplace Fplace Ftoken 0 0))))))))) ∧ (Fplace = Fsize → (Φ Fplace Fplace 0 0 0))
theorem kq_X8_nextToken_52 {Fsize : Int32} {Atape : Nat → Int32} {Fplace : Int32} {Fbegin : Int32} {Ftoken : Int32} {Fword : Int64} {Ftold : Int32} {Φ1 Φ2 Φ3 : Int32 → Int32 → Int32 → Int64 → Int32 → Prop} (hF : ∀ (a0 : Int32) (a1 : Int32) (a2 : Int32) (a3 : Int64) (a4 : Int32), Φ1 a0 a1 a2 a3 a4 → Φ2 a0 a1 a2 a3 a4 → Φ3 a0 a1 a2 a3 a4) (g1 : kf_X8_nextToken_52 Fsize Atape Φ1 Fplace Fbegin Ftoken Fword Ftold) (g2 : kl_X8_nextToken_52 Fsize Atape Φ2 Fplace Fbegin Ftoken Fword Ftold) : kf_X8_nextToken_52 Fsize Atape Φ3 Fplace Fbegin Ftoken Fword Ftold := ⟨(fun z1_ => ⟨(g1.1 z1_).1, ⟨(fun z2_ => (kq_X8_nextToken_212 hF ((g1.1 z1_).2.1 z2_) (((g2.1 z1_) (g1.1 z1_).1).1 z2_))), (fun z3_ => ⟨(fun z4_ => (kq_X8_nextToken_212 hF (((g1.1 z1_).2.2 z3_).1 z4_) ((((g2.1 z1_) (g1.1 z1_).1).2 z3_).1 z4_))), (fun z5_ => ((((g1.1 z1_).2.2 z3_).2 z5_).elim (fun n_ z_ => ⟨n_, lq_X8_nextToken_109 hF z_ (((((g2.1 z1_) (g1.1 z1_).1).2 z3_).2 z5_) n_)⟩)))⟩)⟩⟩), (fun z6_ => (hF _ _ _ _ _ (g1.2 z6_) (g2.2 z6_)))⟩
theorem ik_X8_nextToken_52 {Fsize : Int32} {Atape : Nat → Int32} {Fplace : Int32} {Fbegin : Int32} {Ftoken : Int32} {Fword : Int64} {Ftold : Int32} {Φ1 Φ2 : Int32 → Int32 → Int32 → Int64 → Int32 → Prop} (hF : ∀ (a0 : Int32) (a1 : Int32) (a2 : Int32) (a3 : Int64) (a4 : Int32), Φ1 a0 a1 a2 a3 a4 → Φ2 a0 a1 a2 a3 a4) (g1 : kf_X8_nextToken_52 Fsize Atape Φ1 Fplace Fbegin Ftoken Fword Ftold) : kl_X8_nextToken_52 Fsize Atape Φ2 Fplace Fbegin Ftoken Fword Ftold := ⟨(fun z7_ => (fun _ => ⟨(fun z8_ => (ik_X8_nextToken_212 hF ((g1.1 z7_).2.1 z8_))), (fun z9_ => ⟨(fun z10_ => (ik_X8_nextToken_212 hF (((g1.1 z7_).2.2 z9_).1 z10_))), (fun z11_ => (fun m_ => (((g1.1 z7_).2.2 z9_).2 z11_).elim (fun n_ z_ => il_X8_nextToken_109 hF z_ m_)))⟩)⟩)), (fun z12_ => (hF _ _ _ _ _ (g1.2 z12_)))⟩
def bl_X8_nextToken_0 (Fsize : Int32) (Atape : Nat → Int32) (Φ : Int32 → Int32 → Int32 → Int64 → Int32 → Prop) (back : Int32 → Int32 → Int32 → Int64 → Int32 → Prop) (Fplace : Int32) (Fbegin : Int32) (Ftoken : Int32) (Fword : Int64) (Ftold : Int32) : Prop := (Fsize ≤ Fplace → (kl_X8_nextToken_52 Fsize Atape Φ Fplace Fbegin Ftoken Fword Ftold)) ∧ (¬ Fsize ≤ Fplace → ((vp_in Fplace 1000 → (((Atape (Fplace).toNatClampNeg) = 32 → (back (Fplace + 1) Fbegin Ftoken Fword Ftold)) ∧ (¬ (Atape (Fplace).toNatClampNeg) = 32 → ((vp_in Fplace 1000 → ((¬ (Atape (Fplace).toNatClampNeg) = 10 → (kl_X8_nextToken_52 Fsize Atape Φ Fplace Fbegin Ftoken Fword Ftold)) ∧ ((Atape (Fplace).toNatClampNeg) = 10 → (back (Fplace + 1) Fbegin Ftoken Fword Ftold))))))))))
theorem bq_X8_nextToken_0 {Fsize : Int32} {Atape : Nat → Int32} {Fplace : Int32} {Fbegin : Int32} {Ftoken : Int32} {Fword : Int64} {Ftold : Int32} {Φ1 Φ2 Φ3 : Int32 → Int32 → Int32 → Int64 → Int32 → Prop} {back1 back2 back3 : Int32 → Int32 → Int32 → Int64 → Int32 → Prop} (hF : ∀ (a0 : Int32) (a1 : Int32) (a2 : Int32) (a3 : Int64) (a4 : Int32), Φ1 a0 a1 a2 a3 a4 → Φ2 a0 a1 a2 a3 a4 → Φ3 a0 a1 a2 a3 a4) (hback : ∀ (a0 : Int32) (a1 : Int32) (a2 : Int32) (a3 : Int64) (a4 : Int32), back1 a0 a1 a2 a3 a4 → back2 a0 a1 a2 a3 a4 → back3 a0 a1 a2 a3 a4) (g1 : lb_X8_nextToken_0 Fsize Atape Φ1 back1 Fplace Fbegin Ftoken Fword Ftold) (g2 : bl_X8_nextToken_0 Fsize Atape Φ2 back2 Fplace Fbegin Ftoken Fword Ftold) : lb_X8_nextToken_0 Fsize Atape Φ3 back3 Fplace Fbegin Ftoken Fword Ftold := ⟨(fun z1_ => (kq_X8_nextToken_52 hF (g1.1 z1_) (g2.1 z1_))), (fun z2_ => ⟨(g1.2 z2_).1, ⟨(fun z3_ => (hback _ _ _ _ _ ((g1.2 z2_).2.1 z3_) (((g2.2 z2_) (g1.2 z2_).1).1 z3_))), (fun z4_ => ⟨((g1.2 z2_).2.2 z4_).1, ⟨(fun z5_ => (kq_X8_nextToken_52 hF (((g1.2 z2_).2.2 z4_).2.1 z5_) (((((g2.2 z2_) (g1.2 z2_).1).2 z4_) ((g1.2 z2_).2.2 z4_).1).1 z5_))), (fun z6_ => (hback _ _ _ _ _ (((g1.2 z2_).2.2 z4_).2.2 z6_) (((((g2.2 z2_) (g1.2 z2_).1).2 z4_) ((g1.2 z2_).2.2 z4_).1).2 z6_)))⟩⟩)⟩⟩)⟩
theorem ib_X8_nextToken_0 {Fsize : Int32} {Atape : Nat → Int32} {Fplace : Int32} {Fbegin : Int32} {Ftoken : Int32} {Fword : Int64} {Ftold : Int32} {Φ1 Φ2 : Int32 → Int32 → Int32 → Int64 → Int32 → Prop} {back1 back2 : Int32 → Int32 → Int32 → Int64 → Int32 → Prop} (hF : ∀ (a0 : Int32) (a1 : Int32) (a2 : Int32) (a3 : Int64) (a4 : Int32), Φ1 a0 a1 a2 a3 a4 → Φ2 a0 a1 a2 a3 a4) (hback : ∀ (a0 : Int32) (a1 : Int32) (a2 : Int32) (a3 : Int64) (a4 : Int32), back1 a0 a1 a2 a3 a4 → back2 a0 a1 a2 a3 a4) (g1 : lb_X8_nextToken_0 Fsize Atape Φ1 back1 Fplace Fbegin Ftoken Fword Ftold) : bl_X8_nextToken_0 Fsize Atape Φ2 back2 Fplace Fbegin Ftoken Fword Ftold := ⟨(fun z7_ => (ik_X8_nextToken_52 hF (g1.1 z7_))), (fun z8_ => (fun _ => ⟨(fun z9_ => (hback _ _ _ _ _ ((g1.2 z8_).2.1 z9_))), (fun z10_ => (fun _ => ⟨(fun z11_ => (ik_X8_nextToken_52 hF (((g1.2 z8_).2.2 z10_).2.1 z11_))), (fun z12_ => (hback _ _ _ _ _ (((g1.2 z8_).2.2 z10_).2.2 z12_)))⟩))⟩))⟩
def ll_X8_nextToken_0 (Fsize : Int32) (Atape : Nat → Int32) (Φ : Int32 → Int32 → Int32 → Int64 → Int32 → Prop) : Nat → Int32 → Int32 → Int32 → Int64 → Int32 → Prop
  | 0, _, _, _, _, _ => True
  | n_ + 1, Fplace, Fbegin, Ftoken, Fword, Ftold => bl_X8_nextToken_0 Fsize Atape  Φ (ll_X8_nextToken_0 Fsize Atape  Φ n_) Fplace Fbegin Ftoken Fword Ftold
theorem lq_X8_nextToken_0 {Fsize : Int32} {Atape : Nat → Int32} {Φ1 Φ2 Φ3 : Int32 → Int32 → Int32 → Int64 → Int32 → Prop} (hF : ∀ (a0 : Int32) (a1 : Int32) (a2 : Int32) (a3 : Int64) (a4 : Int32), Φ1 a0 a1 a2 a3 a4 → Φ2 a0 a1 a2 a3 a4 → Φ3 a0 a1 a2 a3 a4) : ∀ {n_ : Nat} {Fplace : Int32} {Fbegin : Int32} {Ftoken : Int32} {Fword : Int64} {Ftold : Int32}, lf_X8_nextToken_0 Fsize Atape Φ1 n_ Fplace Fbegin Ftoken Fword Ftold → ll_X8_nextToken_0 Fsize Atape Φ2 n_ Fplace Fbegin Ftoken Fword Ftold → lf_X8_nextToken_0 Fsize Atape Φ3 n_ Fplace Fbegin Ftoken Fword Ftold := by
  intro n_
  induction n_ with
  | zero => intro Fplace Fbegin Ftoken Fword Ftold z_ _; exact z_.elim
  | succ n_ ih => intro Fplace Fbegin Ftoken Fword Ftold z_ y_; exact bq_X8_nextToken_0 hF (fun _ _ _ _ _ u_ v_ => ih u_ v_) z_ y_
theorem il_X8_nextToken_0 {Fsize : Int32} {Atape : Nat → Int32} {Φ1 Φ2 : Int32 → Int32 → Int32 → Int64 → Int32 → Prop} (hF : ∀ (a0 : Int32) (a1 : Int32) (a2 : Int32) (a3 : Int64) (a4 : Int32), Φ1 a0 a1 a2 a3 a4 → Φ2 a0 a1 a2 a3 a4) : ∀ {n_ : Nat} {Fplace : Int32} {Fbegin : Int32} {Ftoken : Int32} {Fword : Int64} {Ftold : Int32}, lf_X8_nextToken_0 Fsize Atape Φ1 n_ Fplace Fbegin Ftoken Fword Ftold → ∀ m_, ll_X8_nextToken_0 Fsize Atape Φ2 m_ Fplace Fbegin Ftoken Fword Ftold := by
  intro n_
  induction n_ with
  | zero => intro Fplace Fbegin Ftoken Fword Ftold z_; exact z_.elim
  | succ n_ ih =>
    intro Fplace Fbegin Ftoken Fword Ftold z_ m_
    cases m_ with
    | zero => trivial
    | succ m_ => exact ib_X8_nextToken_0 hF (fun _ _ _ _ _ u_ => ih u_ m_) z_
def wl_X8_nextToken (Fsize : Int32) (Atape : Nat → Int32) (Fplace : Int32) (Fbegin : Int32) (Ftoken : Int32) (Fword : Int64) (Ftold : Int32) (Φ : Int32 → Int32 → Int32 → Int64 → Int32 → Prop) : Prop := (∀ n_, ll_X8_nextToken_0 Fsize Atape  Φ n_ Fplace Fbegin Ftoken Fword Ftold)
theorem wq_X8_nextToken {Fsize : Int32} {Atape : Nat → Int32} {Fplace : Int32} {Fbegin : Int32} {Ftoken : Int32} {Fword : Int64} {Ftold : Int32} {Φ1 Φ2 Φ3 : Int32 → Int32 → Int32 → Int64 → Int32 → Prop} (hF : ∀ (a0 : Int32) (a1 : Int32) (a2 : Int32) (a3 : Int64) (a4 : Int32), Φ1 a0 a1 a2 a3 a4 → Φ2 a0 a1 a2 a3 a4 → Φ3 a0 a1 a2 a3 a4) (g1 : wp_X8_nextToken Fsize Atape Fplace Fbegin Ftoken Fword Ftold Φ1) (g2 : wl_X8_nextToken Fsize Atape Fplace Fbegin Ftoken Fword Ftold Φ2) : wp_X8_nextToken Fsize Atape Fplace Fbegin Ftoken Fword Ftold Φ3 := (g1.elim (fun n_ z_ => ⟨n_, lq_X8_nextToken_0 hF z_ (g2 n_)⟩))
theorem iw_X8_nextToken {Fsize : Int32} {Atape : Nat → Int32} {Fplace : Int32} {Fbegin : Int32} {Ftoken : Int32} {Fword : Int64} {Ftold : Int32} {Φ1 Φ2 : Int32 → Int32 → Int32 → Int64 → Int32 → Prop} (hF : ∀ (a0 : Int32) (a1 : Int32) (a2 : Int32) (a3 : Int64) (a4 : Int32), Φ1 a0 a1 a2 a3 a4 → Φ2 a0 a1 a2 a3 a4) (g1 : wp_X8_nextToken Fsize Atape Fplace Fbegin Ftoken Fword Ftold Φ1) : wl_X8_nextToken Fsize Atape Fplace Fbegin Ftoken Fword Ftold Φ2 := (fun m_ => g1.elim (fun n_ z_ => il_X8_nextToken_0 hF z_ m_))
def wl_X8_isWord (Ftoken : Int32) (Fword : Int64) (x0 : Int64) (Φ : Int32 → Prop) : Prop := (¬ Ftoken = 1 → (Φ 0)) ∧ (Ftoken = 1 → ((¬ (lg_cmp Fword x0) = 0 → (Φ 0)) ∧ ((lg_cmp Fword x0) = 0 → (Φ 1))))
theorem wq_X8_isWord {Ftoken : Int32} {Fword : Int64} {x0 : Int64} {Φ1 Φ2 Φ3 : Int32 → Prop} (hF : ∀ (a0 : Int32), Φ1 a0 → Φ2 a0 → Φ3 a0) (g1 : wp_X8_isWord Ftoken Fword x0 Φ1) (g2 : wl_X8_isWord Ftoken Fword x0 Φ2) : wp_X8_isWord Ftoken Fword x0 Φ3 := ⟨(fun z1_ => (hF _ (g1.1 z1_) (g2.1 z1_))), (fun z2_ => ⟨(fun z3_ => (hF _ ((g1.2 z2_).1 z3_) ((g2.2 z2_).1 z3_))), (fun z4_ => (hF _ ((g1.2 z2_).2 z4_) ((g2.2 z2_).2 z4_)))⟩)⟩
def wl_X8_fails (Fbegin : Int32) (x0 : Int32) (Fwrong : Int32) (Φ : Int32 → Int32 → Prop) : Prop := Φ 0 (x0 + (16 * Fbegin))
theorem wq_X8_fails {Fbegin : Int32} {x0 : Int32} {Fwrong : Int32} {Φ1 Φ2 Φ3 : Int32 → Int32 → Prop} (hF : ∀ (a0 : Int32) (a1 : Int32), Φ1 a0 a1 → Φ2 a0 a1 → Φ3 a0 a1) (g1 : wp_X8_fails Fbegin x0 Fwrong Φ1) (g2 : wl_X8_fails Fbegin x0 Fwrong Φ2) : wp_X8_fails Fbegin x0 Fwrong Φ3 := (hF _ _ g1 g2)
def wl_X8_isSign (Fbegin : Int32) (Ftoken : Int32) (Atape : Nat → Int32) (x0 : Int32) (Φ : Int32 → Prop) : Prop := (¬ Ftoken = 3 → (Φ 0)) ∧ (Ftoken = 3 → ((vp_in Fbegin 1000 → ((¬ (Atape (Fbegin).toNatClampNeg) = x0 → (Φ 0)) ∧ ((Atape (Fbegin).toNatClampNeg) = x0 → (Φ 1))))))
theorem wq_X8_isSign {Fbegin : Int32} {Ftoken : Int32} {Atape : Nat → Int32} {x0 : Int32} {Φ1 Φ2 Φ3 : Int32 → Prop} (hF : ∀ (a0 : Int32), Φ1 a0 → Φ2 a0 → Φ3 a0) (g1 : wp_X8_isSign Fbegin Ftoken Atape x0 Φ1) (g2 : wl_X8_isSign Fbegin Ftoken Atape x0 Φ2) : wp_X8_isSign Fbegin Ftoken Atape x0 Φ3 := ⟨(fun z1_ => (hF _ (g1.1 z1_) (g2.1 z1_))), (fun z2_ => ⟨(g1.2 z2_).1, ⟨(fun z3_ => (hF _ ((g1.2 z2_).2.1 z3_) (((g2.2 z2_) (g1.2 z2_).1).1 z3_))), (fun z4_ => (hF _ ((g1.2 z2_).2.2 z4_) (((g2.2 z2_) (g1.2 z2_).1).2 z4_)))⟩⟩)⟩
def wl_X8_ends (Fsize : Int32) (Atape : Nat → Int32) (Fplace : Int32) (Fbegin : Int32) (Ftoken : Int32) (Fword : Int64) (Ftold : Int32) (Fwrong : Int32) (Φ : Int32 → Int32 → Int32 → Int32 → Int64 → Int32 → Int32 → Prop) : Prop := wl_X8_isSign Fbegin Ftoken Atape 59 (fun r_2 => (¬ r_2 = 0 → (wl_X8_nextToken Fsize Atape Fplace Fbegin Ftoken Fword Ftold (fun Fplace_5 Fbegin_6 Ftoken_7 Fword_8 Ftold_9 => Φ 1 Fplace_5 Fbegin_6 Ftoken_7 Fword_8 Ftold_9 Fwrong))) ∧ (r_2 = 0 → (wl_X8_fails Fbegin 1 Fwrong (fun r_13 Fwrong_12 => ((r_13 = 0 ∨ r_13 = 1) → (Φ r_13 Fplace Fbegin Ftoken Fword Ftold Fwrong_12))))))
theorem wq_X8_ends {Fsize : Int32} {Atape : Nat → Int32} {Fplace : Int32} {Fbegin : Int32} {Ftoken : Int32} {Fword : Int64} {Ftold : Int32} {Fwrong : Int32} {Φ1 Φ2 Φ3 : Int32 → Int32 → Int32 → Int32 → Int64 → Int32 → Int32 → Prop} (hF : ∀ (a0 : Int32) (a1 : Int32) (a2 : Int32) (a3 : Int32) (a4 : Int64) (a5 : Int32) (a6 : Int32), Φ1 a0 a1 a2 a3 a4 a5 a6 → Φ2 a0 a1 a2 a3 a4 a5 a6 → Φ3 a0 a1 a2 a3 a4 a5 a6) (g1 : wp_X8_ends Fsize Atape Fplace Fbegin Ftoken Fword Ftold Fwrong Φ1) (g2 : wl_X8_ends Fsize Atape Fplace Fbegin Ftoken Fword Ftold Fwrong Φ2) : wp_X8_ends Fsize Atape Fplace Fbegin Ftoken Fword Ftold Fwrong Φ3 := (wq_X8_isSign (fun _ u1_ v1_ => ⟨(fun z1_ => (wq_X8_nextToken (fun _ _ _ _ _ u2_ v2_ => (hF _ _ _ _ _ _ _ u2_ v2_)) (u1_.1 z1_) (v1_.1 z1_))), (fun z2_ => (wq_X8_fails (fun _ _ u3_ v3_ => ⟨u3_.1, (hF _ _ _ _ _ _ _ u3_.2 (v3_ u3_.1))⟩) (u1_.2 z2_) (v1_.2 z2_)))⟩) g1 g2)
def wl_X8_needsWord (Fsize : Int32) (Atape : Nat → Int32) (x0 : Int64) (Fplace : Int32) (Fbegin : Int32) (Ftoken : Int32) (Fword : Int64) (Ftold : Int32) (Fwrong : Int32) (Φ : Int32 → Int32 → Int32 → Int32 → Int64 → Int32 → Int32 → Prop) : Prop := wl_X8_isWord Ftoken Fword x0 (fun r_2 => (¬ r_2 = 0 → (wl_X8_nextToken Fsize Atape Fplace Fbegin Ftoken Fword Ftold (fun Fplace_5 Fbegin_6 Ftoken_7 Fword_8 Ftold_9 => Φ 1 Fplace_5 Fbegin_6 Ftoken_7 Fword_8 Ftold_9 Fwrong))) ∧ (r_2 = 0 → (wl_X8_fails Fbegin 1 Fwrong (fun r_13 Fwrong_12 => ((r_13 = 0 ∨ r_13 = 1) → (Φ r_13 Fplace Fbegin Ftoken Fword Ftold Fwrong_12))))))
theorem wq_X8_needsWord {Fsize : Int32} {Atape : Nat → Int32} {x0 : Int64} {Fplace : Int32} {Fbegin : Int32} {Ftoken : Int32} {Fword : Int64} {Ftold : Int32} {Fwrong : Int32} {Φ1 Φ2 Φ3 : Int32 → Int32 → Int32 → Int32 → Int64 → Int32 → Int32 → Prop} (hF : ∀ (a0 : Int32) (a1 : Int32) (a2 : Int32) (a3 : Int32) (a4 : Int64) (a5 : Int32) (a6 : Int32), Φ1 a0 a1 a2 a3 a4 a5 a6 → Φ2 a0 a1 a2 a3 a4 a5 a6 → Φ3 a0 a1 a2 a3 a4 a5 a6) (g1 : wp_X8_needsWord Fsize Atape x0 Fplace Fbegin Ftoken Fword Ftold Fwrong Φ1) (g2 : wl_X8_needsWord Fsize Atape x0 Fplace Fbegin Ftoken Fword Ftold Fwrong Φ2) : wp_X8_needsWord Fsize Atape x0 Fplace Fbegin Ftoken Fword Ftold Fwrong Φ3 := (wq_X8_isWord (fun _ u1_ v1_ => ⟨(fun z1_ => (wq_X8_nextToken (fun _ _ _ _ _ u2_ v2_ => (hF _ _ _ _ _ _ _ u2_ v2_)) (u1_.1 z1_) (v1_.1 z1_))), (fun z2_ => (wq_X8_fails (fun _ _ u3_ v3_ => ⟨u3_.1, (hF _ _ _ _ _ _ _ u3_.2 (v3_ u3_.1))⟩) (u1_.2 z2_) (v1_.2 z2_)))⟩) g1 g2)
def wl_X8_within (v : Int32) (lo : Int32) (hi : Int32) (Φ : Int32 → Prop) : Prop := (v < lo → (Φ 0)) ∧ (¬ v < lo → ((hi < v → (Φ 0)) ∧ (¬ hi < v → (Φ 1))))
theorem wq_X8_within {v : Int32} {lo : Int32} {hi : Int32} {Φ1 Φ2 Φ3 : Int32 → Prop} (hF : ∀ (a0 : Int32), Φ1 a0 → Φ2 a0 → Φ3 a0) (g1 : wp_X8_within v lo hi Φ1) (g2 : wl_X8_within v lo hi Φ2) : wp_X8_within v lo hi Φ3 := ⟨(fun z1_ => (hF _ (g1.1 z1_) (g2.1 z1_))), (fun z2_ => ⟨(fun z3_ => (hF _ ((g1.2 z2_).1 z3_) ((g2.2 z2_).1 z3_))), (fun z4_ => (hF _ ((g1.2 z2_).2 z4_) ((g2.2 z2_).2 z4_)))⟩)⟩
def wl_X8_needsNumber (Fbegin : Int32) (Ftoken : Int32) (Ftold : Int32) (x0 : Int32) (x1 : Int32) (Fwrong : Int32) (Φ : Int32 → Int32 → Prop) : Prop := (Ftoken = 2 → (wl_X8_within Ftold x0 x1 (fun r_3 => (¬ r_3 = 0 → (Φ 1 Fwrong)) ∧ (r_3 = 0 → (wl_X8_fails Fbegin 4 Fwrong (fun r_7 Fwrong_6 => (r_7 = 0 → (Φ 0 Fwrong_6)) ∧ (¬ r_7 = 0 → (Φ 1 Fwrong_6)))))))) ∧ (¬ Ftoken = 2 → (wl_X8_fails Fbegin 1 Fwrong (fun r_11 Fwrong_10 => ((r_11 = 0 ∨ r_11 = 1) → (Φ r_11 Fwrong_10)))))
theorem wq_X8_needsNumber {Fbegin : Int32} {Ftoken : Int32} {Ftold : Int32} {x0 : Int32} {x1 : Int32} {Fwrong : Int32} {Φ1 Φ2 Φ3 : Int32 → Int32 → Prop} (hF : ∀ (a0 : Int32) (a1 : Int32), Φ1 a0 a1 → Φ2 a0 a1 → Φ3 a0 a1) (g1 : wp_X8_needsNumber Fbegin Ftoken Ftold x0 x1 Fwrong Φ1) (g2 : wl_X8_needsNumber Fbegin Ftoken Ftold x0 x1 Fwrong Φ2) : wp_X8_needsNumber Fbegin Ftoken Ftold x0 x1 Fwrong Φ3 := ⟨(fun z1_ => (wq_X8_within (fun _ u1_ v1_ => ⟨(fun z2_ => (hF _ _ (u1_.1 z2_) (v1_.1 z2_))), (fun z3_ => (wq_X8_fails (fun _ _ u2_ v2_ => ⟨(fun z4_ => (hF _ _ (u2_.1 z4_) (v2_.1 z4_))), (fun z5_ => (hF _ _ (u2_.2 z5_) (v2_.2 z5_)))⟩) (u1_.2 z3_) (v1_.2 z3_)))⟩) (g1.1 z1_) (g2.1 z1_))), (fun z6_ => (wq_X8_fails (fun _ _ u3_ v3_ => ⟨u3_.1, (hF _ _ u3_.2 (v3_ u3_.1))⟩) (g1.2 z6_) (g2.2 z6_)))⟩
def wl_X8_isKept (Ftoken : Int32) (Fword : Int64) (Φ : Int32 → Prop) : Prop := (Ftoken = 1 → (((lg_cmp Fword 10506516) = 0 → (Φ 1)) ∧ (¬ (lg_cmp Fword 10506516) = 0 → (((lg_cmp Fword 1162531) = 0 → (Φ 1)) ∧ (¬ (lg_cmp Fword 1162531) = 0 → (((lg_cmp Fword 1903978) = 0 → (Φ 1)) ∧ (¬ (lg_cmp Fword 1903978) = 0 → (((lg_cmp Fword 63030) = 0 → (Φ 1)) ∧ (¬ (lg_cmp Fword 63030) = 0 → (((lg_cmp Fword 5070782) = 0 → (Φ 1)) ∧ (¬ (lg_cmp Fword 5070782) = 0 → (((lg_cmp Fword 243140) = 0 → (Φ 1)) ∧ (¬ (lg_cmp Fword 243140) = 0 → (((lg_cmp Fword 14006) = 0 → (Φ 1)) ∧ (¬ (lg_cmp Fword 14006) = 0 → (((lg_cmp Fword 12584543) = 0 → (Φ 1)) ∧ (¬ (lg_cmp Fword 12584543) = 0 → (((lg_cmp Fword 204) = 0 → (Φ 1)) ∧ (¬ (lg_cmp Fword 204) = 0 → (((lg_cmp Fword 249) = 0 → (Φ 1)) ∧ (¬ (lg_cmp Fword 249) = 0 → (((lg_cmp Fword 60114) = 0 → (Φ 1)) ∧ (¬ (lg_cmp Fword 60114) = 0 → (((lg_cmp Fword 220309) = 0 → (Φ 1)) ∧ (¬ (lg_cmp Fword 220309) = 0 → (((lg_cmp Fword 259906) = 0 → (Φ 1)) ∧ (¬ (lg_cmp Fword 259906) = 0 → (((lg_cmp Fword 79) = 0 → (Φ 1)) ∧ (¬ (lg_cmp Fword 79) = 0 → (((lg_cmp Fword 158537) = 0 → (Φ 1)) ∧ (¬ (lg_cmp Fword 158537) = 0 → (((lg_cmp Fword 464144) = 0 → (Φ 1)) ∧ (¬ (lg_cmp Fword 464144) = 0 → (((lg_cmp Fword 10631) = 0 → (Φ 1)) ∧ (¬ (lg_cmp Fword 10631) = 0 → (((lg_cmp Fword 1111) = 0 → (Φ 1)) ∧ (¬ (lg_cmp Fword 1111) = 0 → ((¬ (lg_cmp Fword 423) = 0 → (Φ 0)) ∧ ((lg_cmp Fword 423) = 0 → (Φ 1)))))))))))))))))))))))))))))))))))))))) ∧ (¬ Ftoken = 1 → (Φ 1))
theorem wq_X8_isKept {Ftoken : Int32} {Fword : Int64} {Φ1 Φ2 Φ3 : Int32 → Prop} (hF : ∀ (a0 : Int32), Φ1 a0 → Φ2 a0 → Φ3 a0) (g1 : wp_X8_isKept Ftoken Fword Φ1) (g2 : wl_X8_isKept Ftoken Fword Φ2) : wp_X8_isKept Ftoken Fword Φ3 := ⟨(fun z1_ => ⟨(fun z2_ => (hF _ ((g1.1 z1_).1 z2_) ((g2.1 z1_).1 z2_))), (fun z3_ => ⟨(fun z4_ => (hF _ (((g1.1 z1_).2 z3_).1 z4_) (((g2.1 z1_).2 z3_).1 z4_))), (fun z5_ => ⟨(fun z6_ => (hF _ ((((g1.1 z1_).2 z3_).2 z5_).1 z6_) ((((g2.1 z1_).2 z3_).2 z5_).1 z6_))), (fun z7_ => ⟨(fun z8_ => (hF _ (((((g1.1 z1_).2 z3_).2 z5_).2 z7_).1 z8_) (((((g2.1 z1_).2 z3_).2 z5_).2 z7_).1 z8_))), (fun z9_ => ⟨(fun z10_ => (hF _ ((((((g1.1 z1_).2 z3_).2 z5_).2 z7_).2 z9_).1 z10_) ((((((g2.1 z1_).2 z3_).2 z5_).2 z7_).2 z9_).1 z10_))), (fun z11_ => ⟨(fun z12_ => (hF _ (((((((g1.1 z1_).2 z3_).2 z5_).2 z7_).2 z9_).2 z11_).1 z12_) (((((((g2.1 z1_).2 z3_).2 z5_).2 z7_).2 z9_).2 z11_).1 z12_))), (fun z13_ => ⟨(fun z14_ => (hF _ ((((((((g1.1 z1_).2 z3_).2 z5_).2 z7_).2 z9_).2 z11_).2 z13_).1 z14_) ((((((((g2.1 z1_).2 z3_).2 z5_).2 z7_).2 z9_).2 z11_).2 z13_).1 z14_))), (fun z15_ => ⟨(fun z16_ => (hF _ (((((((((g1.1 z1_).2 z3_).2 z5_).2 z7_).2 z9_).2 z11_).2 z13_).2 z15_).1 z16_) (((((((((g2.1 z1_).2 z3_).2 z5_).2 z7_).2 z9_).2 z11_).2 z13_).2 z15_).1 z16_))), (fun z17_ => ⟨(fun z18_ => (hF _ ((((((((((g1.1 z1_).2 z3_).2 z5_).2 z7_).2 z9_).2 z11_).2 z13_).2 z15_).2 z17_).1 z18_) ((((((((((g2.1 z1_).2 z3_).2 z5_).2 z7_).2 z9_).2 z11_).2 z13_).2 z15_).2 z17_).1 z18_))), (fun z19_ => ⟨(fun z20_ => (hF _ (((((((((((g1.1 z1_).2 z3_).2 z5_).2 z7_).2 z9_).2 z11_).2 z13_).2 z15_).2 z17_).2 z19_).1 z20_) (((((((((((g2.1 z1_).2 z3_).2 z5_).2 z7_).2 z9_).2 z11_).2 z13_).2 z15_).2 z17_).2 z19_).1 z20_))), (fun z21_ => ⟨(fun z22_ => (hF _ ((((((((((((g1.1 z1_).2 z3_).2 z5_).2 z7_).2 z9_).2 z11_).2 z13_).2 z15_).2 z17_).2 z19_).2 z21_).1 z22_) ((((((((((((g2.1 z1_).2 z3_).2 z5_).2 z7_).2 z9_).2 z11_).2 z13_).2 z15_).2 z17_).2 z19_).2 z21_).1 z22_))), (fun z23_ => ⟨(fun z24_ => (hF _ (((((((((((((g1.1 z1_).2 z3_).2 z5_).2 z7_).2 z9_).2 z11_).2 z13_).2 z15_).2 z17_).2 z19_).2 z21_).2 z23_).1 z24_) (((((((((((((g2.1 z1_).2 z3_).2 z5_).2 z7_).2 z9_).2 z11_).2 z13_).2 z15_).2 z17_).2 z19_).2 z21_).2 z23_).1 z24_))), (fun z25_ => ⟨(fun z26_ => (hF _ ((((((((((((((g1.1 z1_).2 z3_).2 z5_).2 z7_).2 z9_).2 z11_).2 z13_).2 z15_).2 z17_).2 z19_).2 z21_).2 z23_).2 z25_).1 z26_) ((((((((((((((g2.1 z1_).2 z3_).2 z5_).2 z7_).2 z9_).2 z11_).2 z13_).2 z15_).2 z17_).2 z19_).2 z21_).2 z23_).2 z25_).1 z26_))), (fun z27_ => ⟨(fun z28_ => (hF _ (((((((((((((((g1.1 z1_).2 z3_).2 z5_).2 z7_).2 z9_).2 z11_).2 z13_).2 z15_).2 z17_).2 z19_).2 z21_).2 z23_).2 z25_).2 z27_).1 z28_) (((((((((((((((g2.1 z1_).2 z3_).2 z5_).2 z7_).2 z9_).2 z11_).2 z13_).2 z15_).2 z17_).2 z19_).2 z21_).2 z23_).2 z25_).2 z27_).1 z28_))), (fun z29_ => ⟨(fun z30_ => (hF _ ((((((((((((((((g1.1 z1_).2 z3_).2 z5_).2 z7_).2 z9_).2 z11_).2 z13_).2 z15_).2 z17_).2 z19_).2 z21_).2 z23_).2 z25_).2 z27_).2 z29_).1 z30_) ((((((((((((((((g2.1 z1_).2 z3_).2 z5_).2 z7_).2 z9_).2 z11_).2 z13_).2 z15_).2 z17_).2 z19_).2 z21_).2 z23_).2 z25_).2 z27_).2 z29_).1 z30_))), (fun z31_ => ⟨(fun z32_ => (hF _ (((((((((((((((((g1.1 z1_).2 z3_).2 z5_).2 z7_).2 z9_).2 z11_).2 z13_).2 z15_).2 z17_).2 z19_).2 z21_).2 z23_).2 z25_).2 z27_).2 z29_).2 z31_).1 z32_) (((((((((((((((((g2.1 z1_).2 z3_).2 z5_).2 z7_).2 z9_).2 z11_).2 z13_).2 z15_).2 z17_).2 z19_).2 z21_).2 z23_).2 z25_).2 z27_).2 z29_).2 z31_).1 z32_))), (fun z33_ => ⟨(fun z34_ => (hF _ ((((((((((((((((((g1.1 z1_).2 z3_).2 z5_).2 z7_).2 z9_).2 z11_).2 z13_).2 z15_).2 z17_).2 z19_).2 z21_).2 z23_).2 z25_).2 z27_).2 z29_).2 z31_).2 z33_).1 z34_) ((((((((((((((((((g2.1 z1_).2 z3_).2 z5_).2 z7_).2 z9_).2 z11_).2 z13_).2 z15_).2 z17_).2 z19_).2 z21_).2 z23_).2 z25_).2 z27_).2 z29_).2 z31_).2 z33_).1 z34_))), (fun z35_ => ⟨(fun z36_ => (hF _ (((((((((((((((((((g1.1 z1_).2 z3_).2 z5_).2 z7_).2 z9_).2 z11_).2 z13_).2 z15_).2 z17_).2 z19_).2 z21_).2 z23_).2 z25_).2 z27_).2 z29_).2 z31_).2 z33_).2 z35_).1 z36_) (((((((((((((((((((g2.1 z1_).2 z3_).2 z5_).2 z7_).2 z9_).2 z11_).2 z13_).2 z15_).2 z17_).2 z19_).2 z21_).2 z23_).2 z25_).2 z27_).2 z29_).2 z31_).2 z33_).2 z35_).1 z36_))), (fun z37_ => ⟨(fun z38_ => (hF _ ((((((((((((((((((((g1.1 z1_).2 z3_).2 z5_).2 z7_).2 z9_).2 z11_).2 z13_).2 z15_).2 z17_).2 z19_).2 z21_).2 z23_).2 z25_).2 z27_).2 z29_).2 z31_).2 z33_).2 z35_).2 z37_).1 z38_) ((((((((((((((((((((g2.1 z1_).2 z3_).2 z5_).2 z7_).2 z9_).2 z11_).2 z13_).2 z15_).2 z17_).2 z19_).2 z21_).2 z23_).2 z25_).2 z27_).2 z29_).2 z31_).2 z33_).2 z35_).2 z37_).1 z38_))), (fun z39_ => (hF _ ((((((((((((((((((((g1.1 z1_).2 z3_).2 z5_).2 z7_).2 z9_).2 z11_).2 z13_).2 z15_).2 z17_).2 z19_).2 z21_).2 z23_).2 z25_).2 z27_).2 z29_).2 z31_).2 z33_).2 z35_).2 z37_).2 z39_) ((((((((((((((((((((g2.1 z1_).2 z3_).2 z5_).2 z7_).2 z9_).2 z11_).2 z13_).2 z15_).2 z17_).2 z19_).2 z21_).2 z23_).2 z25_).2 z27_).2 z29_).2 z31_).2 z33_).2 z35_).2 z37_).2 z39_)))⟩)⟩)⟩)⟩)⟩)⟩)⟩)⟩)⟩)⟩)⟩)⟩)⟩)⟩)⟩)⟩)⟩)⟩)⟩), (fun z40_ => (hF _ (g1.2 z40_) (g2.2 z40_)))⟩
def bl_X8_cellOf_2 (Fword : Int64) (Acells : Nat → Int32) (AcellName : Nat → Int64) (Φ : Int32 → Prop) (back : Int32 → Prop) (l1 : Int32) : Prop := ((Acells 1) ≤ l1 → (Φ (-1))) ∧ (¬ (Acells 1) ≤ l1 → ((vp_in l1 6 → ((¬ (lg_cmp (AcellName (l1).toNatClampNeg) Fword) = 0 → (back (l1 + 1))) ∧ ((lg_cmp (AcellName (l1).toNatClampNeg) Fword) = 0 → (Φ l1))))))
theorem bq_X8_cellOf_2 {Fword : Int64} {Acells : Nat → Int32} {AcellName : Nat → Int64} {l1 : Int32} {Φ1 Φ2 Φ3 : Int32 → Prop} {back1 back2 back3 : Int32 → Prop} (hF : ∀ (a0 : Int32), Φ1 a0 → Φ2 a0 → Φ3 a0) (hback : ∀ (a0 : Int32), back1 a0 → back2 a0 → back3 a0) (g1 : lb_X8_cellOf_2 Fword Acells AcellName Φ1 back1 l1) (g2 : bl_X8_cellOf_2 Fword Acells AcellName Φ2 back2 l1) : lb_X8_cellOf_2 Fword Acells AcellName Φ3 back3 l1 := ⟨(fun z1_ => (hF _ (g1.1 z1_) (g2.1 z1_))), (fun z2_ => ⟨(g1.2 z2_).1, ⟨(fun z3_ => (hback _ ((g1.2 z2_).2.1 z3_) (((g2.2 z2_) (g1.2 z2_).1).1 z3_))), (fun z4_ => (hF _ ((g1.2 z2_).2.2 z4_) (((g2.2 z2_) (g1.2 z2_).1).2 z4_)))⟩⟩)⟩
def ll_X8_cellOf_2 (Fword : Int64) (Acells : Nat → Int32) (AcellName : Nat → Int64) (Φ : Int32 → Prop) : Nat → Int32 → Prop
  | 0, _ => True
  | n_ + 1, l1 => bl_X8_cellOf_2 Fword Acells AcellName  Φ (ll_X8_cellOf_2 Fword Acells AcellName  Φ n_) l1
theorem lq_X8_cellOf_2 {Fword : Int64} {Acells : Nat → Int32} {AcellName : Nat → Int64} {Φ1 Φ2 Φ3 : Int32 → Prop} (hF : ∀ (a0 : Int32), Φ1 a0 → Φ2 a0 → Φ3 a0) : ∀ {n_ : Nat} {l1 : Int32}, lf_X8_cellOf_2 Fword Acells AcellName Φ1 n_ l1 → ll_X8_cellOf_2 Fword Acells AcellName Φ2 n_ l1 → lf_X8_cellOf_2 Fword Acells AcellName Φ3 n_ l1 := by
  intro n_
  induction n_ with
  | zero => intro l1 z_ _; exact z_.elim
  | succ n_ ih => intro l1 z_ y_; exact bq_X8_cellOf_2 hF (fun _ u_ v_ => ih u_ v_) z_ y_
def wl_X8_cellOf (Fword : Int64) (Acells : Nat → Int32) (AcellName : Nat → Int64) (Φ : Int32 → Prop) : Prop := (∀ n_, ll_X8_cellOf_2 Fword Acells AcellName  Φ n_ 0)
theorem wq_X8_cellOf {Fword : Int64} {Acells : Nat → Int32} {AcellName : Nat → Int64} {Φ1 Φ2 Φ3 : Int32 → Prop} (hF : ∀ (a0 : Int32), Φ1 a0 → Φ2 a0 → Φ3 a0) (g1 : wp_X8_cellOf Fword Acells AcellName Φ1) (g2 : wl_X8_cellOf Fword Acells AcellName Φ2) : wp_X8_cellOf Fword Acells AcellName Φ3 := (g1.elim (fun n_ z_ => ⟨n_, lq_X8_cellOf_2 hF z_ (g2 n_)⟩))
def bl_X8_stuffOf_2 (Fword : Int64) (Astuffs : Nat → Int32) (AstuffName : Nat → Int64) (Φ : Int32 → Prop) (back : Int32 → Prop) (l1 : Int32) : Prop := ((Astuffs 1) ≤ l1 → (Φ (-1))) ∧ (¬ (Astuffs 1) ≤ l1 → ((vp_in l1 4 → ((¬ (lg_cmp (AstuffName (l1).toNatClampNeg) Fword) = 0 → (back (l1 + 1))) ∧ ((lg_cmp (AstuffName (l1).toNatClampNeg) Fword) = 0 → (Φ l1))))))
theorem bq_X8_stuffOf_2 {Fword : Int64} {Astuffs : Nat → Int32} {AstuffName : Nat → Int64} {l1 : Int32} {Φ1 Φ2 Φ3 : Int32 → Prop} {back1 back2 back3 : Int32 → Prop} (hF : ∀ (a0 : Int32), Φ1 a0 → Φ2 a0 → Φ3 a0) (hback : ∀ (a0 : Int32), back1 a0 → back2 a0 → back3 a0) (g1 : lb_X8_stuffOf_2 Fword Astuffs AstuffName Φ1 back1 l1) (g2 : bl_X8_stuffOf_2 Fword Astuffs AstuffName Φ2 back2 l1) : lb_X8_stuffOf_2 Fword Astuffs AstuffName Φ3 back3 l1 := ⟨(fun z1_ => (hF _ (g1.1 z1_) (g2.1 z1_))), (fun z2_ => ⟨(g1.2 z2_).1, ⟨(fun z3_ => (hback _ ((g1.2 z2_).2.1 z3_) (((g2.2 z2_) (g1.2 z2_).1).1 z3_))), (fun z4_ => (hF _ ((g1.2 z2_).2.2 z4_) (((g2.2 z2_) (g1.2 z2_).1).2 z4_)))⟩⟩)⟩
def ll_X8_stuffOf_2 (Fword : Int64) (Astuffs : Nat → Int32) (AstuffName : Nat → Int64) (Φ : Int32 → Prop) : Nat → Int32 → Prop
  | 0, _ => True
  | n_ + 1, l1 => bl_X8_stuffOf_2 Fword Astuffs AstuffName  Φ (ll_X8_stuffOf_2 Fword Astuffs AstuffName  Φ n_) l1
theorem lq_X8_stuffOf_2 {Fword : Int64} {Astuffs : Nat → Int32} {AstuffName : Nat → Int64} {Φ1 Φ2 Φ3 : Int32 → Prop} (hF : ∀ (a0 : Int32), Φ1 a0 → Φ2 a0 → Φ3 a0) : ∀ {n_ : Nat} {l1 : Int32}, lf_X8_stuffOf_2 Fword Astuffs AstuffName Φ1 n_ l1 → ll_X8_stuffOf_2 Fword Astuffs AstuffName Φ2 n_ l1 → lf_X8_stuffOf_2 Fword Astuffs AstuffName Φ3 n_ l1 := by
  intro n_
  induction n_ with
  | zero => intro l1 z_ _; exact z_.elim
  | succ n_ ih => intro l1 z_ y_; exact bq_X8_stuffOf_2 hF (fun _ u_ v_ => ih u_ v_) z_ y_
def wl_X8_stuffOf (Fword : Int64) (Astuffs : Nat → Int32) (AstuffName : Nat → Int64) (Φ : Int32 → Prop) : Prop := (∀ n_, ll_X8_stuffOf_2 Fword Astuffs AstuffName  Φ n_ 0)
theorem wq_X8_stuffOf {Fword : Int64} {Astuffs : Nat → Int32} {AstuffName : Nat → Int64} {Φ1 Φ2 Φ3 : Int32 → Prop} (hF : ∀ (a0 : Int32), Φ1 a0 → Φ2 a0 → Φ3 a0) (g1 : wp_X8_stuffOf Fword Astuffs AstuffName Φ1) (g2 : wl_X8_stuffOf Fword Astuffs AstuffName Φ2) : wp_X8_stuffOf Fword Astuffs AstuffName Φ3 := (g1.elim (fun n_ z_ => ⟨n_, lq_X8_stuffOf_2 hF z_ (g2 n_)⟩))
def wl_X8_needsNew (Fbegin : Int32) (Ftoken : Int32) (Fword : Int64) (Astuffs : Nat → Int32) (Acells : Nat → Int32) (AstuffName : Nat → Int64) (AcellName : Nat → Int64) (Fwrong : Int32) (Φ : Int32 → Int32 → Prop) : Prop := wl_X8_isKept Ftoken Fword (fun r_2 => (r_2 = 0 → (wl_X8_stuffOf Fword Astuffs AstuffName (fun r_5 => (0 ≤ r_5 → (wl_X8_fails Fbegin 3 Fwrong (fun r_9 Fwrong_8 => (r_9 = 0 → (Φ 0 Fwrong_8)) ∧ (¬ r_9 = 0 → (Φ 1 Fwrong_8))))) ∧ (¬ 0 ≤ r_5 → (wl_X8_cellOf Fword Acells AcellName (fun r_12 => (r_12 < 0 → (Φ 1 Fwrong)) ∧ (¬ r_12 < 0 → (wl_X8_fails Fbegin 3 Fwrong (fun r_16 Fwrong_15 => (r_16 = 0 → (Φ 0 Fwrong_15)) ∧ (¬ r_16 = 0 → (Φ 1 Fwrong_15))))))))))) ∧ (¬ r_2 = 0 → (wl_X8_fails Fbegin 1 Fwrong (fun r_20 Fwrong_19 => ((r_20 = 0 ∨ r_20 = 1) → (Φ r_20 Fwrong_19))))))
theorem wq_X8_needsNew {Fbegin : Int32} {Ftoken : Int32} {Fword : Int64} {Astuffs : Nat → Int32} {Acells : Nat → Int32} {AstuffName : Nat → Int64} {AcellName : Nat → Int64} {Fwrong : Int32} {Φ1 Φ2 Φ3 : Int32 → Int32 → Prop} (hF : ∀ (a0 : Int32) (a1 : Int32), Φ1 a0 a1 → Φ2 a0 a1 → Φ3 a0 a1) (g1 : wp_X8_needsNew Fbegin Ftoken Fword Astuffs Acells AstuffName AcellName Fwrong Φ1) (g2 : wl_X8_needsNew Fbegin Ftoken Fword Astuffs Acells AstuffName AcellName Fwrong Φ2) : wp_X8_needsNew Fbegin Ftoken Fword Astuffs Acells AstuffName AcellName Fwrong Φ3 := (wq_X8_isKept (fun _ u1_ v1_ => ⟨(fun z1_ => (wq_X8_stuffOf (fun _ u2_ v2_ => ⟨(fun z2_ => (wq_X8_fails (fun _ _ u3_ v3_ => ⟨(fun z3_ => (hF _ _ (u3_.1 z3_) (v3_.1 z3_))), (fun z4_ => (hF _ _ (u3_.2 z4_) (v3_.2 z4_)))⟩) (u2_.1 z2_) (v2_.1 z2_))), (fun z5_ => (wq_X8_cellOf (fun _ u4_ v4_ => ⟨(fun z6_ => (hF _ _ (u4_.1 z6_) (v4_.1 z6_))), (fun z7_ => (wq_X8_fails (fun _ _ u5_ v5_ => ⟨(fun z8_ => (hF _ _ (u5_.1 z8_) (v5_.1 z8_))), (fun z9_ => (hF _ _ (u5_.2 z9_) (v5_.2 z9_)))⟩) (u4_.2 z7_) (v4_.2 z7_)))⟩) (u2_.2 z5_) (v2_.2 z5_)))⟩) (u1_.1 z1_) (v1_.1 z1_))), (fun z10_ => (wq_X8_fails (fun _ _ u6_ v6_ => ⟨u6_.1, (hF _ _ u6_.2 (v6_ u6_.1))⟩) (u1_.2 z10_) (v1_.2 z10_)))⟩) g1 g2)
def wl_X8_readsStuff (Fsize : Int32) (Atape : Nat → Int32) (Acells : Nat → Int32) (AcellName : Nat → Int64) (Fplace : Int32) (Fbegin : Int32) (Ftoken : Int32) (Fword : Int64) (Ftold : Int32) (Fwrong : Int32) (Astuffs : Nat → Int32) (AstuffName : Nat → Int64) (Abears : Nat → Int32) (Acosts : Nat → Int32) (Φ : Int32 → Int32 → Int32 → Int32 → Int64 → Int32 → Int32 → (Nat → Int32) → (Nat → Int64) → (Nat → Int32) → (Nat → Int32) → Prop) : Prop := (¬ (Astuffs 1) = 4 → (wl_X8_nextToken Fsize Atape Fplace Fbegin Ftoken Fword Ftold (fun Fplace_3 Fbegin_4 Ftoken_5 Fword_6 Ftold_7 => wl_X8_needsNew Fbegin_4 Ftoken_5 Fword_6 Astuffs Acells AstuffName AcellName Fwrong (fun r_11 Fwrong_10 => (¬ r_11 = 0 → ((vp_in (Astuffs 1) 4 → (wl_X8_nextToken Fsize Atape Fplace_3 Fbegin_4 Ftoken_5 Fword_6 Ftold_7 (fun Fplace_15 Fbegin_16 Ftoken_17 Fword_18 Ftold_19 => wl_X8_needsWord Fsize Atape 1162531 Fplace_15 Fbegin_16 Ftoken_17 Fword_18 Ftold_19 Fwrong_10 (fun r_28 Fplace_22 Fbegin_23 Ftoken_24 Fword_25 Ftold_26 Fwrong_27 => (r_28 = 0 → (Φ 0 Fplace_22 Fbegin_23 Ftoken_24 Fword_25 Ftold_26 Fwrong_27 Astuffs (vp_updL AstuffName (Astuffs 1).toNatClampNeg Fword_6) Abears Acosts)) ∧ (¬ r_28 = 0 → (wl_X8_needsNumber Fbegin_23 Ftoken_24 Ftold_26 1 9999 Fwrong_27 (fun r_32 Fwrong_31 => (¬ r_32 = 0 → ((vp_in (4 + (Astuffs 1)) 24 → (wl_X8_nextToken Fsize Atape Fplace_22 Fbegin_23 Ftoken_24 Fword_25 Ftold_26 (fun Fplace_36 Fbegin_37 Ftoken_38 Fword_39 Ftold_40 => wl_X8_needsWord Fsize Atape 1903978 Fplace_36 Fbegin_37 Ftoken_38 Fword_39 Ftold_40 Fwrong_31 (fun r_49 Fplace_43 Fbegin_44 Ftoken_45 Fword_46 Ftold_47 Fwrong_48 => (r_49 = 0 → (Φ 0 Fplace_43 Fbegin_44 Ftoken_45 Fword_46 Ftold_47 Fwrong_48 Astuffs (vp_updL AstuffName (Astuffs 1).toNatClampNeg Fword_6) (upd Abears (4 + (Astuffs 1)).toNatClampNeg Ftold_26) Acosts)) ∧ (¬ r_49 = 0 → (wl_X8_needsNumber Fbegin_44 Ftoken_45 Ftold_47 0 999 Fwrong_48 (fun r_53 Fwrong_52 => (¬ r_53 = 0 → ((vp_in (4 + (Astuffs 1)) 24 → (wl_X8_nextToken Fsize Atape Fplace_43 Fbegin_44 Ftoken_45 Fword_46 Ftold_47 (fun Fplace_57 Fbegin_58 Ftoken_59 Fword_60 Ftold_61 => wl_X8_ends Fsize Atape Fplace_57 Fbegin_58 Ftoken_59 Fword_60 Ftold_61 Fwrong_52 (fun r_70 Fplace_64 Fbegin_65 Ftoken_66 Fword_67 Ftold_68 Fwrong_69 => ((r_70 = 0 ∨ r_70 = 1) → (Φ r_70 Fplace_64 Fbegin_65 Ftoken_66 Fword_67 Ftold_68 Fwrong_69 (upd Astuffs 1 (((Astuffs 1) + 1))) (vp_updL AstuffName (Astuffs 1).toNatClampNeg Fword_6) (upd Abears (4 + (Astuffs 1)).toNatClampNeg Ftold_26) (upd Acosts (4 + (Astuffs 1)).toNatClampNeg Ftold_47))))))))) ∧ (r_53 = 0 → (Φ 0 Fplace_43 Fbegin_44 Ftoken_45 Fword_46 Ftold_47 Fwrong_52 Astuffs (vp_updL AstuffName (Astuffs 1).toNatClampNeg Fword_6) (upd Abears (4 + (Astuffs 1)).toNatClampNeg Ftold_26) Acosts))))))))))) ∧ (r_32 = 0 → (Φ 0 Fplace_22 Fbegin_23 Ftoken_24 Fword_25 Ftold_26 Fwrong_31 Astuffs (vp_updL AstuffName (Astuffs 1).toNatClampNeg Fword_6) Abears Acosts))))))))))) ∧ (r_11 = 0 → (Φ 0 Fplace_3 Fbegin_4 Ftoken_5 Fword_6 Ftold_7 Fwrong_10 Astuffs AstuffName Abears Acosts)))))) ∧ ((Astuffs 1) = 4 → (wl_X8_fails Fbegin 5 Fwrong (fun r_74 Fwrong_73 => ((r_74 = 0 ∨ r_74 = 1) → (Φ r_74 Fplace Fbegin Ftoken Fword Ftold Fwrong_73 Astuffs AstuffName Abears Acosts)))))
theorem wq_X8_readsStuff {Fsize : Int32} {Atape : Nat → Int32} {Acells : Nat → Int32} {AcellName : Nat → Int64} {Fplace : Int32} {Fbegin : Int32} {Ftoken : Int32} {Fword : Int64} {Ftold : Int32} {Fwrong : Int32} {Astuffs : Nat → Int32} {AstuffName : Nat → Int64} {Abears : Nat → Int32} {Acosts : Nat → Int32} {Φ1 Φ2 Φ3 : Int32 → Int32 → Int32 → Int32 → Int64 → Int32 → Int32 → (Nat → Int32) → (Nat → Int64) → (Nat → Int32) → (Nat → Int32) → Prop} (hF : ∀ (a0 : Int32) (a1 : Int32) (a2 : Int32) (a3 : Int32) (a4 : Int64) (a5 : Int32) (a6 : Int32) (a7 : (Nat → Int32)) (a8 : (Nat → Int64)) (a9 : (Nat → Int32)) (a10 : (Nat → Int32)), Φ1 a0 a1 a2 a3 a4 a5 a6 a7 a8 a9 a10 → Φ2 a0 a1 a2 a3 a4 a5 a6 a7 a8 a9 a10 → Φ3 a0 a1 a2 a3 a4 a5 a6 a7 a8 a9 a10) (g1 : wp_X8_readsStuff Fsize Atape Acells AcellName Fplace Fbegin Ftoken Fword Ftold Fwrong Astuffs AstuffName Abears Acosts Φ1) (g2 : wl_X8_readsStuff Fsize Atape Acells AcellName Fplace Fbegin Ftoken Fword Ftold Fwrong Astuffs AstuffName Abears Acosts Φ2) : wp_X8_readsStuff Fsize Atape Acells AcellName Fplace Fbegin Ftoken Fword Ftold Fwrong Astuffs AstuffName Abears Acosts Φ3 := ⟨(fun z1_ => (wq_X8_nextToken (fun _ _ _ _ _ u1_ v1_ => (wq_X8_needsNew (fun _ _ u2_ v2_ => ⟨(fun z2_ => ⟨(u2_.1 z2_).1, (wq_X8_nextToken (fun _ _ _ _ _ u3_ v3_ => (wq_X8_needsWord (fun _ _ _ _ _ _ _ u4_ v4_ => ⟨(fun z3_ => (hF _ _ _ _ _ _ _ _ _ _ _ (u4_.1 z3_) (v4_.1 z3_))), (fun z4_ => (wq_X8_needsNumber (fun _ _ u5_ v5_ => ⟨(fun z5_ => ⟨(u5_.1 z5_).1, (wq_X8_nextToken (fun _ _ _ _ _ u6_ v6_ => (wq_X8_needsWord (fun _ _ _ _ _ _ _ u7_ v7_ => ⟨(fun z6_ => (hF _ _ _ _ _ _ _ _ _ _ _ (u7_.1 z6_) (v7_.1 z6_))), (fun z7_ => (wq_X8_needsNumber (fun _ _ u8_ v8_ => ⟨(fun z8_ => ⟨(u8_.1 z8_).1, (wq_X8_nextToken (fun _ _ _ _ _ u9_ v9_ => (wq_X8_ends (fun _ _ _ _ _ _ _ u10_ v10_ => ⟨u10_.1, (hF _ _ _ _ _ _ _ _ _ _ _ u10_.2 (v10_ u10_.1))⟩) u9_ v9_)) (u8_.1 z8_).2 ((v8_.1 z8_) (u8_.1 z8_).1))⟩), (fun z9_ => (hF _ _ _ _ _ _ _ _ _ _ _ (u8_.2 z9_) (v8_.2 z9_)))⟩) (u7_.2 z7_) (v7_.2 z7_)))⟩) u6_ v6_)) (u5_.1 z5_).2 ((v5_.1 z5_) (u5_.1 z5_).1))⟩), (fun z10_ => (hF _ _ _ _ _ _ _ _ _ _ _ (u5_.2 z10_) (v5_.2 z10_)))⟩) (u4_.2 z4_) (v4_.2 z4_)))⟩) u3_ v3_)) (u2_.1 z2_).2 ((v2_.1 z2_) (u2_.1 z2_).1))⟩), (fun z11_ => (hF _ _ _ _ _ _ _ _ _ _ _ (u2_.2 z11_) (v2_.2 z11_)))⟩) u1_ v1_)) (g1.1 z1_) (g2.1 z1_))), (fun z12_ => (wq_X8_fails (fun _ _ u11_ v11_ => ⟨u11_.1, (hF _ _ _ _ _ _ _ _ _ _ _ u11_.2 (v11_ u11_.1))⟩) (g1.2 z12_) (g2.2 z12_)))⟩
def wl_X8_readsCell (Fsize : Int32) (Atape : Nat → Int32) (Astuffs : Nat → Int32) (AstuffName : Nat → Int64) (Fplace : Int32) (Fbegin : Int32) (Ftoken : Int32) (Fword : Int64) (Ftold : Int32) (Fwrong : Int32) (Acells : Nat → Int32) (AcellName : Nat → Int64) (AcellAt : Nat → Int32) (Φ : Int32 → Int32 → Int32 → Int32 → Int64 → Int32 → Int32 → (Nat → Int32) → (Nat → Int64) → (Nat → Int32) → Prop) : Prop := (¬ (Acells 1) = 6 → (wl_X8_nextToken Fsize Atape Fplace Fbegin Ftoken Fword Ftold (fun Fplace_3 Fbegin_4 Ftoken_5 Fword_6 Ftold_7 => wl_X8_needsNew Fbegin_4 Ftoken_5 Fword_6 Astuffs Acells AstuffName AcellName Fwrong (fun r_11 Fwrong_10 => (¬ r_11 = 0 → ((vp_in (Acells 1) 6 → (wl_X8_nextToken Fsize Atape Fplace_3 Fbegin_4 Ftoken_5 Fword_6 Ftold_7 (fun Fplace_15 Fbegin_16 Ftoken_17 Fword_18 Ftold_19 => wl_X8_needsNumber Fbegin_16 Ftoken_17 Ftold_19 0 9999 Fwrong_10 (fun r_23 Fwrong_22 => (¬ r_23 = 0 → ((vp_in (6 + (Acells 1)) 36 → (wl_X8_nextToken Fsize Atape Fplace_15 Fbegin_16 Ftoken_17 Fword_18 Ftold_19 (fun Fplace_27 Fbegin_28 Ftoken_29 Fword_30 Ftold_31 => wl_X8_ends Fsize Atape Fplace_27 Fbegin_28 Ftoken_29 Fword_30 Ftold_31 Fwrong_22 (fun r_40 Fplace_34 Fbegin_35 Ftoken_36 Fword_37 Ftold_38 Fwrong_39 => ((r_40 = 0 ∨ r_40 = 1) → (Φ r_40 Fplace_34 Fbegin_35 Ftoken_36 Fword_37 Ftold_38 Fwrong_39 (upd Acells 1 (((Acells 1) + 1))) (vp_updL AcellName (Acells 1).toNatClampNeg Fword_6) (upd AcellAt (6 + (Acells 1)).toNatClampNeg Ftold_19))))))))) ∧ (r_23 = 0 → (Φ 0 Fplace_15 Fbegin_16 Ftoken_17 Fword_18 Ftold_19 Fwrong_22 Acells (vp_updL AcellName (Acells 1).toNatClampNeg Fword_6) AcellAt)))))))) ∧ (r_11 = 0 → (Φ 0 Fplace_3 Fbegin_4 Ftoken_5 Fword_6 Ftold_7 Fwrong_10 Acells AcellName AcellAt)))))) ∧ ((Acells 1) = 6 → (wl_X8_fails Fbegin 5 Fwrong (fun r_44 Fwrong_43 => ((r_44 = 0 ∨ r_44 = 1) → (Φ r_44 Fplace Fbegin Ftoken Fword Ftold Fwrong_43 Acells AcellName AcellAt)))))
theorem wq_X8_readsCell {Fsize : Int32} {Atape : Nat → Int32} {Astuffs : Nat → Int32} {AstuffName : Nat → Int64} {Fplace : Int32} {Fbegin : Int32} {Ftoken : Int32} {Fword : Int64} {Ftold : Int32} {Fwrong : Int32} {Acells : Nat → Int32} {AcellName : Nat → Int64} {AcellAt : Nat → Int32} {Φ1 Φ2 Φ3 : Int32 → Int32 → Int32 → Int32 → Int64 → Int32 → Int32 → (Nat → Int32) → (Nat → Int64) → (Nat → Int32) → Prop} (hF : ∀ (a0 : Int32) (a1 : Int32) (a2 : Int32) (a3 : Int32) (a4 : Int64) (a5 : Int32) (a6 : Int32) (a7 : (Nat → Int32)) (a8 : (Nat → Int64)) (a9 : (Nat → Int32)), Φ1 a0 a1 a2 a3 a4 a5 a6 a7 a8 a9 → Φ2 a0 a1 a2 a3 a4 a5 a6 a7 a8 a9 → Φ3 a0 a1 a2 a3 a4 a5 a6 a7 a8 a9) (g1 : wp_X8_readsCell Fsize Atape Astuffs AstuffName Fplace Fbegin Ftoken Fword Ftold Fwrong Acells AcellName AcellAt Φ1) (g2 : wl_X8_readsCell Fsize Atape Astuffs AstuffName Fplace Fbegin Ftoken Fword Ftold Fwrong Acells AcellName AcellAt Φ2) : wp_X8_readsCell Fsize Atape Astuffs AstuffName Fplace Fbegin Ftoken Fword Ftold Fwrong Acells AcellName AcellAt Φ3 := ⟨(fun z1_ => (wq_X8_nextToken (fun _ _ _ _ _ u1_ v1_ => (wq_X8_needsNew (fun _ _ u2_ v2_ => ⟨(fun z2_ => ⟨(u2_.1 z2_).1, (wq_X8_nextToken (fun _ _ _ _ _ u3_ v3_ => (wq_X8_needsNumber (fun _ _ u4_ v4_ => ⟨(fun z3_ => ⟨(u4_.1 z3_).1, (wq_X8_nextToken (fun _ _ _ _ _ u5_ v5_ => (wq_X8_ends (fun _ _ _ _ _ _ _ u6_ v6_ => ⟨u6_.1, (hF _ _ _ _ _ _ _ _ _ _ u6_.2 (v6_ u6_.1))⟩) u5_ v5_)) (u4_.1 z3_).2 ((v4_.1 z3_) (u4_.1 z3_).1))⟩), (fun z4_ => (hF _ _ _ _ _ _ _ _ _ _ (u4_.2 z4_) (v4_.2 z4_)))⟩) u3_ v3_)) (u2_.1 z2_).2 ((v2_.1 z2_) (u2_.1 z2_).1))⟩), (fun z5_ => (hF _ _ _ _ _ _ _ _ _ _ (u2_.2 z5_) (v2_.2 z5_)))⟩) u1_ v1_)) (g1.1 z1_) (g2.1 z1_))), (fun z6_ => (wq_X8_fails (fun _ _ u7_ v7_ => ⟨u7_.1, (hF _ _ _ _ _ _ _ _ _ _ u7_.2 (v7_ u7_.1))⟩) (g1.2 z6_) (g2.2 z6_)))⟩
def kl_X8_readsInput_201 (Fsize : Int32) (Atape : Nat → Int32) (Acells : Nat → Int32) (AcellName : Nat → Int64) (Φ : Int32 → Int32 → Int32 → Int32 → Int64 → Int32 → Int32 → (Nat → Int32) → (Nat → Int32) → (Nat → Int32) → (Nat → Int32) → Prop) (Fplace : Int32) (Fbegin : Int32) (Ftoken : Int32) (Fword : Int64) (Ftold : Int32) (Fwrong : Int32) (Ainputs : Nat → Int32) (AinputCell : Nat → Int32) (AinputLeast : Nat → Int32) (AinputMost : Nat → Int32) (s0 : Int32) (s1 : Int32) : Prop := ((s1 * s0) ≤ 64 → (wl_X8_nextToken Fsize Atape Fplace Fbegin Ftoken Fword Ftold (fun Fplace_47 Fbegin_48 Ftoken_49 Fword_50 Ftold_51 => wl_X8_ends Fsize Atape Fplace_47 Fbegin_48 Ftoken_49 Fword_50 Ftold_51 Fwrong (fun r_60 Fplace_54 Fbegin_55 Ftoken_56 Fword_57 Ftold_58 Fwrong_59 => ((r_60 = 0 ∨ r_60 = 1) → (Φ r_60 Fplace_54 Fbegin_55 Ftoken_56 Fword_57 Ftold_58 Fwrong_59 (upd Ainputs 1 (((Ainputs 1) + 1))) AinputCell AinputLeast AinputMost)))))) ∧ (¬ (s1 * s0) ≤ 64 → (wl_X8_fails Fbegin 5 Fwrong (fun r_64 Fwrong_63 => ((r_64 = 0 ∨ r_64 = 1) → (Φ r_64 Fplace Fbegin Ftoken Fword Ftold Fwrong_63 Ainputs AinputCell AinputLeast AinputMost)))))
theorem kq_X8_readsInput_201 {Fsize : Int32} {Atape : Nat → Int32} {Acells : Nat → Int32} {AcellName : Nat → Int64} {Fplace : Int32} {Fbegin : Int32} {Ftoken : Int32} {Fword : Int64} {Ftold : Int32} {Fwrong : Int32} {Ainputs : Nat → Int32} {AinputCell : Nat → Int32} {AinputLeast : Nat → Int32} {AinputMost : Nat → Int32} {s0 : Int32} {s1 : Int32} {Φ1 Φ2 Φ3 : Int32 → Int32 → Int32 → Int32 → Int64 → Int32 → Int32 → (Nat → Int32) → (Nat → Int32) → (Nat → Int32) → (Nat → Int32) → Prop} (hF : ∀ (a0 : Int32) (a1 : Int32) (a2 : Int32) (a3 : Int32) (a4 : Int64) (a5 : Int32) (a6 : Int32) (a7 : (Nat → Int32)) (a8 : (Nat → Int32)) (a9 : (Nat → Int32)) (a10 : (Nat → Int32)), Φ1 a0 a1 a2 a3 a4 a5 a6 a7 a8 a9 a10 → Φ2 a0 a1 a2 a3 a4 a5 a6 a7 a8 a9 a10 → Φ3 a0 a1 a2 a3 a4 a5 a6 a7 a8 a9 a10) (g1 : kf_X8_readsInput_201 Fsize Atape Acells AcellName Φ1 Fplace Fbegin Ftoken Fword Ftold Fwrong Ainputs AinputCell AinputLeast AinputMost s0 s1) (g2 : kl_X8_readsInput_201 Fsize Atape Acells AcellName Φ2 Fplace Fbegin Ftoken Fword Ftold Fwrong Ainputs AinputCell AinputLeast AinputMost s0 s1) : kf_X8_readsInput_201 Fsize Atape Acells AcellName Φ3 Fplace Fbegin Ftoken Fword Ftold Fwrong Ainputs AinputCell AinputLeast AinputMost s0 s1 := ⟨(fun z1_ => (wq_X8_nextToken (fun _ _ _ _ _ u1_ v1_ => (wq_X8_ends (fun _ _ _ _ _ _ _ u2_ v2_ => ⟨u2_.1, (hF _ _ _ _ _ _ _ _ _ _ _ u2_.2 (v2_ u2_.1))⟩) u1_ v1_)) (g1.1 z1_) (g2.1 z1_))), (fun z2_ => (wq_X8_fails (fun _ _ u3_ v3_ => ⟨u3_.1, (hF _ _ _ _ _ _ _ _ _ _ _ u3_.2 (v3_ u3_.1))⟩) (g1.2 z2_) (g2.2 z2_)))⟩
def kl_X8_readsInput_98 (Fsize : Int32) (Atape : Nat → Int32) (Acells : Nat → Int32) (AcellName : Nat → Int64) (Φ : Int32 → Int32 → Int32 → Int32 → Int64 → Int32 → Int32 → (Nat → Int32) → (Nat → Int32) → (Nat → Int32) → (Nat → Int32) → Prop) (Fplace : Int32) (Fbegin : Int32) (Ftoken : Int32) (Fword : Int64) (Ftold : Int32) (Fwrong : Int32) (Ainputs : Nat → Int32) (AinputCell : Nat → Int32) (AinputLeast : Nat → Int32) (AinputMost : Nat → Int32) (l1 : Int32) : Prop := wl_X8_nextToken Fsize Atape Fplace Fbegin Ftoken Fword Ftold (fun Fplace_19 Fbegin_20 Ftoken_21 Fword_22 Ftold_23 => wl_X8_needsNumber Fbegin_20 Ftoken_21 Ftold_23 0 9999 Fwrong (fun r_27 Fwrong_26 => (¬ r_27 = 0 → ((vp_in l1 12 → (wl_X8_nextToken Fsize Atape Fplace_19 Fbegin_20 Ftoken_21 Fword_22 Ftold_23 (fun Fplace_31 Fbegin_32 Ftoken_33 Fword_34 Ftold_35 => (vp_in l1 12 → (wl_X8_needsNumber Fbegin_32 Ftoken_33 Ftold_35 ((upd AinputLeast (l1).toNatClampNeg Ftold_23) (l1).toNatClampNeg) 9999 Fwrong_26 (fun r_40 Fwrong_39 => (¬ r_40 = 0 → ((vp_in l1 12 → ((vp_in l1 12 → ((¬ (Ainputs 1) = 1 → (kl_X8_readsInput_201 Fsize Atape Acells AcellName Φ Fplace_31 Fbegin_32 Ftoken_33 Fword_34 Ftold_35 Fwrong_39 Ainputs AinputCell (upd AinputLeast (l1).toNatClampNeg Ftold_23) (upd AinputMost (l1).toNatClampNeg Ftold_35) 1 ((Ftold_35 - ((upd AinputLeast (l1).toNatClampNeg Ftold_23) (l1).toNatClampNeg)) + 1))) ∧ ((Ainputs 1) = 1 → (kl_X8_readsInput_201 Fsize Atape Acells AcellName Φ Fplace_31 Fbegin_32 Ftoken_33 Fword_34 Ftold_35 Fwrong_39 Ainputs AinputCell (upd AinputLeast (l1).toNatClampNeg Ftold_23) (upd AinputMost (l1).toNatClampNeg Ftold_35) ((((upd AinputMost (l1).toNatClampNeg Ftold_35) 2) - ((upd AinputLeast (l1).toNatClampNeg Ftold_23) 2)) + 1) ((Ftold_35 - ((upd AinputLeast (l1).toNatClampNeg Ftold_23) (l1).toNatClampNeg)) + 1))))))))) ∧ (r_40 = 0 → (Φ 0 Fplace_31 Fbegin_32 Ftoken_33 Fword_34 Ftold_35 Fwrong_39 Ainputs AinputCell (upd AinputLeast (l1).toNatClampNeg Ftold_23) AinputMost)))))))))) ∧ (r_27 = 0 → (Φ 0 Fplace_19 Fbegin_20 Ftoken_21 Fword_22 Ftold_23 Fwrong_26 Ainputs AinputCell AinputLeast AinputMost))))
theorem kq_X8_readsInput_98 {Fsize : Int32} {Atape : Nat → Int32} {Acells : Nat → Int32} {AcellName : Nat → Int64} {Fplace : Int32} {Fbegin : Int32} {Ftoken : Int32} {Fword : Int64} {Ftold : Int32} {Fwrong : Int32} {Ainputs : Nat → Int32} {AinputCell : Nat → Int32} {AinputLeast : Nat → Int32} {AinputMost : Nat → Int32} {l1 : Int32} {Φ1 Φ2 Φ3 : Int32 → Int32 → Int32 → Int32 → Int64 → Int32 → Int32 → (Nat → Int32) → (Nat → Int32) → (Nat → Int32) → (Nat → Int32) → Prop} (hF : ∀ (a0 : Int32) (a1 : Int32) (a2 : Int32) (a3 : Int32) (a4 : Int64) (a5 : Int32) (a6 : Int32) (a7 : (Nat → Int32)) (a8 : (Nat → Int32)) (a9 : (Nat → Int32)) (a10 : (Nat → Int32)), Φ1 a0 a1 a2 a3 a4 a5 a6 a7 a8 a9 a10 → Φ2 a0 a1 a2 a3 a4 a5 a6 a7 a8 a9 a10 → Φ3 a0 a1 a2 a3 a4 a5 a6 a7 a8 a9 a10) (g1 : kf_X8_readsInput_98 Fsize Atape Acells AcellName Φ1 Fplace Fbegin Ftoken Fword Ftold Fwrong Ainputs AinputCell AinputLeast AinputMost l1) (g2 : kl_X8_readsInput_98 Fsize Atape Acells AcellName Φ2 Fplace Fbegin Ftoken Fword Ftold Fwrong Ainputs AinputCell AinputLeast AinputMost l1) : kf_X8_readsInput_98 Fsize Atape Acells AcellName Φ3 Fplace Fbegin Ftoken Fword Ftold Fwrong Ainputs AinputCell AinputLeast AinputMost l1 := (wq_X8_nextToken (fun _ _ _ _ _ u1_ v1_ => (wq_X8_needsNumber (fun _ _ u2_ v2_ => ⟨(fun z1_ => ⟨(u2_.1 z1_).1, (wq_X8_nextToken (fun _ _ _ _ _ u3_ v3_ => ⟨u3_.1, (wq_X8_needsNumber (fun _ _ u4_ v4_ => ⟨(fun z2_ => ⟨(u4_.1 z2_).1, ⟨(u4_.1 z2_).2.1, ⟨(fun z3_ => (kq_X8_readsInput_201 hF ((u4_.1 z2_).2.2.1 z3_) ((((v4_.1 z2_) (u4_.1 z2_).1) (u4_.1 z2_).2.1).1 z3_))), (fun z4_ => (kq_X8_readsInput_201 hF ((u4_.1 z2_).2.2.2 z4_) ((((v4_.1 z2_) (u4_.1 z2_).1) (u4_.1 z2_).2.1).2 z4_)))⟩⟩⟩), (fun z5_ => (hF _ _ _ _ _ _ _ _ _ _ _ (u4_.2 z5_) (v4_.2 z5_)))⟩) u3_.2 (v3_ u3_.1))⟩) (u2_.1 z1_).2 ((v2_.1 z1_) (u2_.1 z1_).1))⟩), (fun z6_ => (hF _ _ _ _ _ _ _ _ _ _ _ (u2_.2 z6_) (v2_.2 z6_)))⟩) u1_ v1_)) g1 g2)
def wl_X8_readsInput (Fsize : Int32) (Atape : Nat → Int32) (Acells : Nat → Int32) (AcellName : Nat → Int64) (Fplace : Int32) (Fbegin : Int32) (Ftoken : Int32) (Fword : Int64) (Ftold : Int32) (Fwrong : Int32) (Ainputs : Nat → Int32) (AinputCell : Nat → Int32) (AinputLeast : Nat → Int32) (AinputMost : Nat → Int32) (Φ : Int32 → Int32 → Int32 → Int32 → Int64 → Int32 → Int32 → (Nat → Int32) → (Nat → Int32) → (Nat → Int32) → (Nat → Int32) → Prop) : Prop := (¬ (Ainputs 1) = 2 → (wl_X8_nextToken Fsize Atape Fplace Fbegin Ftoken Fword Ftold (fun Fplace_3 Fbegin_4 Ftoken_5 Fword_6 Ftold_7 => wl_X8_isKept Ftoken_5 Fword_6 (fun r_10 => (r_10 = 0 → (wl_X8_cellOf Fword_6 Acells AcellName (fun r_13 => (vp_in (2 + (Ainputs 1)) 12 → ((vp_in (2 + (Ainputs 1)) 12 → ((0 ≤ ((upd AinputCell (2 + (Ainputs 1)).toNatClampNeg r_13) (2 + (Ainputs 1)).toNatClampNeg) → ((¬ (Ainputs 1) = 1 → (kl_X8_readsInput_98 Fsize Atape Acells AcellName Φ Fplace_3 Fbegin_4 Ftoken_5 Fword_6 Ftold_7 Fwrong Ainputs (upd AinputCell (2 + (Ainputs 1)).toNatClampNeg r_13) AinputLeast AinputMost (2 + (Ainputs 1)))) ∧ ((Ainputs 1) = 1 → ((vp_in (2 + (Ainputs 1)) 12 → ((¬ ((upd AinputCell (2 + (Ainputs 1)).toNatClampNeg r_13) 2) = ((upd AinputCell (2 + (Ainputs 1)).toNatClampNeg r_13) (2 + (Ainputs 1)).toNatClampNeg) → (kl_X8_readsInput_98 Fsize Atape Acells AcellName Φ Fplace_3 Fbegin_4 Ftoken_5 Fword_6 Ftold_7 Fwrong Ainputs (upd AinputCell (2 + (Ainputs 1)).toNatClampNeg r_13) AinputLeast AinputMost (2 + (Ainputs 1)))) ∧ (((upd AinputCell (2 + (Ainputs 1)).toNatClampNeg r_13) 2) = ((upd AinputCell (2 + (Ainputs 1)).toNatClampNeg r_13) (2 + (Ainputs 1)).toNatClampNeg) → (wl_X8_fails Fbegin_4 3 Fwrong (fun r_70 Fwrong_69 => ((r_70 = 0 ∨ r_70 = 1) → (Φ r_70 Fplace_3 Fbegin_4 Ftoken_5 Fword_6 Ftold_7 Fwrong_69 Ainputs (upd AinputCell (2 + (Ainputs 1)).toNatClampNeg r_13) AinputLeast AinputMost))))))))))) ∧ (¬ 0 ≤ ((upd AinputCell (2 + (Ainputs 1)).toNatClampNeg r_13) (2 + (Ainputs 1)).toNatClampNeg) → (wl_X8_fails Fbegin_4 2 Fwrong (fun r_74 Fwrong_73 => ((r_74 = 0 ∨ r_74 = 1) → (Φ r_74 Fplace_3 Fbegin_4 Ftoken_5 Fword_6 Ftold_7 Fwrong_73 Ainputs (upd AinputCell (2 + (Ainputs 1)).toNatClampNeg r_13) AinputLeast AinputMost)))))))))))) ∧ (¬ r_10 = 0 → (wl_X8_fails Fbegin_4 1 Fwrong (fun r_78 Fwrong_77 => ((r_78 = 0 ∨ r_78 = 1) → (Φ r_78 Fplace_3 Fbegin_4 Ftoken_5 Fword_6 Ftold_7 Fwrong_77 Ainputs AinputCell AinputLeast AinputMost))))))))) ∧ ((Ainputs 1) = 2 → (wl_X8_fails Fbegin 5 Fwrong (fun r_82 Fwrong_81 => ((r_82 = 0 ∨ r_82 = 1) → (Φ r_82 Fplace Fbegin Ftoken Fword Ftold Fwrong_81 Ainputs AinputCell AinputLeast AinputMost)))))
theorem wq_X8_readsInput {Fsize : Int32} {Atape : Nat → Int32} {Acells : Nat → Int32} {AcellName : Nat → Int64} {Fplace : Int32} {Fbegin : Int32} {Ftoken : Int32} {Fword : Int64} {Ftold : Int32} {Fwrong : Int32} {Ainputs : Nat → Int32} {AinputCell : Nat → Int32} {AinputLeast : Nat → Int32} {AinputMost : Nat → Int32} {Φ1 Φ2 Φ3 : Int32 → Int32 → Int32 → Int32 → Int64 → Int32 → Int32 → (Nat → Int32) → (Nat → Int32) → (Nat → Int32) → (Nat → Int32) → Prop} (hF : ∀ (a0 : Int32) (a1 : Int32) (a2 : Int32) (a3 : Int32) (a4 : Int64) (a5 : Int32) (a6 : Int32) (a7 : (Nat → Int32)) (a8 : (Nat → Int32)) (a9 : (Nat → Int32)) (a10 : (Nat → Int32)), Φ1 a0 a1 a2 a3 a4 a5 a6 a7 a8 a9 a10 → Φ2 a0 a1 a2 a3 a4 a5 a6 a7 a8 a9 a10 → Φ3 a0 a1 a2 a3 a4 a5 a6 a7 a8 a9 a10) (g1 : wp_X8_readsInput Fsize Atape Acells AcellName Fplace Fbegin Ftoken Fword Ftold Fwrong Ainputs AinputCell AinputLeast AinputMost Φ1) (g2 : wl_X8_readsInput Fsize Atape Acells AcellName Fplace Fbegin Ftoken Fword Ftold Fwrong Ainputs AinputCell AinputLeast AinputMost Φ2) : wp_X8_readsInput Fsize Atape Acells AcellName Fplace Fbegin Ftoken Fword Ftold Fwrong Ainputs AinputCell AinputLeast AinputMost Φ3 := ⟨(fun z1_ => (wq_X8_nextToken (fun _ _ _ _ _ u1_ v1_ => (wq_X8_isKept (fun _ u2_ v2_ => ⟨(fun z2_ => (wq_X8_cellOf (fun _ u3_ v3_ => ⟨u3_.1, ⟨u3_.2.1, ⟨(fun z3_ => ⟨(fun z4_ => (kq_X8_readsInput_98 hF ((u3_.2.2.1 z3_).1 z4_) ((((v3_ u3_.1) u3_.2.1).1 z3_).1 z4_))), (fun z5_ => ⟨((u3_.2.2.1 z3_).2 z5_).1, ⟨(fun z6_ => (kq_X8_readsInput_98 hF (((u3_.2.2.1 z3_).2 z5_).2.1 z6_) ((((((v3_ u3_.1) u3_.2.1).1 z3_).2 z5_) ((u3_.2.2.1 z3_).2 z5_).1).1 z6_))), (fun z7_ => (wq_X8_fails (fun _ _ u4_ v4_ => ⟨u4_.1, (hF _ _ _ _ _ _ _ _ _ _ _ u4_.2 (v4_ u4_.1))⟩) (((u3_.2.2.1 z3_).2 z5_).2.2 z7_) ((((((v3_ u3_.1) u3_.2.1).1 z3_).2 z5_) ((u3_.2.2.1 z3_).2 z5_).1).2 z7_)))⟩⟩)⟩), (fun z8_ => (wq_X8_fails (fun _ _ u5_ v5_ => ⟨u5_.1, (hF _ _ _ _ _ _ _ _ _ _ _ u5_.2 (v5_ u5_.1))⟩) (u3_.2.2.2 z8_) (((v3_ u3_.1) u3_.2.1).2 z8_)))⟩⟩⟩) (u2_.1 z2_) (v2_.1 z2_))), (fun z9_ => (wq_X8_fails (fun _ _ u6_ v6_ => ⟨u6_.1, (hF _ _ _ _ _ _ _ _ _ _ _ u6_.2 (v6_ u6_.1))⟩) (u2_.2 z9_) (v2_.2 z9_)))⟩) u1_ v1_)) (g1.1 z1_) (g2.1 z1_))), (fun z10_ => (wq_X8_fails (fun _ _ u7_ v7_ => ⟨u7_.1, (hF _ _ _ _ _ _ _ _ _ _ _ u7_.2 (v7_ u7_.1))⟩) (g1.2 z10_) (g2.2 z10_)))⟩
def wl_X8_needsCell (Fsize : Int32) (Atape : Nat → Int32) (Acells : Nat → Int32) (AcellName : Nat → Int64) (x0 : Int32) (Fplace : Int32) (Fbegin : Int32) (Ftoken : Int32) (Fword : Int64) (Ftold : Int32) (Fwrong : Int32) (AactCell : Nat → Int32) (Φ : Int32 → Int32 → Int32 → Int32 → Int64 → Int32 → Int32 → (Nat → Int32) → Prop) : Prop := wl_X8_isKept Ftoken Fword (fun r_2 => (r_2 = 0 → (wl_X8_cellOf Fword Acells AcellName (fun r_5 => (vp_in x0 96 → ((vp_in x0 96 → ((0 ≤ ((upd AactCell (x0).toNatClampNeg r_5) (x0).toNatClampNeg) → (wl_X8_nextToken Fsize Atape Fplace Fbegin Ftoken Fword Ftold (fun Fplace_10 Fbegin_11 Ftoken_12 Fword_13 Ftold_14 => Φ 1 Fplace_10 Fbegin_11 Ftoken_12 Fword_13 Ftold_14 Fwrong (upd AactCell (x0).toNatClampNeg r_5)))) ∧ (¬ 0 ≤ ((upd AactCell (x0).toNatClampNeg r_5) (x0).toNatClampNeg) → (wl_X8_fails Fbegin 2 Fwrong (fun r_18 Fwrong_17 => ((r_18 = 0 ∨ r_18 = 1) → (Φ r_18 Fplace Fbegin Ftoken Fword Ftold Fwrong_17 (upd AactCell (x0).toNatClampNeg r_5))))))))))))) ∧ (¬ r_2 = 0 → (wl_X8_fails Fbegin 1 Fwrong (fun r_22 Fwrong_21 => ((r_22 = 0 ∨ r_22 = 1) → (Φ r_22 Fplace Fbegin Ftoken Fword Ftold Fwrong_21 AactCell))))))
theorem wq_X8_needsCell {Fsize : Int32} {Atape : Nat → Int32} {Acells : Nat → Int32} {AcellName : Nat → Int64} {x0 : Int32} {Fplace : Int32} {Fbegin : Int32} {Ftoken : Int32} {Fword : Int64} {Ftold : Int32} {Fwrong : Int32} {AactCell : Nat → Int32} {Φ1 Φ2 Φ3 : Int32 → Int32 → Int32 → Int32 → Int64 → Int32 → Int32 → (Nat → Int32) → Prop} (hF : ∀ (a0 : Int32) (a1 : Int32) (a2 : Int32) (a3 : Int32) (a4 : Int64) (a5 : Int32) (a6 : Int32) (a7 : (Nat → Int32)), Φ1 a0 a1 a2 a3 a4 a5 a6 a7 → Φ2 a0 a1 a2 a3 a4 a5 a6 a7 → Φ3 a0 a1 a2 a3 a4 a5 a6 a7) (g1 : wp_X8_needsCell Fsize Atape Acells AcellName x0 Fplace Fbegin Ftoken Fword Ftold Fwrong AactCell Φ1) (g2 : wl_X8_needsCell Fsize Atape Acells AcellName x0 Fplace Fbegin Ftoken Fword Ftold Fwrong AactCell Φ2) : wp_X8_needsCell Fsize Atape Acells AcellName x0 Fplace Fbegin Ftoken Fword Ftold Fwrong AactCell Φ3 := (wq_X8_isKept (fun _ u1_ v1_ => ⟨(fun z1_ => (wq_X8_cellOf (fun _ u2_ v2_ => ⟨u2_.1, ⟨u2_.2.1, ⟨(fun z2_ => (wq_X8_nextToken (fun _ _ _ _ _ u3_ v3_ => (hF _ _ _ _ _ _ _ _ u3_ v3_)) (u2_.2.2.1 z2_) (((v2_ u2_.1) u2_.2.1).1 z2_))), (fun z3_ => (wq_X8_fails (fun _ _ u4_ v4_ => ⟨u4_.1, (hF _ _ _ _ _ _ _ _ u4_.2 (v4_ u4_.1))⟩) (u2_.2.2.2 z3_) (((v2_ u2_.1) u2_.2.1).2 z3_)))⟩⟩⟩) (u1_.1 z1_) (v1_.1 z1_))), (fun z4_ => (wq_X8_fails (fun _ _ u5_ v5_ => ⟨u5_.1, (hF _ _ _ _ _ _ _ _ u5_.2 (v5_ u5_.1))⟩) (u1_.2 z4_) (v1_.2 z4_)))⟩) g1 g2)
def wl_X8_actAt (Ftoken : Int32) (Fword : Int64) (Φ : Int32 → Prop) : Prop := wl_X8_isWord Ftoken Fword 14006 (fun r_2 => (r_2 = 0 → (wl_X8_isWord Ftoken Fword 12584543 (fun r_5 => (r_5 = 0 → (wl_X8_isWord Ftoken Fword 204 (fun r_8 => (r_8 = 0 → (wl_X8_isWord Ftoken Fword 249 (fun r_11 => (r_11 = 0 → (wl_X8_isWord Ftoken Fword 60114 (fun r_14 => (r_14 = 0 → (wl_X8_isWord Ftoken Fword 259906 (fun r_17 => (r_17 = 0 → (wl_X8_isWord Ftoken Fword 158537 (fun r_20 => (r_20 = 0 → (Φ (-1))) ∧ (¬ r_20 = 0 → (Φ 6))))) ∧ (¬ r_17 = 0 → (Φ 5))))) ∧ (¬ r_14 = 0 → (Φ 4))))) ∧ (¬ r_11 = 0 → (Φ 3))))) ∧ (¬ r_8 = 0 → (Φ 2))))) ∧ (¬ r_5 = 0 → (Φ 1))))) ∧ (¬ r_2 = 0 → (Φ 0)))
theorem wq_X8_actAt {Ftoken : Int32} {Fword : Int64} {Φ1 Φ2 Φ3 : Int32 → Prop} (hF : ∀ (a0 : Int32), Φ1 a0 → Φ2 a0 → Φ3 a0) (g1 : wp_X8_actAt Ftoken Fword Φ1) (g2 : wl_X8_actAt Ftoken Fword Φ2) : wp_X8_actAt Ftoken Fword Φ3 := (wq_X8_isWord (fun _ u1_ v1_ => ⟨(fun z1_ => (wq_X8_isWord (fun _ u2_ v2_ => ⟨(fun z2_ => (wq_X8_isWord (fun _ u3_ v3_ => ⟨(fun z3_ => (wq_X8_isWord (fun _ u4_ v4_ => ⟨(fun z4_ => (wq_X8_isWord (fun _ u5_ v5_ => ⟨(fun z5_ => (wq_X8_isWord (fun _ u6_ v6_ => ⟨(fun z6_ => (wq_X8_isWord (fun _ u7_ v7_ => ⟨(fun z7_ => (hF _ (u7_.1 z7_) (v7_.1 z7_))), (fun z8_ => (hF _ (u7_.2 z8_) (v7_.2 z8_)))⟩) (u6_.1 z6_) (v6_.1 z6_))), (fun z9_ => (hF _ (u6_.2 z9_) (v6_.2 z9_)))⟩) (u5_.1 z5_) (v5_.1 z5_))), (fun z10_ => (hF _ (u5_.2 z10_) (v5_.2 z10_)))⟩) (u4_.1 z4_) (v4_.1 z4_))), (fun z11_ => (hF _ (u4_.2 z11_) (v4_.2 z11_)))⟩) (u3_.1 z3_) (v3_.1 z3_))), (fun z12_ => (hF _ (u3_.2 z12_) (v3_.2 z12_)))⟩) (u2_.1 z2_) (v2_.1 z2_))), (fun z13_ => (hF _ (u2_.2 z13_) (v2_.2 z13_)))⟩) (u1_.1 z1_) (v1_.1 z1_))), (fun z14_ => (hF _ (u1_.2 z14_) (v1_.2 z14_)))⟩) g1 g2)
def wl_X8_puts (x0 : Int32) (Fcode : Int32) (Acodes : Nat → Int32) (Φ : Int32 → (Nat → Int32) → Prop) : Prop := (vp_in Fcode 6000 → (Φ (Fcode + 1) (upd Acodes (Fcode).toNatClampNeg x0)))
theorem wq_X8_puts {x0 : Int32} {Fcode : Int32} {Acodes : Nat → Int32} {Φ1 Φ2 Φ3 : Int32 → (Nat → Int32) → Prop} (hF : ∀ (a0 : Int32) (a1 : (Nat → Int32)), Φ1 a0 a1 → Φ2 a0 a1 → Φ3 a0 a1) (g1 : wp_X8_puts x0 Fcode Acodes Φ1) (g2 : wl_X8_puts x0 Fcode Acodes Φ2) : wp_X8_puts x0 Fcode Acodes Φ3 := ⟨g1.1, (hF _ _ g1.2 (g2 g1.1))⟩
def kl_X8_readsE_279 (Fsize : Int32) (Atape : Nat → Int32) (Acells : Nat → Int32) (AcellName : Nat → Int64) (x0 : Int32) (κ21 : Int32 → Int32 → Int32 → Int64 → Int32 → Int32 → Int32 → (Nat → Int32) → (Nat → Int32) → (Nat → Int32) → (Nat → Int32) → (Nat → Int32) → Int32 → Int32 → Prop) (Φ : Int32 → Int32 → Int32 → Int32 → Int64 → Int32 → Int32 → Int32 → (Nat → Int32) → (Nat → Int32) → (Nat → Int32) → (Nat → Int32) → (Nat → Int32) → Prop) (Fplace : Int32) (Fbegin : Int32) (Ftoken : Int32) (Fword : Int64) (Ftold : Int32) (Fwrong : Int32) (Fcode : Int32) (AlineFrom : Nat → Int32) (AlineTo : Nat → Int32) (Acodes : Nat → Int32) (Aopened : Nat → Int32) (Acompared : Nat → Int32) (l2 : Int32) : Prop := wl_X8_isSign Fbegin Ftoken Atape 43 (fun r_7 => (r_7 = 0 → (wl_X8_isSign Fbegin Ftoken Atape 45 (fun r_10 => (r_10 = 0 → (wl_X8_puts 22 Fcode Acodes (fun Fcode_13 Acodes_14 => wl_X8_nextToken Fsize Atape Fplace Fbegin Ftoken Fword Ftold (fun Fplace_17 Fbegin_18 Ftoken_19 Fword_20 Ftold_21 => κ21 Fplace_17 Fbegin_18 Ftoken_19 Fword_20 Ftold_21 Fwrong Fcode_13 AlineFrom AlineTo Acodes_14 Aopened Acompared l2 1)))) ∧ (¬ r_10 = 0 → (wl_X8_puts 21 Fcode Acodes (fun Fcode_24 Acodes_25 => wl_X8_nextToken Fsize Atape Fplace Fbegin Ftoken Fword Ftold (fun Fplace_28 Fbegin_29 Ftoken_30 Fword_31 Ftold_32 => κ21 Fplace_28 Fbegin_29 Ftoken_30 Fword_31 Ftold_32 Fwrong Fcode_24 AlineFrom AlineTo Acodes_25 Aopened Acompared l2 1))))))) ∧ (¬ r_7 = 0 → (wl_X8_puts 20 Fcode Acodes (fun Fcode_35 Acodes_36 => wl_X8_nextToken Fsize Atape Fplace Fbegin Ftoken Fword Ftold (fun Fplace_39 Fbegin_40 Ftoken_41 Fword_42 Ftold_43 => κ21 Fplace_39 Fbegin_40 Ftoken_41 Fword_42 Ftold_43 Fwrong Fcode_35 AlineFrom AlineTo Acodes_36 Aopened Acompared l2 1)))))
theorem kq_X8_readsE_279 {Fsize : Int32} {Atape : Nat → Int32} {Acells : Nat → Int32} {AcellName : Nat → Int64} {x0 : Int32} {Fplace : Int32} {Fbegin : Int32} {Ftoken : Int32} {Fword : Int64} {Ftold : Int32} {Fwrong : Int32} {Fcode : Int32} {AlineFrom : Nat → Int32} {AlineTo : Nat → Int32} {Acodes : Nat → Int32} {Aopened : Nat → Int32} {Acompared : Nat → Int32} {l2 : Int32} {κ211 κ212 κ213 : Int32 → Int32 → Int32 → Int64 → Int32 → Int32 → Int32 → (Nat → Int32) → (Nat → Int32) → (Nat → Int32) → (Nat → Int32) → (Nat → Int32) → Int32 → Int32 → Prop} {Φ1 Φ2 Φ3 : Int32 → Int32 → Int32 → Int32 → Int64 → Int32 → Int32 → Int32 → (Nat → Int32) → (Nat → Int32) → (Nat → Int32) → (Nat → Int32) → (Nat → Int32) → Prop} (hk21 : ∀ (a0 : Int32) (a1 : Int32) (a2 : Int32) (a3 : Int64) (a4 : Int32) (a5 : Int32) (a6 : Int32) (a7 : (Nat → Int32)) (a8 : (Nat → Int32)) (a9 : (Nat → Int32)) (a10 : (Nat → Int32)) (a11 : (Nat → Int32)) (a12 : Int32) (a13 : Int32), κ211 a0 a1 a2 a3 a4 a5 a6 a7 a8 a9 a10 a11 a12 a13 → κ212 a0 a1 a2 a3 a4 a5 a6 a7 a8 a9 a10 a11 a12 a13 → κ213 a0 a1 a2 a3 a4 a5 a6 a7 a8 a9 a10 a11 a12 a13) (hF : ∀ (a0 : Int32) (a1 : Int32) (a2 : Int32) (a3 : Int32) (a4 : Int64) (a5 : Int32) (a6 : Int32) (a7 : Int32) (a8 : (Nat → Int32)) (a9 : (Nat → Int32)) (a10 : (Nat → Int32)) (a11 : (Nat → Int32)) (a12 : (Nat → Int32)), Φ1 a0 a1 a2 a3 a4 a5 a6 a7 a8 a9 a10 a11 a12 → Φ2 a0 a1 a2 a3 a4 a5 a6 a7 a8 a9 a10 a11 a12 → Φ3 a0 a1 a2 a3 a4 a5 a6 a7 a8 a9 a10 a11 a12) (g1 : kf_X8_readsE_279 Fsize Atape Acells AcellName x0 κ211 Φ1 Fplace Fbegin Ftoken Fword Ftold Fwrong Fcode AlineFrom AlineTo Acodes Aopened Acompared l2) (g2 : kl_X8_readsE_279 Fsize Atape Acells AcellName x0 κ212 Φ2 Fplace Fbegin Ftoken Fword Ftold Fwrong Fcode AlineFrom AlineTo Acodes Aopened Acompared l2) : kf_X8_readsE_279 Fsize Atape Acells AcellName x0 κ213 Φ3 Fplace Fbegin Ftoken Fword Ftold Fwrong Fcode AlineFrom AlineTo Acodes Aopened Acompared l2 := (wq_X8_isSign (fun _ u1_ v1_ => ⟨(fun z1_ => (wq_X8_isSign (fun _ u2_ v2_ => ⟨(fun z2_ => (wq_X8_puts (fun _ _ u3_ v3_ => (wq_X8_nextToken (fun _ _ _ _ _ u4_ v4_ => (hk21 _ _ _ _ _ _ _ _ _ _ _ _ _ _ u4_ v4_)) u3_ v3_)) (u2_.1 z2_) (v2_.1 z2_))), (fun z3_ => (wq_X8_puts (fun _ _ u5_ v5_ => (wq_X8_nextToken (fun _ _ _ _ _ u6_ v6_ => (hk21 _ _ _ _ _ _ _ _ _ _ _ _ _ _ u6_ v6_)) u5_ v5_)) (u2_.2 z3_) (v2_.2 z3_)))⟩) (u1_.1 z1_) (v1_.1 z1_))), (fun z4_ => (wq_X8_puts (fun _ _ u7_ v7_ => (wq_X8_nextToken (fun _ _ _ _ _ u8_ v8_ => (hk21 _ _ _ _ _ _ _ _ _ _ _ _ _ _ u8_ v8_)) u7_ v7_)) (u1_.2 z4_) (v1_.2 z4_)))⟩) g1 g2)
def kl_X8_readsE_415 (Fsize : Int32) (Atape : Nat → Int32) (Acells : Nat → Int32) (AcellName : Nat → Int64) (x0 : Int32) (κ21 : Int32 → Int32 → Int32 → Int64 → Int32 → Int32 → Int32 → (Nat → Int32) → (Nat → Int32) → (Nat → Int32) → (Nat → Int32) → (Nat → Int32) → Int32 → Int32 → Prop) (Φ : Int32 → Int32 → Int32 → Int32 → Int64 → Int32 → Int32 → Int32 → (Nat → Int32) → (Nat → Int32) → (Nat → Int32) → (Nat → Int32) → (Nat → Int32) → Prop) (Fplace : Int32) (Fbegin : Int32) (Ftoken : Int32) (Fword : Int64) (Ftold : Int32) (Fwrong : Int32) (Fcode : Int32) (AlineFrom : Nat → Int32) (AlineTo : Nat → Int32) (Acodes : Nat → Int32) (Aopened : Nat → Int32) (Acompared : Nat → Int32) (l2 : Int32) (s0 : Int32) : Prop := wl_X8_puts s0 Fcode Acodes (fun Fcode_63 Acodes_64 => (vp_in l2 7 → (wl_X8_nextToken Fsize Atape Fplace Fbegin Ftoken Fword Ftold (fun Fplace_68 Fbegin_69 Ftoken_70 Fword_71 Ftold_72 => κ21 Fplace_68 Fbegin_69 Ftoken_70 Fword_71 Ftold_72 Fwrong Fcode_63 AlineFrom AlineTo Acodes_64 Aopened (upd Acompared (l2).toNatClampNeg (vp_nar .boolean 0)) l2 1))))
theorem kq_X8_readsE_415 {Fsize : Int32} {Atape : Nat → Int32} {Acells : Nat → Int32} {AcellName : Nat → Int64} {x0 : Int32} {Fplace : Int32} {Fbegin : Int32} {Ftoken : Int32} {Fword : Int64} {Ftold : Int32} {Fwrong : Int32} {Fcode : Int32} {AlineFrom : Nat → Int32} {AlineTo : Nat → Int32} {Acodes : Nat → Int32} {Aopened : Nat → Int32} {Acompared : Nat → Int32} {l2 : Int32} {s0 : Int32} {κ211 κ212 κ213 : Int32 → Int32 → Int32 → Int64 → Int32 → Int32 → Int32 → (Nat → Int32) → (Nat → Int32) → (Nat → Int32) → (Nat → Int32) → (Nat → Int32) → Int32 → Int32 → Prop} {Φ1 Φ2 Φ3 : Int32 → Int32 → Int32 → Int32 → Int64 → Int32 → Int32 → Int32 → (Nat → Int32) → (Nat → Int32) → (Nat → Int32) → (Nat → Int32) → (Nat → Int32) → Prop} (hk21 : ∀ (a0 : Int32) (a1 : Int32) (a2 : Int32) (a3 : Int64) (a4 : Int32) (a5 : Int32) (a6 : Int32) (a7 : (Nat → Int32)) (a8 : (Nat → Int32)) (a9 : (Nat → Int32)) (a10 : (Nat → Int32)) (a11 : (Nat → Int32)) (a12 : Int32) (a13 : Int32), κ211 a0 a1 a2 a3 a4 a5 a6 a7 a8 a9 a10 a11 a12 a13 → κ212 a0 a1 a2 a3 a4 a5 a6 a7 a8 a9 a10 a11 a12 a13 → κ213 a0 a1 a2 a3 a4 a5 a6 a7 a8 a9 a10 a11 a12 a13) (hF : ∀ (a0 : Int32) (a1 : Int32) (a2 : Int32) (a3 : Int32) (a4 : Int64) (a5 : Int32) (a6 : Int32) (a7 : Int32) (a8 : (Nat → Int32)) (a9 : (Nat → Int32)) (a10 : (Nat → Int32)) (a11 : (Nat → Int32)) (a12 : (Nat → Int32)), Φ1 a0 a1 a2 a3 a4 a5 a6 a7 a8 a9 a10 a11 a12 → Φ2 a0 a1 a2 a3 a4 a5 a6 a7 a8 a9 a10 a11 a12 → Φ3 a0 a1 a2 a3 a4 a5 a6 a7 a8 a9 a10 a11 a12) (g1 : kf_X8_readsE_415 Fsize Atape Acells AcellName x0 κ211 Φ1 Fplace Fbegin Ftoken Fword Ftold Fwrong Fcode AlineFrom AlineTo Acodes Aopened Acompared l2 s0) (g2 : kl_X8_readsE_415 Fsize Atape Acells AcellName x0 κ212 Φ2 Fplace Fbegin Ftoken Fword Ftold Fwrong Fcode AlineFrom AlineTo Acodes Aopened Acompared l2 s0) : kf_X8_readsE_415 Fsize Atape Acells AcellName x0 κ213 Φ3 Fplace Fbegin Ftoken Fword Ftold Fwrong Fcode AlineFrom AlineTo Acodes Aopened Acompared l2 s0 := (wq_X8_puts (fun _ _ u1_ v1_ => ⟨u1_.1, (wq_X8_nextToken (fun _ _ _ _ _ u2_ v2_ => (hk21 _ _ _ _ _ _ _ _ _ _ _ _ _ _ u2_ v2_)) u1_.2 (v1_ u1_.1))⟩) g1 g2)
def kl_X8_readsE_397 (Fsize : Int32) (Atape : Nat → Int32) (Acells : Nat → Int32) (AcellName : Nat → Int64) (x0 : Int32) (κ21 : Int32 → Int32 → Int32 → Int64 → Int32 → Int32 → Int32 → (Nat → Int32) → (Nat → Int32) → (Nat → Int32) → (Nat → Int32) → (Nat → Int32) → Int32 → Int32 → Prop) (Φ : Int32 → Int32 → Int32 → Int32 → Int64 → Int32 → Int32 → Int32 → (Nat → Int32) → (Nat → Int32) → (Nat → Int32) → (Nat → Int32) → (Nat → Int32) → Prop) (Fplace : Int32) (Fbegin : Int32) (Ftoken : Int32) (Fword : Int64) (Ftold : Int32) (Fwrong : Int32) (Fcode : Int32) (AlineFrom : Nat → Int32) (AlineTo : Nat → Int32) (Acodes : Nat → Int32) (Aopened : Nat → Int32) (Acompared : Nat → Int32) (l2 : Int32) : Prop := wl_X8_isWord Ftoken Fword 1111 (fun r_60 => (r_60 = 0 → (kl_X8_readsE_415 Fsize Atape Acells AcellName x0 κ21 Φ Fplace Fbegin Ftoken Fword Ftold Fwrong Fcode AlineFrom AlineTo Acodes Aopened Acompared l2 27)) ∧ (¬ r_60 = 0 → (kl_X8_readsE_415 Fsize Atape Acells AcellName x0 κ21 Φ Fplace Fbegin Ftoken Fword Ftold Fwrong Fcode AlineFrom AlineTo Acodes Aopened Acompared l2 26)))
theorem kq_X8_readsE_397 {Fsize : Int32} {Atape : Nat → Int32} {Acells : Nat → Int32} {AcellName : Nat → Int64} {x0 : Int32} {Fplace : Int32} {Fbegin : Int32} {Ftoken : Int32} {Fword : Int64} {Ftold : Int32} {Fwrong : Int32} {Fcode : Int32} {AlineFrom : Nat → Int32} {AlineTo : Nat → Int32} {Acodes : Nat → Int32} {Aopened : Nat → Int32} {Acompared : Nat → Int32} {l2 : Int32} {κ211 κ212 κ213 : Int32 → Int32 → Int32 → Int64 → Int32 → Int32 → Int32 → (Nat → Int32) → (Nat → Int32) → (Nat → Int32) → (Nat → Int32) → (Nat → Int32) → Int32 → Int32 → Prop} {Φ1 Φ2 Φ3 : Int32 → Int32 → Int32 → Int32 → Int64 → Int32 → Int32 → Int32 → (Nat → Int32) → (Nat → Int32) → (Nat → Int32) → (Nat → Int32) → (Nat → Int32) → Prop} (hk21 : ∀ (a0 : Int32) (a1 : Int32) (a2 : Int32) (a3 : Int64) (a4 : Int32) (a5 : Int32) (a6 : Int32) (a7 : (Nat → Int32)) (a8 : (Nat → Int32)) (a9 : (Nat → Int32)) (a10 : (Nat → Int32)) (a11 : (Nat → Int32)) (a12 : Int32) (a13 : Int32), κ211 a0 a1 a2 a3 a4 a5 a6 a7 a8 a9 a10 a11 a12 a13 → κ212 a0 a1 a2 a3 a4 a5 a6 a7 a8 a9 a10 a11 a12 a13 → κ213 a0 a1 a2 a3 a4 a5 a6 a7 a8 a9 a10 a11 a12 a13) (hF : ∀ (a0 : Int32) (a1 : Int32) (a2 : Int32) (a3 : Int32) (a4 : Int64) (a5 : Int32) (a6 : Int32) (a7 : Int32) (a8 : (Nat → Int32)) (a9 : (Nat → Int32)) (a10 : (Nat → Int32)) (a11 : (Nat → Int32)) (a12 : (Nat → Int32)), Φ1 a0 a1 a2 a3 a4 a5 a6 a7 a8 a9 a10 a11 a12 → Φ2 a0 a1 a2 a3 a4 a5 a6 a7 a8 a9 a10 a11 a12 → Φ3 a0 a1 a2 a3 a4 a5 a6 a7 a8 a9 a10 a11 a12) (g1 : kf_X8_readsE_397 Fsize Atape Acells AcellName x0 κ211 Φ1 Fplace Fbegin Ftoken Fword Ftold Fwrong Fcode AlineFrom AlineTo Acodes Aopened Acompared l2) (g2 : kl_X8_readsE_397 Fsize Atape Acells AcellName x0 κ212 Φ2 Fplace Fbegin Ftoken Fword Ftold Fwrong Fcode AlineFrom AlineTo Acodes Aopened Acompared l2) : kf_X8_readsE_397 Fsize Atape Acells AcellName x0 κ213 Φ3 Fplace Fbegin Ftoken Fword Ftold Fwrong Fcode AlineFrom AlineTo Acodes Aopened Acompared l2 := (wq_X8_isWord (fun _ u1_ v1_ => ⟨(fun z1_ => (kq_X8_readsE_415 hk21 hF (u1_.1 z1_) (v1_.1 z1_))), (fun z2_ => (kq_X8_readsE_415 hk21 hF (u1_.2 z2_) (v1_.2 z2_)))⟩) g1 g2)
def kl_X8_readsE_472 (Fsize : Int32) (Atape : Nat → Int32) (Acells : Nat → Int32) (AcellName : Nat → Int64) (x0 : Int32) (Φ : Int32 → Int32 → Int32 → Int32 → Int64 → Int32 → Int32 → Int32 → (Nat → Int32) → (Nat → Int32) → (Nat → Int32) → (Nat → Int32) → (Nat → Int32) → Prop) (Fplace : Int32) (Fbegin : Int32) (Ftoken : Int32) (Fword : Int64) (Ftold : Int32) (Fwrong : Int32) (Fcode : Int32) (AlineFrom : Nat → Int32) (AlineTo : Nat → Int32) (Acodes : Nat → Int32) (Aopened : Nat → Int32) (Acompared : Nat → Int32) (l2 : Int32) : Prop := (l2 ≤ 0 → ((vp_in x0 192 → (Φ 1 Fplace Fbegin Ftoken Fword Ftold Fwrong Fcode AlineFrom (upd AlineTo (x0).toNatClampNeg Fcode) Acodes Aopened Acompared)))) ∧ (¬ l2 ≤ 0 → (wl_X8_fails Fbegin 1 Fwrong (fun r_84 Fwrong_83 => ((r_84 = 0 ∨ r_84 = 1) → (Φ r_84 Fplace Fbegin Ftoken Fword Ftold Fwrong_83 Fcode AlineFrom AlineTo Acodes Aopened Acompared)))))
theorem kq_X8_readsE_472 {Fsize : Int32} {Atape : Nat → Int32} {Acells : Nat → Int32} {AcellName : Nat → Int64} {x0 : Int32} {Fplace : Int32} {Fbegin : Int32} {Ftoken : Int32} {Fword : Int64} {Ftold : Int32} {Fwrong : Int32} {Fcode : Int32} {AlineFrom : Nat → Int32} {AlineTo : Nat → Int32} {Acodes : Nat → Int32} {Aopened : Nat → Int32} {Acompared : Nat → Int32} {l2 : Int32} {Φ1 Φ2 Φ3 : Int32 → Int32 → Int32 → Int32 → Int64 → Int32 → Int32 → Int32 → (Nat → Int32) → (Nat → Int32) → (Nat → Int32) → (Nat → Int32) → (Nat → Int32) → Prop} (hF : ∀ (a0 : Int32) (a1 : Int32) (a2 : Int32) (a3 : Int32) (a4 : Int64) (a5 : Int32) (a6 : Int32) (a7 : Int32) (a8 : (Nat → Int32)) (a9 : (Nat → Int32)) (a10 : (Nat → Int32)) (a11 : (Nat → Int32)) (a12 : (Nat → Int32)), Φ1 a0 a1 a2 a3 a4 a5 a6 a7 a8 a9 a10 a11 a12 → Φ2 a0 a1 a2 a3 a4 a5 a6 a7 a8 a9 a10 a11 a12 → Φ3 a0 a1 a2 a3 a4 a5 a6 a7 a8 a9 a10 a11 a12) (g1 : kf_X8_readsE_472 Fsize Atape Acells AcellName x0 Φ1 Fplace Fbegin Ftoken Fword Ftold Fwrong Fcode AlineFrom AlineTo Acodes Aopened Acompared l2) (g2 : kl_X8_readsE_472 Fsize Atape Acells AcellName x0 Φ2 Fplace Fbegin Ftoken Fword Ftold Fwrong Fcode AlineFrom AlineTo Acodes Aopened Acompared l2) : kf_X8_readsE_472 Fsize Atape Acells AcellName x0 Φ3 Fplace Fbegin Ftoken Fword Ftold Fwrong Fcode AlineFrom AlineTo Acodes Aopened Acompared l2 := ⟨(fun z1_ => ⟨(g1.1 z1_).1, (hF _ _ _ _ _ _ _ _ _ _ _ _ _ (g1.1 z1_).2 ((g2.1 z1_) (g1.1 z1_).1))⟩), (fun z2_ => (wq_X8_fails (fun _ _ u1_ v1_ => ⟨u1_.1, (hF _ _ _ _ _ _ _ _ _ _ _ _ _ u1_.2 (v1_ u1_.1))⟩) (g1.2 z2_) (g2.2 z2_)))⟩
def bl_X8_readsE_452 (Fsize : Int32) (Atape : Nat → Int32) (Acells : Nat → Int32) (AcellName : Nat → Int64) (x0 : Int32) (κ21 : Int32 → Int32 → Int32 → Int64 → Int32 → Int32 → Int32 → (Nat → Int32) → (Nat → Int32) → (Nat → Int32) → (Nat → Int32) → (Nat → Int32) → Int32 → Int32 → Prop) (Φ : Int32 → Int32 → Int32 → Int32 → Int64 → Int32 → Int32 → Int32 → (Nat → Int32) → (Nat → Int32) → (Nat → Int32) → (Nat → Int32) → (Nat → Int32) → Prop) (back : Int32 → Int32 → Int32 → Int64 → Int32 → Int32 → Int32 → (Nat → Int32) → (Nat → Int32) → (Nat → Int32) → (Nat → Int32) → (Nat → Int32) → Int32 → Int32 → Prop) (Fplace : Int32) (Fbegin : Int32) (Ftoken : Int32) (Fword : Int64) (Ftold : Int32) (Fwrong : Int32) (Fcode : Int32) (AlineFrom : Nat → Int32) (AlineTo : Nat → Int32) (Acodes : Nat → Int32) (Aopened : Nat → Int32) (Acompared : Nat → Int32) (l2 : Int32) (l3 : Int32) : Prop := (l2 ≤ 0 → (wl_X8_nextToken Fsize Atape Fplace Fbegin Ftoken Fword Ftold (fun Fplace_93 Fbegin_94 Ftoken_95 Fword_96 Ftold_97 => κ21 Fplace_93 Fbegin_94 Ftoken_95 Fword_96 Ftold_97 Fwrong Fcode AlineFrom AlineTo Acodes Aopened Acompared l2 l3))) ∧ (¬ l2 ≤ 0 → ((vp_in l2 7 → ((¬ (Aopened (l2).toNatClampNeg) = 1 → (wl_X8_nextToken Fsize Atape Fplace Fbegin Ftoken Fword Ftold (fun Fplace_102 Fbegin_103 Ftoken_104 Fword_105 Ftold_106 => κ21 Fplace_102 Fbegin_103 Ftoken_104 Fword_105 Ftold_106 Fwrong Fcode AlineFrom AlineTo Acodes Aopened Acompared l2 l3))) ∧ ((Aopened (l2).toNatClampNeg) = 1 → (back Fplace Fbegin Ftoken Fword Ftold Fwrong Fcode AlineFrom AlineTo Acodes Aopened Acompared (l2 + (-1)) l3))))))
theorem bq_X8_readsE_452 {Fsize : Int32} {Atape : Nat → Int32} {Acells : Nat → Int32} {AcellName : Nat → Int64} {x0 : Int32} {Fplace : Int32} {Fbegin : Int32} {Ftoken : Int32} {Fword : Int64} {Ftold : Int32} {Fwrong : Int32} {Fcode : Int32} {AlineFrom : Nat → Int32} {AlineTo : Nat → Int32} {Acodes : Nat → Int32} {Aopened : Nat → Int32} {Acompared : Nat → Int32} {l2 : Int32} {l3 : Int32} {κ211 κ212 κ213 : Int32 → Int32 → Int32 → Int64 → Int32 → Int32 → Int32 → (Nat → Int32) → (Nat → Int32) → (Nat → Int32) → (Nat → Int32) → (Nat → Int32) → Int32 → Int32 → Prop} {Φ1 Φ2 Φ3 : Int32 → Int32 → Int32 → Int32 → Int64 → Int32 → Int32 → Int32 → (Nat → Int32) → (Nat → Int32) → (Nat → Int32) → (Nat → Int32) → (Nat → Int32) → Prop} {back1 back2 back3 : Int32 → Int32 → Int32 → Int64 → Int32 → Int32 → Int32 → (Nat → Int32) → (Nat → Int32) → (Nat → Int32) → (Nat → Int32) → (Nat → Int32) → Int32 → Int32 → Prop} (hk21 : ∀ (a0 : Int32) (a1 : Int32) (a2 : Int32) (a3 : Int64) (a4 : Int32) (a5 : Int32) (a6 : Int32) (a7 : (Nat → Int32)) (a8 : (Nat → Int32)) (a9 : (Nat → Int32)) (a10 : (Nat → Int32)) (a11 : (Nat → Int32)) (a12 : Int32) (a13 : Int32), κ211 a0 a1 a2 a3 a4 a5 a6 a7 a8 a9 a10 a11 a12 a13 → κ212 a0 a1 a2 a3 a4 a5 a6 a7 a8 a9 a10 a11 a12 a13 → κ213 a0 a1 a2 a3 a4 a5 a6 a7 a8 a9 a10 a11 a12 a13) (hF : ∀ (a0 : Int32) (a1 : Int32) (a2 : Int32) (a3 : Int32) (a4 : Int64) (a5 : Int32) (a6 : Int32) (a7 : Int32) (a8 : (Nat → Int32)) (a9 : (Nat → Int32)) (a10 : (Nat → Int32)) (a11 : (Nat → Int32)) (a12 : (Nat → Int32)), Φ1 a0 a1 a2 a3 a4 a5 a6 a7 a8 a9 a10 a11 a12 → Φ2 a0 a1 a2 a3 a4 a5 a6 a7 a8 a9 a10 a11 a12 → Φ3 a0 a1 a2 a3 a4 a5 a6 a7 a8 a9 a10 a11 a12) (hback : ∀ (a0 : Int32) (a1 : Int32) (a2 : Int32) (a3 : Int64) (a4 : Int32) (a5 : Int32) (a6 : Int32) (a7 : (Nat → Int32)) (a8 : (Nat → Int32)) (a9 : (Nat → Int32)) (a10 : (Nat → Int32)) (a11 : (Nat → Int32)) (a12 : Int32) (a13 : Int32), back1 a0 a1 a2 a3 a4 a5 a6 a7 a8 a9 a10 a11 a12 a13 → back2 a0 a1 a2 a3 a4 a5 a6 a7 a8 a9 a10 a11 a12 a13 → back3 a0 a1 a2 a3 a4 a5 a6 a7 a8 a9 a10 a11 a12 a13) (g1 : lb_X8_readsE_452 Fsize Atape Acells AcellName x0 κ211 Φ1 back1 Fplace Fbegin Ftoken Fword Ftold Fwrong Fcode AlineFrom AlineTo Acodes Aopened Acompared l2 l3) (g2 : bl_X8_readsE_452 Fsize Atape Acells AcellName x0 κ212 Φ2 back2 Fplace Fbegin Ftoken Fword Ftold Fwrong Fcode AlineFrom AlineTo Acodes Aopened Acompared l2 l3) : lb_X8_readsE_452 Fsize Atape Acells AcellName x0 κ213 Φ3 back3 Fplace Fbegin Ftoken Fword Ftold Fwrong Fcode AlineFrom AlineTo Acodes Aopened Acompared l2 l3 := ⟨(fun z1_ => (wq_X8_nextToken (fun _ _ _ _ _ u1_ v1_ => (hk21 _ _ _ _ _ _ _ _ _ _ _ _ _ _ u1_ v1_)) (g1.1 z1_) (g2.1 z1_))), (fun z2_ => ⟨(g1.2 z2_).1, ⟨(fun z3_ => (wq_X8_nextToken (fun _ _ _ _ _ u2_ v2_ => (hk21 _ _ _ _ _ _ _ _ _ _ _ _ _ _ u2_ v2_)) ((g1.2 z2_).2.1 z3_) (((g2.2 z2_) (g1.2 z2_).1).1 z3_))), (fun z4_ => (hback _ _ _ _ _ _ _ _ _ _ _ _ _ _ ((g1.2 z2_).2.2 z4_) (((g2.2 z2_) (g1.2 z2_).1).2 z4_)))⟩⟩)⟩
def ll_X8_readsE_452 (Fsize : Int32) (Atape : Nat → Int32) (Acells : Nat → Int32) (AcellName : Nat → Int64) (x0 : Int32) (κ21 : Int32 → Int32 → Int32 → Int64 → Int32 → Int32 → Int32 → (Nat → Int32) → (Nat → Int32) → (Nat → Int32) → (Nat → Int32) → (Nat → Int32) → Int32 → Int32 → Prop) (Φ : Int32 → Int32 → Int32 → Int32 → Int64 → Int32 → Int32 → Int32 → (Nat → Int32) → (Nat → Int32) → (Nat → Int32) → (Nat → Int32) → (Nat → Int32) → Prop) : Nat → Int32 → Int32 → Int32 → Int64 → Int32 → Int32 → Int32 → (Nat → Int32) → (Nat → Int32) → (Nat → Int32) → (Nat → Int32) → (Nat → Int32) → Int32 → Int32 → Prop
  | 0, _, _, _, _, _, _, _, _, _, _, _, _, _, _ => True
  | n_ + 1, Fplace, Fbegin, Ftoken, Fword, Ftold, Fwrong, Fcode, AlineFrom, AlineTo, Acodes, Aopened, Acompared, l2, l3 => bl_X8_readsE_452 Fsize Atape Acells AcellName x0 κ21 Φ (ll_X8_readsE_452 Fsize Atape Acells AcellName x0 κ21 Φ n_) Fplace Fbegin Ftoken Fword Ftold Fwrong Fcode AlineFrom AlineTo Acodes Aopened Acompared l2 l3
theorem lq_X8_readsE_452 {Fsize : Int32} {Atape : Nat → Int32} {Acells : Nat → Int32} {AcellName : Nat → Int64} {x0 : Int32} {κ211 κ212 κ213 : Int32 → Int32 → Int32 → Int64 → Int32 → Int32 → Int32 → (Nat → Int32) → (Nat → Int32) → (Nat → Int32) → (Nat → Int32) → (Nat → Int32) → Int32 → Int32 → Prop} {Φ1 Φ2 Φ3 : Int32 → Int32 → Int32 → Int32 → Int64 → Int32 → Int32 → Int32 → (Nat → Int32) → (Nat → Int32) → (Nat → Int32) → (Nat → Int32) → (Nat → Int32) → Prop} (hk21 : ∀ (a0 : Int32) (a1 : Int32) (a2 : Int32) (a3 : Int64) (a4 : Int32) (a5 : Int32) (a6 : Int32) (a7 : (Nat → Int32)) (a8 : (Nat → Int32)) (a9 : (Nat → Int32)) (a10 : (Nat → Int32)) (a11 : (Nat → Int32)) (a12 : Int32) (a13 : Int32), κ211 a0 a1 a2 a3 a4 a5 a6 a7 a8 a9 a10 a11 a12 a13 → κ212 a0 a1 a2 a3 a4 a5 a6 a7 a8 a9 a10 a11 a12 a13 → κ213 a0 a1 a2 a3 a4 a5 a6 a7 a8 a9 a10 a11 a12 a13) (hF : ∀ (a0 : Int32) (a1 : Int32) (a2 : Int32) (a3 : Int32) (a4 : Int64) (a5 : Int32) (a6 : Int32) (a7 : Int32) (a8 : (Nat → Int32)) (a9 : (Nat → Int32)) (a10 : (Nat → Int32)) (a11 : (Nat → Int32)) (a12 : (Nat → Int32)), Φ1 a0 a1 a2 a3 a4 a5 a6 a7 a8 a9 a10 a11 a12 → Φ2 a0 a1 a2 a3 a4 a5 a6 a7 a8 a9 a10 a11 a12 → Φ3 a0 a1 a2 a3 a4 a5 a6 a7 a8 a9 a10 a11 a12) : ∀ {n_ : Nat} {Fplace : Int32} {Fbegin : Int32} {Ftoken : Int32} {Fword : Int64} {Ftold : Int32} {Fwrong : Int32} {Fcode : Int32} {AlineFrom : (Nat → Int32)} {AlineTo : (Nat → Int32)} {Acodes : (Nat → Int32)} {Aopened : (Nat → Int32)} {Acompared : (Nat → Int32)} {l2 : Int32} {l3 : Int32}, lf_X8_readsE_452 Fsize Atape Acells AcellName x0 κ211 Φ1 n_ Fplace Fbegin Ftoken Fword Ftold Fwrong Fcode AlineFrom AlineTo Acodes Aopened Acompared l2 l3 → ll_X8_readsE_452 Fsize Atape Acells AcellName x0 κ212 Φ2 n_ Fplace Fbegin Ftoken Fword Ftold Fwrong Fcode AlineFrom AlineTo Acodes Aopened Acompared l2 l3 → lf_X8_readsE_452 Fsize Atape Acells AcellName x0 κ213 Φ3 n_ Fplace Fbegin Ftoken Fword Ftold Fwrong Fcode AlineFrom AlineTo Acodes Aopened Acompared l2 l3 := by
  intro n_
  induction n_ with
  | zero => intro Fplace Fbegin Ftoken Fword Ftold Fwrong Fcode AlineFrom AlineTo Acodes Aopened Acompared l2 l3 z_ _; exact z_.elim
  | succ n_ ih => intro Fplace Fbegin Ftoken Fword Ftold Fwrong Fcode AlineFrom AlineTo Acodes Aopened Acompared l2 l3 z_ y_; exact bq_X8_readsE_452 hk21 hF (fun _ _ _ _ _ _ _ _ _ _ _ _ _ _ u_ v_ => ih u_ v_) z_ y_
def kl_X8_readsE_377 (Fsize : Int32) (Atape : Nat → Int32) (Acells : Nat → Int32) (AcellName : Nat → Int64) (x0 : Int32) (κ21 : Int32 → Int32 → Int32 → Int64 → Int32 → Int32 → Int32 → (Nat → Int32) → (Nat → Int32) → (Nat → Int32) → (Nat → Int32) → (Nat → Int32) → Int32 → Int32 → Prop) (Φ : Int32 → Int32 → Int32 → Int32 → Int64 → Int32 → Int32 → Int32 → (Nat → Int32) → (Nat → Int32) → (Nat → Int32) → (Nat → Int32) → (Nat → Int32) → Prop) (Fplace : Int32) (Fbegin : Int32) (Ftoken : Int32) (Fword : Int64) (Ftold : Int32) (Fwrong : Int32) (Fcode : Int32) (AlineFrom : Nat → Int32) (AlineTo : Nat → Int32) (Acodes : Nat → Int32) (Aopened : Nat → Int32) (Acompared : Nat → Int32) (l2 : Int32) (l3 : Int32) : Prop := wl_X8_isWord Ftoken Fword 1111 (fun r_57 => (¬ r_57 = 0 → (kl_X8_readsE_397 Fsize Atape Acells AcellName x0 κ21 Φ Fplace Fbegin Ftoken Fword Ftold Fwrong Fcode AlineFrom AlineTo Acodes Aopened Acompared l2)) ∧ (r_57 = 0 → (wl_X8_isWord Ftoken Fword 423 (fun r_75 => (r_75 = 0 → (wl_X8_isSign Fbegin Ftoken Atape 41 (fun r_78 => (r_78 = 0 → (kl_X8_readsE_472 Fsize Atape Acells AcellName x0 Φ Fplace Fbegin Ftoken Fword Ftold Fwrong Fcode AlineFrom AlineTo Acodes Aopened Acompared l2)) ∧ (¬ r_78 = 0 → ((l2 ≤ 0 → (kl_X8_readsE_472 Fsize Atape Acells AcellName x0 Φ Fplace Fbegin Ftoken Fword Ftold Fwrong Fcode AlineFrom AlineTo Acodes Aopened Acompared l2)) ∧ (¬ l2 ≤ 0 → (wl_X8_puts 29 Fcode Acodes (fun Fcode_88 Acodes_89 => (∀ n_, ll_X8_readsE_452 Fsize Atape Acells AcellName x0 κ21 Φ n_ Fplace Fbegin Ftoken Fword Ftold Fwrong Fcode_88 AlineFrom AlineTo Acodes_89 Aopened Acompared (l2 + (-1)) l3))))))))) ∧ (¬ r_75 = 0 → (kl_X8_readsE_397 Fsize Atape Acells AcellName x0 κ21 Φ Fplace Fbegin Ftoken Fword Ftold Fwrong Fcode AlineFrom AlineTo Acodes Aopened Acompared l2))))))
theorem kq_X8_readsE_377 {Fsize : Int32} {Atape : Nat → Int32} {Acells : Nat → Int32} {AcellName : Nat → Int64} {x0 : Int32} {Fplace : Int32} {Fbegin : Int32} {Ftoken : Int32} {Fword : Int64} {Ftold : Int32} {Fwrong : Int32} {Fcode : Int32} {AlineFrom : Nat → Int32} {AlineTo : Nat → Int32} {Acodes : Nat → Int32} {Aopened : Nat → Int32} {Acompared : Nat → Int32} {l2 : Int32} {l3 : Int32} {κ211 κ212 κ213 : Int32 → Int32 → Int32 → Int64 → Int32 → Int32 → Int32 → (Nat → Int32) → (Nat → Int32) → (Nat → Int32) → (Nat → Int32) → (Nat → Int32) → Int32 → Int32 → Prop} {Φ1 Φ2 Φ3 : Int32 → Int32 → Int32 → Int32 → Int64 → Int32 → Int32 → Int32 → (Nat → Int32) → (Nat → Int32) → (Nat → Int32) → (Nat → Int32) → (Nat → Int32) → Prop} (hk21 : ∀ (a0 : Int32) (a1 : Int32) (a2 : Int32) (a3 : Int64) (a4 : Int32) (a5 : Int32) (a6 : Int32) (a7 : (Nat → Int32)) (a8 : (Nat → Int32)) (a9 : (Nat → Int32)) (a10 : (Nat → Int32)) (a11 : (Nat → Int32)) (a12 : Int32) (a13 : Int32), κ211 a0 a1 a2 a3 a4 a5 a6 a7 a8 a9 a10 a11 a12 a13 → κ212 a0 a1 a2 a3 a4 a5 a6 a7 a8 a9 a10 a11 a12 a13 → κ213 a0 a1 a2 a3 a4 a5 a6 a7 a8 a9 a10 a11 a12 a13) (hF : ∀ (a0 : Int32) (a1 : Int32) (a2 : Int32) (a3 : Int32) (a4 : Int64) (a5 : Int32) (a6 : Int32) (a7 : Int32) (a8 : (Nat → Int32)) (a9 : (Nat → Int32)) (a10 : (Nat → Int32)) (a11 : (Nat → Int32)) (a12 : (Nat → Int32)), Φ1 a0 a1 a2 a3 a4 a5 a6 a7 a8 a9 a10 a11 a12 → Φ2 a0 a1 a2 a3 a4 a5 a6 a7 a8 a9 a10 a11 a12 → Φ3 a0 a1 a2 a3 a4 a5 a6 a7 a8 a9 a10 a11 a12) (g1 : kf_X8_readsE_377 Fsize Atape Acells AcellName x0 κ211 Φ1 Fplace Fbegin Ftoken Fword Ftold Fwrong Fcode AlineFrom AlineTo Acodes Aopened Acompared l2 l3) (g2 : kl_X8_readsE_377 Fsize Atape Acells AcellName x0 κ212 Φ2 Fplace Fbegin Ftoken Fword Ftold Fwrong Fcode AlineFrom AlineTo Acodes Aopened Acompared l2 l3) : kf_X8_readsE_377 Fsize Atape Acells AcellName x0 κ213 Φ3 Fplace Fbegin Ftoken Fword Ftold Fwrong Fcode AlineFrom AlineTo Acodes Aopened Acompared l2 l3 := (wq_X8_isWord (fun _ u1_ v1_ => ⟨(fun z1_ => (kq_X8_readsE_397 hk21 hF (u1_.1 z1_) (v1_.1 z1_))), (fun z2_ => (wq_X8_isWord (fun _ u2_ v2_ => ⟨(fun z3_ => (wq_X8_isSign (fun _ u3_ v3_ => ⟨(fun z4_ => (kq_X8_readsE_472 hF (u3_.1 z4_) (v3_.1 z4_))), (fun z5_ => ⟨(fun z6_ => (kq_X8_readsE_472 hF ((u3_.2 z5_).1 z6_) ((v3_.2 z5_).1 z6_))), (fun z7_ => (wq_X8_puts (fun _ _ u4_ v4_ => (u4_.elim (fun n_ z_ => ⟨n_, lq_X8_readsE_452 hk21 hF z_ (v4_ n_)⟩))) ((u3_.2 z5_).2 z7_) ((v3_.2 z5_).2 z7_)))⟩)⟩) (u2_.1 z3_) (v2_.1 z3_))), (fun z8_ => (kq_X8_readsE_397 hk21 hF (u2_.2 z8_) (v2_.2 z8_)))⟩) (u1_.2 z2_) (v1_.2 z2_)))⟩) g1 g2)
def kl_X8_readsE_362 (Fsize : Int32) (Atape : Nat → Int32) (Acells : Nat → Int32) (AcellName : Nat → Int64) (x0 : Int32) (κ21 : Int32 → Int32 → Int32 → Int64 → Int32 → Int32 → Int32 → (Nat → Int32) → (Nat → Int32) → (Nat → Int32) → (Nat → Int32) → (Nat → Int32) → Int32 → Int32 → Prop) (Φ : Int32 → Int32 → Int32 → Int32 → Int64 → Int32 → Int32 → Int32 → (Nat → Int32) → (Nat → Int32) → (Nat → Int32) → (Nat → Int32) → (Nat → Int32) → Prop) (Fplace : Int32) (Fbegin : Int32) (Ftoken : Int32) (Fword : Int64) (Ftold : Int32) (Fwrong : Int32) (Fcode : Int32) (AlineFrom : Nat → Int32) (AlineTo : Nat → Int32) (Acodes : Nat → Int32) (Aopened : Nat → Int32) (Acompared : Nat → Int32) (l2 : Int32) (s0 : Int32) : Prop := wl_X8_puts s0 Fcode Acodes (fun Fcode_112 Acodes_113 => (vp_in l2 7 → (wl_X8_nextToken Fsize Atape Fplace Fbegin Ftoken Fword Ftold (fun Fplace_117 Fbegin_118 Ftoken_119 Fword_120 Ftold_121 => κ21 Fplace_117 Fbegin_118 Ftoken_119 Fword_120 Ftold_121 Fwrong Fcode_112 AlineFrom AlineTo Acodes_113 Aopened (upd Acompared (l2).toNatClampNeg (vp_nar .boolean 1)) l2 1))))
theorem kq_X8_readsE_362 {Fsize : Int32} {Atape : Nat → Int32} {Acells : Nat → Int32} {AcellName : Nat → Int64} {x0 : Int32} {Fplace : Int32} {Fbegin : Int32} {Ftoken : Int32} {Fword : Int64} {Ftold : Int32} {Fwrong : Int32} {Fcode : Int32} {AlineFrom : Nat → Int32} {AlineTo : Nat → Int32} {Acodes : Nat → Int32} {Aopened : Nat → Int32} {Acompared : Nat → Int32} {l2 : Int32} {s0 : Int32} {κ211 κ212 κ213 : Int32 → Int32 → Int32 → Int64 → Int32 → Int32 → Int32 → (Nat → Int32) → (Nat → Int32) → (Nat → Int32) → (Nat → Int32) → (Nat → Int32) → Int32 → Int32 → Prop} {Φ1 Φ2 Φ3 : Int32 → Int32 → Int32 → Int32 → Int64 → Int32 → Int32 → Int32 → (Nat → Int32) → (Nat → Int32) → (Nat → Int32) → (Nat → Int32) → (Nat → Int32) → Prop} (hk21 : ∀ (a0 : Int32) (a1 : Int32) (a2 : Int32) (a3 : Int64) (a4 : Int32) (a5 : Int32) (a6 : Int32) (a7 : (Nat → Int32)) (a8 : (Nat → Int32)) (a9 : (Nat → Int32)) (a10 : (Nat → Int32)) (a11 : (Nat → Int32)) (a12 : Int32) (a13 : Int32), κ211 a0 a1 a2 a3 a4 a5 a6 a7 a8 a9 a10 a11 a12 a13 → κ212 a0 a1 a2 a3 a4 a5 a6 a7 a8 a9 a10 a11 a12 a13 → κ213 a0 a1 a2 a3 a4 a5 a6 a7 a8 a9 a10 a11 a12 a13) (hF : ∀ (a0 : Int32) (a1 : Int32) (a2 : Int32) (a3 : Int32) (a4 : Int64) (a5 : Int32) (a6 : Int32) (a7 : Int32) (a8 : (Nat → Int32)) (a9 : (Nat → Int32)) (a10 : (Nat → Int32)) (a11 : (Nat → Int32)) (a12 : (Nat → Int32)), Φ1 a0 a1 a2 a3 a4 a5 a6 a7 a8 a9 a10 a11 a12 → Φ2 a0 a1 a2 a3 a4 a5 a6 a7 a8 a9 a10 a11 a12 → Φ3 a0 a1 a2 a3 a4 a5 a6 a7 a8 a9 a10 a11 a12) (g1 : kf_X8_readsE_362 Fsize Atape Acells AcellName x0 κ211 Φ1 Fplace Fbegin Ftoken Fword Ftold Fwrong Fcode AlineFrom AlineTo Acodes Aopened Acompared l2 s0) (g2 : kl_X8_readsE_362 Fsize Atape Acells AcellName x0 κ212 Φ2 Fplace Fbegin Ftoken Fword Ftold Fwrong Fcode AlineFrom AlineTo Acodes Aopened Acompared l2 s0) : kf_X8_readsE_362 Fsize Atape Acells AcellName x0 κ213 Φ3 Fplace Fbegin Ftoken Fword Ftold Fwrong Fcode AlineFrom AlineTo Acodes Aopened Acompared l2 s0 := (wq_X8_puts (fun _ _ u1_ v1_ => ⟨u1_.1, (wq_X8_nextToken (fun _ _ _ _ _ u2_ v2_ => (hk21 _ _ _ _ _ _ _ _ _ _ _ _ _ _ u2_ v2_)) u1_.2 (v1_ u1_.1))⟩) g1 g2)
def kl_X8_readsE_336 (Fsize : Int32) (Atape : Nat → Int32) (Acells : Nat → Int32) (AcellName : Nat → Int64) (x0 : Int32) (κ21 : Int32 → Int32 → Int32 → Int64 → Int32 → Int32 → Int32 → (Nat → Int32) → (Nat → Int32) → (Nat → Int32) → (Nat → Int32) → (Nat → Int32) → Int32 → Int32 → Prop) (Φ : Int32 → Int32 → Int32 → Int32 → Int64 → Int32 → Int32 → Int32 → (Nat → Int32) → (Nat → Int32) → (Nat → Int32) → (Nat → Int32) → (Nat → Int32) → Prop) (Fplace : Int32) (Fbegin : Int32) (Ftoken : Int32) (Fword : Int64) (Ftold : Int32) (Fwrong : Int32) (Fcode : Int32) (AlineFrom : Nat → Int32) (AlineTo : Nat → Int32) (Acodes : Nat → Int32) (Aopened : Nat → Int32) (Acompared : Nat → Int32) (l2 : Int32) (l3 : Int32) : Prop := (vp_in l2 7 → ((¬ (Acompared (l2).toNatClampNeg) = 0 → (kl_X8_readsE_377 Fsize Atape Acells AcellName x0 κ21 Φ Fplace Fbegin Ftoken Fword Ftold Fwrong Fcode AlineFrom AlineTo Acodes Aopened Acompared l2 l3)) ∧ ((Acompared (l2).toNatClampNeg) = 0 → (wl_X8_isSign Fbegin Ftoken Atape 60 (fun r_109 => (r_109 = 0 → (kl_X8_readsE_362 Fsize Atape Acells AcellName x0 κ21 Φ Fplace Fbegin Ftoken Fword Ftold Fwrong Fcode AlineFrom AlineTo Acodes Aopened Acompared l2 25)) ∧ (¬ r_109 = 0 → (kl_X8_readsE_362 Fsize Atape Acells AcellName x0 κ21 Φ Fplace Fbegin Ftoken Fword Ftold Fwrong Fcode AlineFrom AlineTo Acodes Aopened Acompared l2 24)))))))
theorem kq_X8_readsE_336 {Fsize : Int32} {Atape : Nat → Int32} {Acells : Nat → Int32} {AcellName : Nat → Int64} {x0 : Int32} {Fplace : Int32} {Fbegin : Int32} {Ftoken : Int32} {Fword : Int64} {Ftold : Int32} {Fwrong : Int32} {Fcode : Int32} {AlineFrom : Nat → Int32} {AlineTo : Nat → Int32} {Acodes : Nat → Int32} {Aopened : Nat → Int32} {Acompared : Nat → Int32} {l2 : Int32} {l3 : Int32} {κ211 κ212 κ213 : Int32 → Int32 → Int32 → Int64 → Int32 → Int32 → Int32 → (Nat → Int32) → (Nat → Int32) → (Nat → Int32) → (Nat → Int32) → (Nat → Int32) → Int32 → Int32 → Prop} {Φ1 Φ2 Φ3 : Int32 → Int32 → Int32 → Int32 → Int64 → Int32 → Int32 → Int32 → (Nat → Int32) → (Nat → Int32) → (Nat → Int32) → (Nat → Int32) → (Nat → Int32) → Prop} (hk21 : ∀ (a0 : Int32) (a1 : Int32) (a2 : Int32) (a3 : Int64) (a4 : Int32) (a5 : Int32) (a6 : Int32) (a7 : (Nat → Int32)) (a8 : (Nat → Int32)) (a9 : (Nat → Int32)) (a10 : (Nat → Int32)) (a11 : (Nat → Int32)) (a12 : Int32) (a13 : Int32), κ211 a0 a1 a2 a3 a4 a5 a6 a7 a8 a9 a10 a11 a12 a13 → κ212 a0 a1 a2 a3 a4 a5 a6 a7 a8 a9 a10 a11 a12 a13 → κ213 a0 a1 a2 a3 a4 a5 a6 a7 a8 a9 a10 a11 a12 a13) (hF : ∀ (a0 : Int32) (a1 : Int32) (a2 : Int32) (a3 : Int32) (a4 : Int64) (a5 : Int32) (a6 : Int32) (a7 : Int32) (a8 : (Nat → Int32)) (a9 : (Nat → Int32)) (a10 : (Nat → Int32)) (a11 : (Nat → Int32)) (a12 : (Nat → Int32)), Φ1 a0 a1 a2 a3 a4 a5 a6 a7 a8 a9 a10 a11 a12 → Φ2 a0 a1 a2 a3 a4 a5 a6 a7 a8 a9 a10 a11 a12 → Φ3 a0 a1 a2 a3 a4 a5 a6 a7 a8 a9 a10 a11 a12) (g1 : kf_X8_readsE_336 Fsize Atape Acells AcellName x0 κ211 Φ1 Fplace Fbegin Ftoken Fword Ftold Fwrong Fcode AlineFrom AlineTo Acodes Aopened Acompared l2 l3) (g2 : kl_X8_readsE_336 Fsize Atape Acells AcellName x0 κ212 Φ2 Fplace Fbegin Ftoken Fword Ftold Fwrong Fcode AlineFrom AlineTo Acodes Aopened Acompared l2 l3) : kf_X8_readsE_336 Fsize Atape Acells AcellName x0 κ213 Φ3 Fplace Fbegin Ftoken Fword Ftold Fwrong Fcode AlineFrom AlineTo Acodes Aopened Acompared l2 l3 := ⟨g1.1, ⟨(fun z1_ => (kq_X8_readsE_377 hk21 hF (g1.2.1 z1_) ((g2 g1.1).1 z1_))), (fun z2_ => (wq_X8_isSign (fun _ u1_ v1_ => ⟨(fun z3_ => (kq_X8_readsE_362 hk21 hF (u1_.1 z3_) (v1_.1 z3_))), (fun z4_ => (kq_X8_readsE_362 hk21 hF (u1_.2 z4_) (v1_.2 z4_)))⟩) (g1.2.2 z2_) ((g2 g1.1).2 z2_)))⟩⟩
def kl_X8_readsE_191 (Fsize : Int32) (Atape : Nat → Int32) (Acells : Nat → Int32) (AcellName : Nat → Int64) (x0 : Int32) (κ21 : Int32 → Int32 → Int32 → Int64 → Int32 → Int32 → Int32 → (Nat → Int32) → (Nat → Int32) → (Nat → Int32) → (Nat → Int32) → (Nat → Int32) → Int32 → Int32 → Prop) (Φ : Int32 → Int32 → Int32 → Int32 → Int64 → Int32 → Int32 → Int32 → (Nat → Int32) → (Nat → Int32) → (Nat → Int32) → (Nat → Int32) → (Nat → Int32) → Prop) (Fplace : Int32) (Fbegin : Int32) (Ftoken : Int32) (Fword : Int64) (Ftold : Int32) (Fwrong : Int32) (Fcode : Int32) (AlineFrom : Nat → Int32) (AlineTo : Nat → Int32) (Acodes : Nat → Int32) (Aopened : Nat → Int32) (Acompared : Nat → Int32) (l2 : Int32) (l3 : Int32) (s0 : Int32) (s1 : Int32) : Prop := (vp_in s1 7 → ((vp_in l2 7 → (wl_X8_nextToken Fsize Atape Fplace Fbegin Ftoken Fword Ftold (fun Fplace_150 Fbegin_151 Ftoken_152 Fword_153 Ftold_154 => κ21 Fplace_150 Fbegin_151 Ftoken_152 Fword_153 Ftold_154 Fwrong Fcode AlineFrom AlineTo Acodes (upd Aopened (s1).toNatClampNeg s0) (upd Acompared (l2).toNatClampNeg (vp_nar .boolean 0)) l2 l3)))))
theorem kq_X8_readsE_191 {Fsize : Int32} {Atape : Nat → Int32} {Acells : Nat → Int32} {AcellName : Nat → Int64} {x0 : Int32} {Fplace : Int32} {Fbegin : Int32} {Ftoken : Int32} {Fword : Int64} {Ftold : Int32} {Fwrong : Int32} {Fcode : Int32} {AlineFrom : Nat → Int32} {AlineTo : Nat → Int32} {Acodes : Nat → Int32} {Aopened : Nat → Int32} {Acompared : Nat → Int32} {l2 : Int32} {l3 : Int32} {s0 : Int32} {s1 : Int32} {κ211 κ212 κ213 : Int32 → Int32 → Int32 → Int64 → Int32 → Int32 → Int32 → (Nat → Int32) → (Nat → Int32) → (Nat → Int32) → (Nat → Int32) → (Nat → Int32) → Int32 → Int32 → Prop} {Φ1 Φ2 Φ3 : Int32 → Int32 → Int32 → Int32 → Int64 → Int32 → Int32 → Int32 → (Nat → Int32) → (Nat → Int32) → (Nat → Int32) → (Nat → Int32) → (Nat → Int32) → Prop} (hk21 : ∀ (a0 : Int32) (a1 : Int32) (a2 : Int32) (a3 : Int64) (a4 : Int32) (a5 : Int32) (a6 : Int32) (a7 : (Nat → Int32)) (a8 : (Nat → Int32)) (a9 : (Nat → Int32)) (a10 : (Nat → Int32)) (a11 : (Nat → Int32)) (a12 : Int32) (a13 : Int32), κ211 a0 a1 a2 a3 a4 a5 a6 a7 a8 a9 a10 a11 a12 a13 → κ212 a0 a1 a2 a3 a4 a5 a6 a7 a8 a9 a10 a11 a12 a13 → κ213 a0 a1 a2 a3 a4 a5 a6 a7 a8 a9 a10 a11 a12 a13) (hF : ∀ (a0 : Int32) (a1 : Int32) (a2 : Int32) (a3 : Int32) (a4 : Int64) (a5 : Int32) (a6 : Int32) (a7 : Int32) (a8 : (Nat → Int32)) (a9 : (Nat → Int32)) (a10 : (Nat → Int32)) (a11 : (Nat → Int32)) (a12 : (Nat → Int32)), Φ1 a0 a1 a2 a3 a4 a5 a6 a7 a8 a9 a10 a11 a12 → Φ2 a0 a1 a2 a3 a4 a5 a6 a7 a8 a9 a10 a11 a12 → Φ3 a0 a1 a2 a3 a4 a5 a6 a7 a8 a9 a10 a11 a12) (g1 : kf_X8_readsE_191 Fsize Atape Acells AcellName x0 κ211 Φ1 Fplace Fbegin Ftoken Fword Ftold Fwrong Fcode AlineFrom AlineTo Acodes Aopened Acompared l2 l3 s0 s1) (g2 : kl_X8_readsE_191 Fsize Atape Acells AcellName x0 κ212 Φ2 Fplace Fbegin Ftoken Fword Ftold Fwrong Fcode AlineFrom AlineTo Acodes Aopened Acompared l2 l3 s0 s1) : kf_X8_readsE_191 Fsize Atape Acells AcellName x0 κ213 Φ3 Fplace Fbegin Ftoken Fword Ftold Fwrong Fcode AlineFrom AlineTo Acodes Aopened Acompared l2 l3 s0 s1 := ⟨g1.1, ⟨g1.2.1, (wq_X8_nextToken (fun _ _ _ _ _ u1_ v1_ => (hk21 _ _ _ _ _ _ _ _ _ _ _ _ _ _ u1_ v1_)) g1.2.2 ((g2 g1.1) g1.2.1))⟩⟩
def kl_X8_readsE_170 (Fsize : Int32) (Atape : Nat → Int32) (Acells : Nat → Int32) (AcellName : Nat → Int64) (x0 : Int32) (κ21 : Int32 → Int32 → Int32 → Int64 → Int32 → Int32 → Int32 → (Nat → Int32) → (Nat → Int32) → (Nat → Int32) → (Nat → Int32) → (Nat → Int32) → Int32 → Int32 → Prop) (Φ : Int32 → Int32 → Int32 → Int32 → Int64 → Int32 → Int32 → Int32 → (Nat → Int32) → (Nat → Int32) → (Nat → Int32) → (Nat → Int32) → (Nat → Int32) → Prop) (Fplace : Int32) (Fbegin : Int32) (Ftoken : Int32) (Fword : Int64) (Ftold : Int32) (Fwrong : Int32) (Fcode : Int32) (AlineFrom : Nat → Int32) (AlineTo : Nat → Int32) (Acodes : Nat → Int32) (Aopened : Nat → Int32) (Acompared : Nat → Int32) (l2 : Int32) (l3 : Int32) (l5 : Int32) (s0 : Int32) : Prop := wl_X8_puts s0 Fcode Acodes (fun Fcode_143 Acodes_144 => (l5 = 0 → (kl_X8_readsE_191 Fsize Atape Acells AcellName x0 κ21 Φ Fplace Fbegin Ftoken Fword Ftold Fwrong Fcode_143 AlineFrom AlineTo Acodes_144 Aopened Acompared (l2 + 1) l3 2 (l2 + 1))) ∧ (¬ l5 = 0 → (kl_X8_readsE_191 Fsize Atape Acells AcellName x0 κ21 Φ Fplace Fbegin Ftoken Fword Ftold Fwrong Fcode_143 AlineFrom AlineTo Acodes_144 Aopened Acompared (l2 + 1) l3 1 (l2 + 1))))
theorem kq_X8_readsE_170 {Fsize : Int32} {Atape : Nat → Int32} {Acells : Nat → Int32} {AcellName : Nat → Int64} {x0 : Int32} {Fplace : Int32} {Fbegin : Int32} {Ftoken : Int32} {Fword : Int64} {Ftold : Int32} {Fwrong : Int32} {Fcode : Int32} {AlineFrom : Nat → Int32} {AlineTo : Nat → Int32} {Acodes : Nat → Int32} {Aopened : Nat → Int32} {Acompared : Nat → Int32} {l2 : Int32} {l3 : Int32} {l5 : Int32} {s0 : Int32} {κ211 κ212 κ213 : Int32 → Int32 → Int32 → Int64 → Int32 → Int32 → Int32 → (Nat → Int32) → (Nat → Int32) → (Nat → Int32) → (Nat → Int32) → (Nat → Int32) → Int32 → Int32 → Prop} {Φ1 Φ2 Φ3 : Int32 → Int32 → Int32 → Int32 → Int64 → Int32 → Int32 → Int32 → (Nat → Int32) → (Nat → Int32) → (Nat → Int32) → (Nat → Int32) → (Nat → Int32) → Prop} (hk21 : ∀ (a0 : Int32) (a1 : Int32) (a2 : Int32) (a3 : Int64) (a4 : Int32) (a5 : Int32) (a6 : Int32) (a7 : (Nat → Int32)) (a8 : (Nat → Int32)) (a9 : (Nat → Int32)) (a10 : (Nat → Int32)) (a11 : (Nat → Int32)) (a12 : Int32) (a13 : Int32), κ211 a0 a1 a2 a3 a4 a5 a6 a7 a8 a9 a10 a11 a12 a13 → κ212 a0 a1 a2 a3 a4 a5 a6 a7 a8 a9 a10 a11 a12 a13 → κ213 a0 a1 a2 a3 a4 a5 a6 a7 a8 a9 a10 a11 a12 a13) (hF : ∀ (a0 : Int32) (a1 : Int32) (a2 : Int32) (a3 : Int32) (a4 : Int64) (a5 : Int32) (a6 : Int32) (a7 : Int32) (a8 : (Nat → Int32)) (a9 : (Nat → Int32)) (a10 : (Nat → Int32)) (a11 : (Nat → Int32)) (a12 : (Nat → Int32)), Φ1 a0 a1 a2 a3 a4 a5 a6 a7 a8 a9 a10 a11 a12 → Φ2 a0 a1 a2 a3 a4 a5 a6 a7 a8 a9 a10 a11 a12 → Φ3 a0 a1 a2 a3 a4 a5 a6 a7 a8 a9 a10 a11 a12) (g1 : kf_X8_readsE_170 Fsize Atape Acells AcellName x0 κ211 Φ1 Fplace Fbegin Ftoken Fword Ftold Fwrong Fcode AlineFrom AlineTo Acodes Aopened Acompared l2 l3 l5 s0) (g2 : kl_X8_readsE_170 Fsize Atape Acells AcellName x0 κ212 Φ2 Fplace Fbegin Ftoken Fword Ftold Fwrong Fcode AlineFrom AlineTo Acodes Aopened Acompared l2 l3 l5 s0) : kf_X8_readsE_170 Fsize Atape Acells AcellName x0 κ213 Φ3 Fplace Fbegin Ftoken Fword Ftold Fwrong Fcode AlineFrom AlineTo Acodes Aopened Acompared l2 l3 l5 s0 := (wq_X8_puts (fun _ _ u1_ v1_ => ⟨(fun z1_ => (kq_X8_readsE_191 hk21 hF (u1_.1 z1_) (v1_.1 z1_))), (fun z2_ => (kq_X8_readsE_191 hk21 hF (u1_.2 z2_) (v1_.2 z2_)))⟩) g1 g2)
def kl_X8_readsE_142 (Fsize : Int32) (Atape : Nat → Int32) (Acells : Nat → Int32) (AcellName : Nat → Int64) (x0 : Int32) (κ21 : Int32 → Int32 → Int32 → Int64 → Int32 → Int32 → Int32 → (Nat → Int32) → (Nat → Int32) → (Nat → Int32) → (Nat → Int32) → (Nat → Int32) → Int32 → Int32 → Prop) (Φ : Int32 → Int32 → Int32 → Int32 → Int64 → Int32 → Int32 → Int32 → (Nat → Int32) → (Nat → Int32) → (Nat → Int32) → (Nat → Int32) → (Nat → Int32) → Prop) (Fplace : Int32) (Fbegin : Int32) (Ftoken : Int32) (Fword : Int64) (Ftold : Int32) (Fwrong : Int32) (Fcode : Int32) (AlineFrom : Nat → Int32) (AlineTo : Nat → Int32) (Acodes : Nat → Int32) (Aopened : Nat → Int32) (Acompared : Nat → Int32) (l2 : Int32) (l3 : Int32) (l5 : Int32) (l6 : Int32) : Prop := (l6 = 0 → (wl_X8_isWord Ftoken Fword 10631 (fun r_140 => (r_140 = 0 → (kl_X8_readsE_170 Fsize Atape Acells AcellName x0 κ21 Φ Fplace Fbegin Ftoken Fword Ftold Fwrong Fcode AlineFrom AlineTo Acodes Aopened Acompared l2 l3 l5 31)) ∧ (¬ r_140 = 0 → (kl_X8_readsE_170 Fsize Atape Acells AcellName x0 κ21 Φ Fplace Fbegin Ftoken Fword Ftold Fwrong Fcode AlineFrom AlineTo Acodes Aopened Acompared l2 l3 l5 30))))) ∧ (¬ l6 = 0 → (kl_X8_readsE_170 Fsize Atape Acells AcellName x0 κ21 Φ Fplace Fbegin Ftoken Fword Ftold Fwrong Fcode AlineFrom AlineTo Acodes Aopened Acompared l2 l3 l5 28))
theorem kq_X8_readsE_142 {Fsize : Int32} {Atape : Nat → Int32} {Acells : Nat → Int32} {AcellName : Nat → Int64} {x0 : Int32} {Fplace : Int32} {Fbegin : Int32} {Ftoken : Int32} {Fword : Int64} {Ftold : Int32} {Fwrong : Int32} {Fcode : Int32} {AlineFrom : Nat → Int32} {AlineTo : Nat → Int32} {Acodes : Nat → Int32} {Aopened : Nat → Int32} {Acompared : Nat → Int32} {l2 : Int32} {l3 : Int32} {l5 : Int32} {l6 : Int32} {κ211 κ212 κ213 : Int32 → Int32 → Int32 → Int64 → Int32 → Int32 → Int32 → (Nat → Int32) → (Nat → Int32) → (Nat → Int32) → (Nat → Int32) → (Nat → Int32) → Int32 → Int32 → Prop} {Φ1 Φ2 Φ3 : Int32 → Int32 → Int32 → Int32 → Int64 → Int32 → Int32 → Int32 → (Nat → Int32) → (Nat → Int32) → (Nat → Int32) → (Nat → Int32) → (Nat → Int32) → Prop} (hk21 : ∀ (a0 : Int32) (a1 : Int32) (a2 : Int32) (a3 : Int64) (a4 : Int32) (a5 : Int32) (a6 : Int32) (a7 : (Nat → Int32)) (a8 : (Nat → Int32)) (a9 : (Nat → Int32)) (a10 : (Nat → Int32)) (a11 : (Nat → Int32)) (a12 : Int32) (a13 : Int32), κ211 a0 a1 a2 a3 a4 a5 a6 a7 a8 a9 a10 a11 a12 a13 → κ212 a0 a1 a2 a3 a4 a5 a6 a7 a8 a9 a10 a11 a12 a13 → κ213 a0 a1 a2 a3 a4 a5 a6 a7 a8 a9 a10 a11 a12 a13) (hF : ∀ (a0 : Int32) (a1 : Int32) (a2 : Int32) (a3 : Int32) (a4 : Int64) (a5 : Int32) (a6 : Int32) (a7 : Int32) (a8 : (Nat → Int32)) (a9 : (Nat → Int32)) (a10 : (Nat → Int32)) (a11 : (Nat → Int32)) (a12 : (Nat → Int32)), Φ1 a0 a1 a2 a3 a4 a5 a6 a7 a8 a9 a10 a11 a12 → Φ2 a0 a1 a2 a3 a4 a5 a6 a7 a8 a9 a10 a11 a12 → Φ3 a0 a1 a2 a3 a4 a5 a6 a7 a8 a9 a10 a11 a12) (g1 : kf_X8_readsE_142 Fsize Atape Acells AcellName x0 κ211 Φ1 Fplace Fbegin Ftoken Fword Ftold Fwrong Fcode AlineFrom AlineTo Acodes Aopened Acompared l2 l3 l5 l6) (g2 : kl_X8_readsE_142 Fsize Atape Acells AcellName x0 κ212 Φ2 Fplace Fbegin Ftoken Fword Ftold Fwrong Fcode AlineFrom AlineTo Acodes Aopened Acompared l2 l3 l5 l6) : kf_X8_readsE_142 Fsize Atape Acells AcellName x0 κ213 Φ3 Fplace Fbegin Ftoken Fword Ftold Fwrong Fcode AlineFrom AlineTo Acodes Aopened Acompared l2 l3 l5 l6 := ⟨(fun z1_ => (wq_X8_isWord (fun _ u1_ v1_ => ⟨(fun z2_ => (kq_X8_readsE_170 hk21 hF (u1_.1 z2_) (v1_.1 z2_))), (fun z3_ => (kq_X8_readsE_170 hk21 hF (u1_.2 z3_) (v1_.2 z3_)))⟩) (g1.1 z1_) (g2.1 z1_))), (fun z4_ => (kq_X8_readsE_170 hk21 hF (g1.2 z4_) (g2.2 z4_)))⟩
def bl_X8_readsE_229 (Fsize : Int32) (Atape : Nat → Int32) (Acells : Nat → Int32) (AcellName : Nat → Int64) (x0 : Int32) (κ21 : Int32 → Int32 → Int32 → Int64 → Int32 → Int32 → Int32 → (Nat → Int32) → (Nat → Int32) → (Nat → Int32) → (Nat → Int32) → (Nat → Int32) → Int32 → Int32 → Prop) (Φ : Int32 → Int32 → Int32 → Int32 → Int64 → Int32 → Int32 → Int32 → (Nat → Int32) → (Nat → Int32) → (Nat → Int32) → (Nat → Int32) → (Nat → Int32) → Prop) (back : Int32 → Int32 → Int32 → Int64 → Int32 → Int32 → Int32 → (Nat → Int32) → (Nat → Int32) → (Nat → Int32) → (Nat → Int32) → (Nat → Int32) → Int32 → Int32 → Prop) (Fplace : Int32) (Fbegin : Int32) (Ftoken : Int32) (Fword : Int64) (Ftold : Int32) (Fwrong : Int32) (Fcode : Int32) (AlineFrom : Nat → Int32) (AlineTo : Nat → Int32) (Acodes : Nat → Int32) (Aopened : Nat → Int32) (Acompared : Nat → Int32) (l2 : Int32) (l3 : Int32) : Prop := (l2 ≤ 0 → (wl_X8_nextToken Fsize Atape Fplace Fbegin Ftoken Fword Ftold (fun Fplace_164 Fbegin_165 Ftoken_166 Fword_167 Ftold_168 => κ21 Fplace_164 Fbegin_165 Ftoken_166 Fword_167 Ftold_168 Fwrong Fcode AlineFrom AlineTo Acodes Aopened Acompared l2 l3))) ∧ (¬ l2 ≤ 0 → ((vp_in l2 7 → ((¬ (Aopened (l2).toNatClampNeg) = 1 → (wl_X8_nextToken Fsize Atape Fplace Fbegin Ftoken Fword Ftold (fun Fplace_173 Fbegin_174 Ftoken_175 Fword_176 Ftold_177 => κ21 Fplace_173 Fbegin_174 Ftoken_175 Fword_176 Ftold_177 Fwrong Fcode AlineFrom AlineTo Acodes Aopened Acompared l2 l3))) ∧ ((Aopened (l2).toNatClampNeg) = 1 → (back Fplace Fbegin Ftoken Fword Ftold Fwrong Fcode AlineFrom AlineTo Acodes Aopened Acompared (l2 + (-1)) l3))))))
theorem bq_X8_readsE_229 {Fsize : Int32} {Atape : Nat → Int32} {Acells : Nat → Int32} {AcellName : Nat → Int64} {x0 : Int32} {Fplace : Int32} {Fbegin : Int32} {Ftoken : Int32} {Fword : Int64} {Ftold : Int32} {Fwrong : Int32} {Fcode : Int32} {AlineFrom : Nat → Int32} {AlineTo : Nat → Int32} {Acodes : Nat → Int32} {Aopened : Nat → Int32} {Acompared : Nat → Int32} {l2 : Int32} {l3 : Int32} {κ211 κ212 κ213 : Int32 → Int32 → Int32 → Int64 → Int32 → Int32 → Int32 → (Nat → Int32) → (Nat → Int32) → (Nat → Int32) → (Nat → Int32) → (Nat → Int32) → Int32 → Int32 → Prop} {Φ1 Φ2 Φ3 : Int32 → Int32 → Int32 → Int32 → Int64 → Int32 → Int32 → Int32 → (Nat → Int32) → (Nat → Int32) → (Nat → Int32) → (Nat → Int32) → (Nat → Int32) → Prop} {back1 back2 back3 : Int32 → Int32 → Int32 → Int64 → Int32 → Int32 → Int32 → (Nat → Int32) → (Nat → Int32) → (Nat → Int32) → (Nat → Int32) → (Nat → Int32) → Int32 → Int32 → Prop} (hk21 : ∀ (a0 : Int32) (a1 : Int32) (a2 : Int32) (a3 : Int64) (a4 : Int32) (a5 : Int32) (a6 : Int32) (a7 : (Nat → Int32)) (a8 : (Nat → Int32)) (a9 : (Nat → Int32)) (a10 : (Nat → Int32)) (a11 : (Nat → Int32)) (a12 : Int32) (a13 : Int32), κ211 a0 a1 a2 a3 a4 a5 a6 a7 a8 a9 a10 a11 a12 a13 → κ212 a0 a1 a2 a3 a4 a5 a6 a7 a8 a9 a10 a11 a12 a13 → κ213 a0 a1 a2 a3 a4 a5 a6 a7 a8 a9 a10 a11 a12 a13) (hF : ∀ (a0 : Int32) (a1 : Int32) (a2 : Int32) (a3 : Int32) (a4 : Int64) (a5 : Int32) (a6 : Int32) (a7 : Int32) (a8 : (Nat → Int32)) (a9 : (Nat → Int32)) (a10 : (Nat → Int32)) (a11 : (Nat → Int32)) (a12 : (Nat → Int32)), Φ1 a0 a1 a2 a3 a4 a5 a6 a7 a8 a9 a10 a11 a12 → Φ2 a0 a1 a2 a3 a4 a5 a6 a7 a8 a9 a10 a11 a12 → Φ3 a0 a1 a2 a3 a4 a5 a6 a7 a8 a9 a10 a11 a12) (hback : ∀ (a0 : Int32) (a1 : Int32) (a2 : Int32) (a3 : Int64) (a4 : Int32) (a5 : Int32) (a6 : Int32) (a7 : (Nat → Int32)) (a8 : (Nat → Int32)) (a9 : (Nat → Int32)) (a10 : (Nat → Int32)) (a11 : (Nat → Int32)) (a12 : Int32) (a13 : Int32), back1 a0 a1 a2 a3 a4 a5 a6 a7 a8 a9 a10 a11 a12 a13 → back2 a0 a1 a2 a3 a4 a5 a6 a7 a8 a9 a10 a11 a12 a13 → back3 a0 a1 a2 a3 a4 a5 a6 a7 a8 a9 a10 a11 a12 a13) (g1 : lb_X8_readsE_229 Fsize Atape Acells AcellName x0 κ211 Φ1 back1 Fplace Fbegin Ftoken Fword Ftold Fwrong Fcode AlineFrom AlineTo Acodes Aopened Acompared l2 l3) (g2 : bl_X8_readsE_229 Fsize Atape Acells AcellName x0 κ212 Φ2 back2 Fplace Fbegin Ftoken Fword Ftold Fwrong Fcode AlineFrom AlineTo Acodes Aopened Acompared l2 l3) : lb_X8_readsE_229 Fsize Atape Acells AcellName x0 κ213 Φ3 back3 Fplace Fbegin Ftoken Fword Ftold Fwrong Fcode AlineFrom AlineTo Acodes Aopened Acompared l2 l3 := ⟨(fun z1_ => (wq_X8_nextToken (fun _ _ _ _ _ u1_ v1_ => (hk21 _ _ _ _ _ _ _ _ _ _ _ _ _ _ u1_ v1_)) (g1.1 z1_) (g2.1 z1_))), (fun z2_ => ⟨(g1.2 z2_).1, ⟨(fun z3_ => (wq_X8_nextToken (fun _ _ _ _ _ u2_ v2_ => (hk21 _ _ _ _ _ _ _ _ _ _ _ _ _ _ u2_ v2_)) ((g1.2 z2_).2.1 z3_) (((g2.2 z2_) (g1.2 z2_).1).1 z3_))), (fun z4_ => (hback _ _ _ _ _ _ _ _ _ _ _ _ _ _ ((g1.2 z2_).2.2 z4_) (((g2.2 z2_) (g1.2 z2_).1).2 z4_)))⟩⟩)⟩
def ll_X8_readsE_229 (Fsize : Int32) (Atape : Nat → Int32) (Acells : Nat → Int32) (AcellName : Nat → Int64) (x0 : Int32) (κ21 : Int32 → Int32 → Int32 → Int64 → Int32 → Int32 → Int32 → (Nat → Int32) → (Nat → Int32) → (Nat → Int32) → (Nat → Int32) → (Nat → Int32) → Int32 → Int32 → Prop) (Φ : Int32 → Int32 → Int32 → Int32 → Int64 → Int32 → Int32 → Int32 → (Nat → Int32) → (Nat → Int32) → (Nat → Int32) → (Nat → Int32) → (Nat → Int32) → Prop) : Nat → Int32 → Int32 → Int32 → Int64 → Int32 → Int32 → Int32 → (Nat → Int32) → (Nat → Int32) → (Nat → Int32) → (Nat → Int32) → (Nat → Int32) → Int32 → Int32 → Prop
  | 0, _, _, _, _, _, _, _, _, _, _, _, _, _, _ => True
  | n_ + 1, Fplace, Fbegin, Ftoken, Fword, Ftold, Fwrong, Fcode, AlineFrom, AlineTo, Acodes, Aopened, Acompared, l2, l3 => bl_X8_readsE_229 Fsize Atape Acells AcellName x0 κ21 Φ (ll_X8_readsE_229 Fsize Atape Acells AcellName x0 κ21 Φ n_) Fplace Fbegin Ftoken Fword Ftold Fwrong Fcode AlineFrom AlineTo Acodes Aopened Acompared l2 l3
theorem lq_X8_readsE_229 {Fsize : Int32} {Atape : Nat → Int32} {Acells : Nat → Int32} {AcellName : Nat → Int64} {x0 : Int32} {κ211 κ212 κ213 : Int32 → Int32 → Int32 → Int64 → Int32 → Int32 → Int32 → (Nat → Int32) → (Nat → Int32) → (Nat → Int32) → (Nat → Int32) → (Nat → Int32) → Int32 → Int32 → Prop} {Φ1 Φ2 Φ3 : Int32 → Int32 → Int32 → Int32 → Int64 → Int32 → Int32 → Int32 → (Nat → Int32) → (Nat → Int32) → (Nat → Int32) → (Nat → Int32) → (Nat → Int32) → Prop} (hk21 : ∀ (a0 : Int32) (a1 : Int32) (a2 : Int32) (a3 : Int64) (a4 : Int32) (a5 : Int32) (a6 : Int32) (a7 : (Nat → Int32)) (a8 : (Nat → Int32)) (a9 : (Nat → Int32)) (a10 : (Nat → Int32)) (a11 : (Nat → Int32)) (a12 : Int32) (a13 : Int32), κ211 a0 a1 a2 a3 a4 a5 a6 a7 a8 a9 a10 a11 a12 a13 → κ212 a0 a1 a2 a3 a4 a5 a6 a7 a8 a9 a10 a11 a12 a13 → κ213 a0 a1 a2 a3 a4 a5 a6 a7 a8 a9 a10 a11 a12 a13) (hF : ∀ (a0 : Int32) (a1 : Int32) (a2 : Int32) (a3 : Int32) (a4 : Int64) (a5 : Int32) (a6 : Int32) (a7 : Int32) (a8 : (Nat → Int32)) (a9 : (Nat → Int32)) (a10 : (Nat → Int32)) (a11 : (Nat → Int32)) (a12 : (Nat → Int32)), Φ1 a0 a1 a2 a3 a4 a5 a6 a7 a8 a9 a10 a11 a12 → Φ2 a0 a1 a2 a3 a4 a5 a6 a7 a8 a9 a10 a11 a12 → Φ3 a0 a1 a2 a3 a4 a5 a6 a7 a8 a9 a10 a11 a12) : ∀ {n_ : Nat} {Fplace : Int32} {Fbegin : Int32} {Ftoken : Int32} {Fword : Int64} {Ftold : Int32} {Fwrong : Int32} {Fcode : Int32} {AlineFrom : (Nat → Int32)} {AlineTo : (Nat → Int32)} {Acodes : (Nat → Int32)} {Aopened : (Nat → Int32)} {Acompared : (Nat → Int32)} {l2 : Int32} {l3 : Int32}, lf_X8_readsE_229 Fsize Atape Acells AcellName x0 κ211 Φ1 n_ Fplace Fbegin Ftoken Fword Ftold Fwrong Fcode AlineFrom AlineTo Acodes Aopened Acompared l2 l3 → ll_X8_readsE_229 Fsize Atape Acells AcellName x0 κ212 Φ2 n_ Fplace Fbegin Ftoken Fword Ftold Fwrong Fcode AlineFrom AlineTo Acodes Aopened Acompared l2 l3 → lf_X8_readsE_229 Fsize Atape Acells AcellName x0 κ213 Φ3 n_ Fplace Fbegin Ftoken Fword Ftold Fwrong Fcode AlineFrom AlineTo Acodes Aopened Acompared l2 l3 := by
  intro n_
  induction n_ with
  | zero => intro Fplace Fbegin Ftoken Fword Ftold Fwrong Fcode AlineFrom AlineTo Acodes Aopened Acompared l2 l3 z_ _; exact z_.elim
  | succ n_ ih => intro Fplace Fbegin Ftoken Fword Ftold Fwrong Fcode AlineFrom AlineTo Acodes Aopened Acompared l2 l3 z_ y_; exact bq_X8_readsE_229 hk21 hF (fun _ _ _ _ _ _ _ _ _ _ _ _ _ _ u_ v_ => ih u_ v_) z_ y_
def kl_X8_readsE_121 (Fsize : Int32) (Atape : Nat → Int32) (Acells : Nat → Int32) (AcellName : Nat → Int64) (x0 : Int32) (κ21 : Int32 → Int32 → Int32 → Int64 → Int32 → Int32 → Int32 → (Nat → Int32) → (Nat → Int32) → (Nat → Int32) → (Nat → Int32) → (Nat → Int32) → Int32 → Int32 → Prop) (Φ : Int32 → Int32 → Int32 → Int32 → Int64 → Int32 → Int32 → Int32 → (Nat → Int32) → (Nat → Int32) → (Nat → Int32) → (Nat → Int32) → (Nat → Int32) → Prop) (Fplace : Int32) (Fbegin : Int32) (Ftoken : Int32) (Fword : Int64) (Ftold : Int32) (Fwrong : Int32) (Fcode : Int32) (AlineFrom : Nat → Int32) (AlineTo : Nat → Int32) (Acodes : Nat → Int32) (Aopened : Nat → Int32) (Acompared : Nat → Int32) (l2 : Int32) (l3 : Int32) (l4 : Int32) (l5 : Int32) (l6 : Int32) : Prop := (¬ l2 = 5 → ((¬ l5 = 0 → (kl_X8_readsE_142 Fsize Atape Acells AcellName x0 κ21 Φ Fplace Fbegin Ftoken Fword Ftold Fwrong Fcode AlineFrom AlineTo Acodes Aopened Acompared l2 l3 l5 l6)) ∧ (l5 = 0 → ((l6 = 0 → ((l4 = 0 → (wl_X8_puts (100 + Ftold) Fcode Acodes (fun Fcode_159 Acodes_160 => (∀ n_, ll_X8_readsE_229 Fsize Atape Acells AcellName x0 κ21 Φ n_ Fplace Fbegin Ftoken Fword Ftold Fwrong Fcode_159 AlineFrom AlineTo Acodes_160 Aopened Acompared l2 0)))) ∧ (¬ l4 = 0 → (wl_X8_cellOf Fword Acells AcellName (fun r_180 => wl_X8_puts (1 + r_180) Fcode Acodes (fun Fcode_182 Acodes_183 => (∀ n_, ll_X8_readsE_229 Fsize Atape Acells AcellName x0 κ21 Φ n_ Fplace Fbegin Ftoken Fword Ftold Fwrong Fcode_182 AlineFrom AlineTo Acodes_183 Aopened Acompared l2 0))))))) ∧ (¬ l6 = 0 → (kl_X8_readsE_142 Fsize Atape Acells AcellName x0 κ21 Φ Fplace Fbegin Ftoken Fword Ftold Fwrong Fcode AlineFrom AlineTo Acodes Aopened Acompared l2 l3 l5 l6)))))) ∧ (l2 = 5 → (wl_X8_fails Fbegin 5 Fwrong (fun r_187 Fwrong_186 => ((r_187 = 0 ∨ r_187 = 1) → (Φ r_187 Fplace Fbegin Ftoken Fword Ftold Fwrong_186 Fcode AlineFrom AlineTo Acodes Aopened Acompared)))))
theorem kq_X8_readsE_121 {Fsize : Int32} {Atape : Nat → Int32} {Acells : Nat → Int32} {AcellName : Nat → Int64} {x0 : Int32} {Fplace : Int32} {Fbegin : Int32} {Ftoken : Int32} {Fword : Int64} {Ftold : Int32} {Fwrong : Int32} {Fcode : Int32} {AlineFrom : Nat → Int32} {AlineTo : Nat → Int32} {Acodes : Nat → Int32} {Aopened : Nat → Int32} {Acompared : Nat → Int32} {l2 : Int32} {l3 : Int32} {l4 : Int32} {l5 : Int32} {l6 : Int32} {κ211 κ212 κ213 : Int32 → Int32 → Int32 → Int64 → Int32 → Int32 → Int32 → (Nat → Int32) → (Nat → Int32) → (Nat → Int32) → (Nat → Int32) → (Nat → Int32) → Int32 → Int32 → Prop} {Φ1 Φ2 Φ3 : Int32 → Int32 → Int32 → Int32 → Int64 → Int32 → Int32 → Int32 → (Nat → Int32) → (Nat → Int32) → (Nat → Int32) → (Nat → Int32) → (Nat → Int32) → Prop} (hk21 : ∀ (a0 : Int32) (a1 : Int32) (a2 : Int32) (a3 : Int64) (a4 : Int32) (a5 : Int32) (a6 : Int32) (a7 : (Nat → Int32)) (a8 : (Nat → Int32)) (a9 : (Nat → Int32)) (a10 : (Nat → Int32)) (a11 : (Nat → Int32)) (a12 : Int32) (a13 : Int32), κ211 a0 a1 a2 a3 a4 a5 a6 a7 a8 a9 a10 a11 a12 a13 → κ212 a0 a1 a2 a3 a4 a5 a6 a7 a8 a9 a10 a11 a12 a13 → κ213 a0 a1 a2 a3 a4 a5 a6 a7 a8 a9 a10 a11 a12 a13) (hF : ∀ (a0 : Int32) (a1 : Int32) (a2 : Int32) (a3 : Int32) (a4 : Int64) (a5 : Int32) (a6 : Int32) (a7 : Int32) (a8 : (Nat → Int32)) (a9 : (Nat → Int32)) (a10 : (Nat → Int32)) (a11 : (Nat → Int32)) (a12 : (Nat → Int32)), Φ1 a0 a1 a2 a3 a4 a5 a6 a7 a8 a9 a10 a11 a12 → Φ2 a0 a1 a2 a3 a4 a5 a6 a7 a8 a9 a10 a11 a12 → Φ3 a0 a1 a2 a3 a4 a5 a6 a7 a8 a9 a10 a11 a12) (g1 : kf_X8_readsE_121 Fsize Atape Acells AcellName x0 κ211 Φ1 Fplace Fbegin Ftoken Fword Ftold Fwrong Fcode AlineFrom AlineTo Acodes Aopened Acompared l2 l3 l4 l5 l6) (g2 : kl_X8_readsE_121 Fsize Atape Acells AcellName x0 κ212 Φ2 Fplace Fbegin Ftoken Fword Ftold Fwrong Fcode AlineFrom AlineTo Acodes Aopened Acompared l2 l3 l4 l5 l6) : kf_X8_readsE_121 Fsize Atape Acells AcellName x0 κ213 Φ3 Fplace Fbegin Ftoken Fword Ftold Fwrong Fcode AlineFrom AlineTo Acodes Aopened Acompared l2 l3 l4 l5 l6 := ⟨(fun z1_ => ⟨(fun z2_ => (kq_X8_readsE_142 hk21 hF ((g1.1 z1_).1 z2_) ((g2.1 z1_).1 z2_))), (fun z3_ => ⟨(fun z4_ => ⟨(fun z5_ => (wq_X8_puts (fun _ _ u1_ v1_ => (u1_.elim (fun n_ z_ => ⟨n_, lq_X8_readsE_229 hk21 hF z_ (v1_ n_)⟩))) ((((g1.1 z1_).2 z3_).1 z4_).1 z5_) ((((g2.1 z1_).2 z3_).1 z4_).1 z5_))), (fun z6_ => (wq_X8_cellOf (fun _ u2_ v2_ => (wq_X8_puts (fun _ _ u3_ v3_ => (u3_.elim (fun n_ z_ => ⟨n_, lq_X8_readsE_229 hk21 hF z_ (v3_ n_)⟩))) u2_ v2_)) ((((g1.1 z1_).2 z3_).1 z4_).2 z6_) ((((g2.1 z1_).2 z3_).1 z4_).2 z6_)))⟩), (fun z7_ => (kq_X8_readsE_142 hk21 hF (((g1.1 z1_).2 z3_).2 z7_) (((g2.1 z1_).2 z3_).2 z7_)))⟩)⟩), (fun z8_ => (wq_X8_fails (fun _ _ u4_ v4_ => ⟨u4_.1, (hF _ _ _ _ _ _ _ _ _ _ _ _ _ u4_.2 (v4_ u4_.1))⟩) (g1.2 z8_) (g2.2 z8_)))⟩
def kl_X8_readsE_103 (Fsize : Int32) (Atape : Nat → Int32) (Acells : Nat → Int32) (AcellName : Nat → Int64) (x0 : Int32) (κ21 : Int32 → Int32 → Int32 → Int64 → Int32 → Int32 → Int32 → (Nat → Int32) → (Nat → Int32) → (Nat → Int32) → (Nat → Int32) → (Nat → Int32) → Int32 → Int32 → Prop) (Φ : Int32 → Int32 → Int32 → Int32 → Int64 → Int32 → Int32 → Int32 → (Nat → Int32) → (Nat → Int32) → (Nat → Int32) → (Nat → Int32) → (Nat → Int32) → Prop) (Fplace : Int32) (Fbegin : Int32) (Ftoken : Int32) (Fword : Int64) (Ftold : Int32) (Fwrong : Int32) (Fcode : Int32) (AlineFrom : Nat → Int32) (AlineTo : Nat → Int32) (Acodes : Nat → Int32) (Aopened : Nat → Int32) (Acompared : Nat → Int32) (l2 : Int32) (l3 : Int32) (l4 : Int32) (l5 : Int32) (l6 : Int32) : Prop := (l4 = 0 → (kl_X8_readsE_121 Fsize Atape Acells AcellName x0 κ21 Φ Fplace Fbegin Ftoken Fword Ftold Fwrong Fcode AlineFrom AlineTo Acodes Aopened Acompared l2 l3 l4 l5 l6)) ∧ (¬ l4 = 0 → (wl_X8_cellOf Fword Acells AcellName (fun r_190 => (0 ≤ r_190 → (kl_X8_readsE_121 Fsize Atape Acells AcellName x0 κ21 Φ Fplace Fbegin Ftoken Fword Ftold Fwrong Fcode AlineFrom AlineTo Acodes Aopened Acompared l2 l3 l4 l5 l6)) ∧ (¬ 0 ≤ r_190 → (wl_X8_fails Fbegin 2 Fwrong (fun r_194 Fwrong_193 => ((r_194 = 0 ∨ r_194 = 1) → (Φ r_194 Fplace Fbegin Ftoken Fword Ftold Fwrong_193 Fcode AlineFrom AlineTo Acodes Aopened Acompared))))))))
theorem kq_X8_readsE_103 {Fsize : Int32} {Atape : Nat → Int32} {Acells : Nat → Int32} {AcellName : Nat → Int64} {x0 : Int32} {Fplace : Int32} {Fbegin : Int32} {Ftoken : Int32} {Fword : Int64} {Ftold : Int32} {Fwrong : Int32} {Fcode : Int32} {AlineFrom : Nat → Int32} {AlineTo : Nat → Int32} {Acodes : Nat → Int32} {Aopened : Nat → Int32} {Acompared : Nat → Int32} {l2 : Int32} {l3 : Int32} {l4 : Int32} {l5 : Int32} {l6 : Int32} {κ211 κ212 κ213 : Int32 → Int32 → Int32 → Int64 → Int32 → Int32 → Int32 → (Nat → Int32) → (Nat → Int32) → (Nat → Int32) → (Nat → Int32) → (Nat → Int32) → Int32 → Int32 → Prop} {Φ1 Φ2 Φ3 : Int32 → Int32 → Int32 → Int32 → Int64 → Int32 → Int32 → Int32 → (Nat → Int32) → (Nat → Int32) → (Nat → Int32) → (Nat → Int32) → (Nat → Int32) → Prop} (hk21 : ∀ (a0 : Int32) (a1 : Int32) (a2 : Int32) (a3 : Int64) (a4 : Int32) (a5 : Int32) (a6 : Int32) (a7 : (Nat → Int32)) (a8 : (Nat → Int32)) (a9 : (Nat → Int32)) (a10 : (Nat → Int32)) (a11 : (Nat → Int32)) (a12 : Int32) (a13 : Int32), κ211 a0 a1 a2 a3 a4 a5 a6 a7 a8 a9 a10 a11 a12 a13 → κ212 a0 a1 a2 a3 a4 a5 a6 a7 a8 a9 a10 a11 a12 a13 → κ213 a0 a1 a2 a3 a4 a5 a6 a7 a8 a9 a10 a11 a12 a13) (hF : ∀ (a0 : Int32) (a1 : Int32) (a2 : Int32) (a3 : Int32) (a4 : Int64) (a5 : Int32) (a6 : Int32) (a7 : Int32) (a8 : (Nat → Int32)) (a9 : (Nat → Int32)) (a10 : (Nat → Int32)) (a11 : (Nat → Int32)) (a12 : (Nat → Int32)), Φ1 a0 a1 a2 a3 a4 a5 a6 a7 a8 a9 a10 a11 a12 → Φ2 a0 a1 a2 a3 a4 a5 a6 a7 a8 a9 a10 a11 a12 → Φ3 a0 a1 a2 a3 a4 a5 a6 a7 a8 a9 a10 a11 a12) (g1 : kf_X8_readsE_103 Fsize Atape Acells AcellName x0 κ211 Φ1 Fplace Fbegin Ftoken Fword Ftold Fwrong Fcode AlineFrom AlineTo Acodes Aopened Acompared l2 l3 l4 l5 l6) (g2 : kl_X8_readsE_103 Fsize Atape Acells AcellName x0 κ212 Φ2 Fplace Fbegin Ftoken Fword Ftold Fwrong Fcode AlineFrom AlineTo Acodes Aopened Acompared l2 l3 l4 l5 l6) : kf_X8_readsE_103 Fsize Atape Acells AcellName x0 κ213 Φ3 Fplace Fbegin Ftoken Fword Ftold Fwrong Fcode AlineFrom AlineTo Acodes Aopened Acompared l2 l3 l4 l5 l6 := ⟨(fun z1_ => (kq_X8_readsE_121 hk21 hF (g1.1 z1_) (g2.1 z1_))), (fun z2_ => (wq_X8_cellOf (fun _ u1_ v1_ => ⟨(fun z3_ => (kq_X8_readsE_121 hk21 hF (u1_.1 z3_) (v1_.1 z3_))), (fun z4_ => (wq_X8_fails (fun _ _ u2_ v2_ => ⟨u2_.1, (hF _ _ _ _ _ _ _ _ _ _ _ _ _ u2_.2 (v2_ u2_.1))⟩) (u1_.2 z4_) (v1_.2 z4_)))⟩) (g1.2 z2_) (g2.2 z2_)))⟩
def kl_X8_readsE_64 (Fsize : Int32) (Atape : Nat → Int32) (Acells : Nat → Int32) (AcellName : Nat → Int64) (x0 : Int32) (κ21 : Int32 → Int32 → Int32 → Int64 → Int32 → Int32 → Int32 → (Nat → Int32) → (Nat → Int32) → (Nat → Int32) → (Nat → Int32) → (Nat → Int32) → Int32 → Int32 → Prop) (Φ : Int32 → Int32 → Int32 → Int32 → Int64 → Int32 → Int32 → Int32 → (Nat → Int32) → (Nat → Int32) → (Nat → Int32) → (Nat → Int32) → (Nat → Int32) → Prop) (Fplace : Int32) (Fbegin : Int32) (Ftoken : Int32) (Fword : Int64) (Ftold : Int32) (Fwrong : Int32) (Fcode : Int32) (AlineFrom : Nat → Int32) (AlineTo : Nat → Int32) (Acodes : Nat → Int32) (Aopened : Nat → Int32) (Acompared : Nat → Int32) (l2 : Int32) (l3 : Int32) (l4 : Int32) (s0 : Int32) : Prop := wl_X8_isSign Fbegin Ftoken Atape 40 (fun r_133 => (¬ l4 = 0 → (kl_X8_readsE_103 Fsize Atape Acells AcellName x0 κ21 Φ Fplace Fbegin Ftoken Fword Ftold Fwrong Fcode AlineFrom AlineTo Acodes Aopened Acompared l2 l3 l4 s0 r_133)) ∧ (l4 = 0 → ((¬ s0 = 0 → (kl_X8_readsE_103 Fsize Atape Acells AcellName x0 κ21 Φ Fplace Fbegin Ftoken Fword Ftold Fwrong Fcode AlineFrom AlineTo Acodes Aopened Acompared l2 l3 l4 s0 r_133)) ∧ (s0 = 0 → ((¬ r_133 = 0 → (kl_X8_readsE_103 Fsize Atape Acells AcellName x0 κ21 Φ Fplace Fbegin Ftoken Fword Ftold Fwrong Fcode AlineFrom AlineTo Acodes Aopened Acompared l2 l3 l4 s0 r_133)) ∧ (r_133 = 0 → ((Ftoken = 2 → (kl_X8_readsE_103 Fsize Atape Acells AcellName x0 κ21 Φ Fplace Fbegin Ftoken Fword Ftold Fwrong Fcode AlineFrom AlineTo Acodes Aopened Acompared l2 l3 l4 s0 r_133)) ∧ (¬ Ftoken = 2 → (wl_X8_fails Fbegin 1 Fwrong (fun r_201 Fwrong_200 => ((r_201 = 0 ∨ r_201 = 1) → (Φ r_201 Fplace Fbegin Ftoken Fword Ftold Fwrong_200 Fcode AlineFrom AlineTo Acodes Aopened Acompared))))))))))))
theorem kq_X8_readsE_64 {Fsize : Int32} {Atape : Nat → Int32} {Acells : Nat → Int32} {AcellName : Nat → Int64} {x0 : Int32} {Fplace : Int32} {Fbegin : Int32} {Ftoken : Int32} {Fword : Int64} {Ftold : Int32} {Fwrong : Int32} {Fcode : Int32} {AlineFrom : Nat → Int32} {AlineTo : Nat → Int32} {Acodes : Nat → Int32} {Aopened : Nat → Int32} {Acompared : Nat → Int32} {l2 : Int32} {l3 : Int32} {l4 : Int32} {s0 : Int32} {κ211 κ212 κ213 : Int32 → Int32 → Int32 → Int64 → Int32 → Int32 → Int32 → (Nat → Int32) → (Nat → Int32) → (Nat → Int32) → (Nat → Int32) → (Nat → Int32) → Int32 → Int32 → Prop} {Φ1 Φ2 Φ3 : Int32 → Int32 → Int32 → Int32 → Int64 → Int32 → Int32 → Int32 → (Nat → Int32) → (Nat → Int32) → (Nat → Int32) → (Nat → Int32) → (Nat → Int32) → Prop} (hk21 : ∀ (a0 : Int32) (a1 : Int32) (a2 : Int32) (a3 : Int64) (a4 : Int32) (a5 : Int32) (a6 : Int32) (a7 : (Nat → Int32)) (a8 : (Nat → Int32)) (a9 : (Nat → Int32)) (a10 : (Nat → Int32)) (a11 : (Nat → Int32)) (a12 : Int32) (a13 : Int32), κ211 a0 a1 a2 a3 a4 a5 a6 a7 a8 a9 a10 a11 a12 a13 → κ212 a0 a1 a2 a3 a4 a5 a6 a7 a8 a9 a10 a11 a12 a13 → κ213 a0 a1 a2 a3 a4 a5 a6 a7 a8 a9 a10 a11 a12 a13) (hF : ∀ (a0 : Int32) (a1 : Int32) (a2 : Int32) (a3 : Int32) (a4 : Int64) (a5 : Int32) (a6 : Int32) (a7 : Int32) (a8 : (Nat → Int32)) (a9 : (Nat → Int32)) (a10 : (Nat → Int32)) (a11 : (Nat → Int32)) (a12 : (Nat → Int32)), Φ1 a0 a1 a2 a3 a4 a5 a6 a7 a8 a9 a10 a11 a12 → Φ2 a0 a1 a2 a3 a4 a5 a6 a7 a8 a9 a10 a11 a12 → Φ3 a0 a1 a2 a3 a4 a5 a6 a7 a8 a9 a10 a11 a12) (g1 : kf_X8_readsE_64 Fsize Atape Acells AcellName x0 κ211 Φ1 Fplace Fbegin Ftoken Fword Ftold Fwrong Fcode AlineFrom AlineTo Acodes Aopened Acompared l2 l3 l4 s0) (g2 : kl_X8_readsE_64 Fsize Atape Acells AcellName x0 κ212 Φ2 Fplace Fbegin Ftoken Fword Ftold Fwrong Fcode AlineFrom AlineTo Acodes Aopened Acompared l2 l3 l4 s0) : kf_X8_readsE_64 Fsize Atape Acells AcellName x0 κ213 Φ3 Fplace Fbegin Ftoken Fword Ftold Fwrong Fcode AlineFrom AlineTo Acodes Aopened Acompared l2 l3 l4 s0 := (wq_X8_isSign (fun _ u1_ v1_ => ⟨(fun z1_ => (kq_X8_readsE_103 hk21 hF (u1_.1 z1_) (v1_.1 z1_))), (fun z2_ => ⟨(fun z3_ => (kq_X8_readsE_103 hk21 hF ((u1_.2 z2_).1 z3_) ((v1_.2 z2_).1 z3_))), (fun z4_ => ⟨(fun z5_ => (kq_X8_readsE_103 hk21 hF (((u1_.2 z2_).2 z4_).1 z5_) (((v1_.2 z2_).2 z4_).1 z5_))), (fun z6_ => ⟨(fun z7_ => (kq_X8_readsE_103 hk21 hF ((((u1_.2 z2_).2 z4_).2 z6_).1 z7_) ((((v1_.2 z2_).2 z4_).2 z6_).1 z7_))), (fun z8_ => (wq_X8_fails (fun _ _ u2_ v2_ => ⟨u2_.1, (hF _ _ _ _ _ _ _ _ _ _ _ _ _ u2_.2 (v2_ u2_.1))⟩) ((((u1_.2 z2_).2 z4_).2 z6_).2 z8_) ((((v1_.2 z2_).2 z4_).2 z6_).2 z8_)))⟩)⟩)⟩)⟩) g1 g2)
def kl_X8_readsE_37 (Fsize : Int32) (Atape : Nat → Int32) (Acells : Nat → Int32) (AcellName : Nat → Int64) (x0 : Int32) (κ21 : Int32 → Int32 → Int32 → Int64 → Int32 → Int32 → Int32 → (Nat → Int32) → (Nat → Int32) → (Nat → Int32) → (Nat → Int32) → (Nat → Int32) → Int32 → Int32 → Prop) (Φ : Int32 → Int32 → Int32 → Int32 → Int64 → Int32 → Int32 → Int32 → (Nat → Int32) → (Nat → Int32) → (Nat → Int32) → (Nat → Int32) → (Nat → Int32) → Prop) (Fplace : Int32) (Fbegin : Int32) (Ftoken : Int32) (Fword : Int64) (Ftold : Int32) (Fwrong : Int32) (Fcode : Int32) (AlineFrom : Nat → Int32) (AlineTo : Nat → Int32) (Acodes : Nat → Int32) (Aopened : Nat → Int32) (Acompared : Nat → Int32) (l2 : Int32) (l3 : Int32) (s0 : Int32) : Prop := wl_X8_isWord Ftoken Fword 10631 (fun r_130 => (¬ r_130 = 0 → (kl_X8_readsE_64 Fsize Atape Acells AcellName x0 κ21 Φ Fplace Fbegin Ftoken Fword Ftold Fwrong Fcode AlineFrom AlineTo Acodes Aopened Acompared l2 l3 s0 1)) ∧ (r_130 = 0 → (wl_X8_isWord Ftoken Fword 464144 (fun r_204 => (r_204 = 0 → (kl_X8_readsE_64 Fsize Atape Acells AcellName x0 κ21 Φ Fplace Fbegin Ftoken Fword Ftold Fwrong Fcode AlineFrom AlineTo Acodes Aopened Acompared l2 l3 s0 0)) ∧ (¬ r_204 = 0 → (kl_X8_readsE_64 Fsize Atape Acells AcellName x0 κ21 Φ Fplace Fbegin Ftoken Fword Ftold Fwrong Fcode AlineFrom AlineTo Acodes Aopened Acompared l2 l3 s0 1))))))
theorem kq_X8_readsE_37 {Fsize : Int32} {Atape : Nat → Int32} {Acells : Nat → Int32} {AcellName : Nat → Int64} {x0 : Int32} {Fplace : Int32} {Fbegin : Int32} {Ftoken : Int32} {Fword : Int64} {Ftold : Int32} {Fwrong : Int32} {Fcode : Int32} {AlineFrom : Nat → Int32} {AlineTo : Nat → Int32} {Acodes : Nat → Int32} {Aopened : Nat → Int32} {Acompared : Nat → Int32} {l2 : Int32} {l3 : Int32} {s0 : Int32} {κ211 κ212 κ213 : Int32 → Int32 → Int32 → Int64 → Int32 → Int32 → Int32 → (Nat → Int32) → (Nat → Int32) → (Nat → Int32) → (Nat → Int32) → (Nat → Int32) → Int32 → Int32 → Prop} {Φ1 Φ2 Φ3 : Int32 → Int32 → Int32 → Int32 → Int64 → Int32 → Int32 → Int32 → (Nat → Int32) → (Nat → Int32) → (Nat → Int32) → (Nat → Int32) → (Nat → Int32) → Prop} (hk21 : ∀ (a0 : Int32) (a1 : Int32) (a2 : Int32) (a3 : Int64) (a4 : Int32) (a5 : Int32) (a6 : Int32) (a7 : (Nat → Int32)) (a8 : (Nat → Int32)) (a9 : (Nat → Int32)) (a10 : (Nat → Int32)) (a11 : (Nat → Int32)) (a12 : Int32) (a13 : Int32), κ211 a0 a1 a2 a3 a4 a5 a6 a7 a8 a9 a10 a11 a12 a13 → κ212 a0 a1 a2 a3 a4 a5 a6 a7 a8 a9 a10 a11 a12 a13 → κ213 a0 a1 a2 a3 a4 a5 a6 a7 a8 a9 a10 a11 a12 a13) (hF : ∀ (a0 : Int32) (a1 : Int32) (a2 : Int32) (a3 : Int32) (a4 : Int64) (a5 : Int32) (a6 : Int32) (a7 : Int32) (a8 : (Nat → Int32)) (a9 : (Nat → Int32)) (a10 : (Nat → Int32)) (a11 : (Nat → Int32)) (a12 : (Nat → Int32)), Φ1 a0 a1 a2 a3 a4 a5 a6 a7 a8 a9 a10 a11 a12 → Φ2 a0 a1 a2 a3 a4 a5 a6 a7 a8 a9 a10 a11 a12 → Φ3 a0 a1 a2 a3 a4 a5 a6 a7 a8 a9 a10 a11 a12) (g1 : kf_X8_readsE_37 Fsize Atape Acells AcellName x0 κ211 Φ1 Fplace Fbegin Ftoken Fword Ftold Fwrong Fcode AlineFrom AlineTo Acodes Aopened Acompared l2 l3 s0) (g2 : kl_X8_readsE_37 Fsize Atape Acells AcellName x0 κ212 Φ2 Fplace Fbegin Ftoken Fword Ftold Fwrong Fcode AlineFrom AlineTo Acodes Aopened Acompared l2 l3 s0) : kf_X8_readsE_37 Fsize Atape Acells AcellName x0 κ213 Φ3 Fplace Fbegin Ftoken Fword Ftold Fwrong Fcode AlineFrom AlineTo Acodes Aopened Acompared l2 l3 s0 := (wq_X8_isWord (fun _ u1_ v1_ => ⟨(fun z1_ => (kq_X8_readsE_64 hk21 hF (u1_.1 z1_) (v1_.1 z1_))), (fun z2_ => (wq_X8_isWord (fun _ u2_ v2_ => ⟨(fun z3_ => (kq_X8_readsE_64 hk21 hF (u2_.1 z3_) (v2_.1 z3_))), (fun z4_ => (kq_X8_readsE_64 hk21 hF (u2_.2 z4_) (v2_.2 z4_)))⟩) (u1_.2 z2_) (v1_.2 z2_)))⟩) g1 g2)
end
