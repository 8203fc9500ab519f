/-- a programme as the machine may trust it -/
def PK (s e g l : Nat) (so tg : Nat → Int32) (cl : Nat) (cd : Nat → Int32) : Prop := s ≤ 4 ∧ e ≤ 6 ∧ g ≤ 2 ∧ l ≤ 16 ∧ AL 4 so ∧ AL 6 tg ∧ cl < 1000 ∧ CD cd cl
abbrev PRd : Type := Nat → Int32 → Int32 → Nat → Int32 → Int64 → Int32 → (Nat → Int64) → (Nat → Int64) → (Nat → Int32) → Int32 → Int32 → (Nat → Nat) → (Nat → Int32) → (Nat → Int64) → Int32 → Int32 → Int32 → Int32 → (Nat → Int32) → (Nat → Int32) → (Nat → Int32) → (Nat → Int32) → (Nat → Int32) → (Nat → Int32) → (Nat → Int32) → (Nat → Int32) → (Nat → Int32) → (Nat → Int32) → (Nat → Int32) → (Nat → Int32) → Nat → (Nat → Int32) → Prop
def RQ (Φ : PRd) : Prop := ∀ (pg d t tok : Nat) (p : Int32) (v : Int64) (f : Int32) (sn cn : Nat → Int64) (code : Nat → Int32) (c : Nat) (tk : Nat → Nat) (pl : Nat → Int32) (vl : Nat → Int64) (s e g l : Nat) (be co to_ gc le gr ac so tg fr mi en cd : Nat → Int32), PK s e g l so tg d cd → Φ pg (nI d) (nI t) tok p v f sn cn code 0 (nI c) tk pl vl (nI s) (nI e) (nI g) (nI l) be co to_ gc le gr ac so tg fr mi en d cd
section RE
variable {c pg : Nat} {tk : Nat → Nat} {pl : Nat → Int32} {vl : Nat → Int64} {Φ : PRd}
theorem sp_X3_read47 (hT : TT c tk) (hΦ : RQ Φ) : ∀ (m i : Nat) (d t tok : Nat) (p : Int32) (v : Int64) (f : Int32) (sn cn : Nat → Int64) (code : Nat → Int32) (s e g l : Nat) (be co to_ gc le gr ac so tg fr mi en : Nat → Int32), m = 1000 - i → i ≤ 1000 → RT c tk t tok → (d = 0 ∨ d + 2 ≤ t) → d ≤ 1000 → CD code d → s ≤ 4 → e ≤ 6 → g ≤ 2 → l ≤ 16 → AL 4 so → AL 6 tg → lf_X3_read_47 0 (nI c) tk pl vl pg Φ (m + 1) (nI d) (nI t) tok p v f sn cn code (nI s) (nI e) (nI g) (nI l) be co to_ gc le gr ac so tg fr mi en (nI i) := by
  have out : ∀ (d t tok : Nat) (p : Int32) (v : Int64) (f : Int32) (sn cn : Nat → Int64) (code : Nat → Int32) (s e g l : Nat) (be co to_ gc le gr ac so tg fr mi en : Nat → Int32), RT c tk t tok → (d = 0 ∨ d + 2 ≤ t) → d ≤ 1000 → CD code d → s ≤ 4 → e ≤ 6 → g ≤ 2 → l ≤ 16 → AL 4 so → AL 6 tg → kf_X3_read_157 0 (nI c) tk pl vl pg Φ (nI d) (nI t) tok p v f sn cn code (nI s) (nI e) (nI g) (nI l) be co to_ gc le gr ac so tg fr mi en := by
    intro d t tok p v f sn cn code s e g l be co to_ gc le gr ac so tg fr mi en h1 h2 h3 h4 h5 h6 h7 h8 h9 h10
    unfold kf_X3_read_157
    have hc := hT.2.1
    have ht := h1.2.1
    have hd : d < 1000 := by omega
    rw [nI_clamp (n := d) (by omega)]
    refine ⟨nI_pos (by omega), hd, hΦ _ d t _ _ _ _ _ _ _ c _ _ _ s e g l _ _ _ _ _ _ _ _ _ _ _ _ _ ⟨h5, h6, h7, h8, h9, h10, hd, fun j hj => ?_⟩⟩
    rw [pk_cpy_in (Nat.zero_le j) (by omega)]
    exact h4 _ (by omega)
  intro m
  induction m with
  | zero =>
    intro i d t tok p v f sn cn code s e g l be co to_ gc le gr ac so tg fr mi en hm hi h1 h2 h3 h4 h5 h6 h7 h8 h9 h10
    have ei : i = 1000 := by omega
    subst ei
    show lb_X3_read_47 _ _ _ _ _ _ _ _ _ _ _ _ _ _ _ _ _ _ _ _ _ _ _ _ _ _ _ _ _ _ _ _ _ _
    unfold lb_X3_read_47
    exact ⟨fun _ => out _ _ _ _ _ _ _ _ _ _ _ _ _ _ _ _ _ _ _ _ _ _ _ _ _ h1 h2 h3 h4 h5 h6 h7 h8 h9 h10, fun z => absurd (by decide) z⟩
  | succ m ih =>
    intro i d t tok p v f sn cn code s e g l be co to_ gc le gr ac so tg fr mi en hm hi h1 h2 h3 h4 h5 h6 h7 h8 h9 h10
    show lb_X3_read_47 _ _ _ _ _ _ _ _ _ _ _ _ _ _ _ _ _ _ _ _ _ _ _ _ _ _ _ _ _ _ _ _ _ _
    unfold lb_X3_read_47
    have o := out d t tok p v f sn cn code s e g l be co to_ gc le gr ac so tg fr mi en h1 h2 h3 h4 h5 h6 h7 h8 h9 h10
    have lt := h1.lt hT
    rw [nI_1]
    refine ⟨fun z => absurd z (nI_ge (b := 1000) (by omega) (by decide)), fun _ => ⟨fun _ => o, fun _ => ⟨lt, fun _ => o, fun nz => ⟨lt, fun _ => ⟨lt, fun _ => ⟨lt, fun _ => ⟨lt, fun _ => ?_, fun _ => ?_⟩, fun _ => ?_⟩, fun _ => ?_⟩, fun _ => ?_⟩⟩⟩⟩
    · exact sp_X3_fail (by decide) (fun f' _ => sp_X3_expect hT h1 (by decide) (fun t2 k2 p2 v2 f2 r2 g2 => ih (i + 1) _ _ _ _ _ _ _ _ _ _ _ _ _ _ _ _ _ _ _ _ _ _ _ _ _ (by omega) (by omega) r2 (by omega) h3 h4 h5 h6 h7 h8 h9 h10))
    · exact sp_X3_tellLine hT h1 nz h8 h3 h4 h9 h10 (fun d1 t1 k1 p1 v1 f1 code1 l1 ac1 so1 tg1 fr1 mi1 en1 r1 u1 u2 u3 u4 u5 u6 u7 => sp_X3_expect hT r1 (by decide) (fun t2 k2 p2 v2 f2 r2 g2 => ih (i + 1) _ _ _ _ _ _ _ _ _ _ _ _ _ _ _ _ _ _ _ _ _ _ _ _ _ (by omega) (by omega) r2 (by have := h1.1; omega) u3 u4 h5 h6 h7 u5 u6 u7))
    · exact sp_X3_tellInput hT h1 h7 (fun t1 k1 p1 v1 f1 g1 gc1 le1 gr1 r1 u1 u2 => sp_X3_expect hT r1 (by decide) (fun t2 k2 p2 v2 f2 r2 g2 => ih (i + 1) _ _ _ _ _ _ _ _ _ _ _ _ _ _ _ _ _ _ _ _ _ _ _ _ _ (by omega) (by omega) r2 (by omega) h3 h4 h5 h6 u2 h8 h9 h10))
    · exact sp_X3_tellCell hT h1 h6 (fun t1 k1 p1 v1 f1 cn1 e1 to1 r1 u1 u2 => sp_X3_expect hT r1 (by decide) (fun t2 k2 p2 v2 f2 r2 g2 => ih (i + 1) _ _ _ _ _ _ _ _ _ _ _ _ _ _ _ _ _ _ _ _ _ _ _ _ _ (by omega) (by omega) r2 (by omega) h3 h4 h5 u2 h7 h8 h9 h10))
    · exact sp_X3_tellStuff hT h1 h5 (fun t1 k1 p1 v1 f1 sn1 s1 be1 co1 r1 u1 u2 => sp_X3_expect hT r1 (by decide) (fun t2 k2 p2 v2 f2 r2 g2 => ih (i + 1) _ _ _ _ _ _ _ _ _ _ _ _ _ _ _ _ _ _ _ _ _ _ _ _ _ (by omega) (by omega) r2 (by omega) h3 h4 u2 h6 h7 h8 h9 h10))
end RE
theorem sp_X3_read {n tok : Nat} {sg code pl : Nat → Int32} {a b p f C : Int32} {v : Int64} {sn cn vl : Nat → Int64} {tk : Nat → Nat} {Φ : PRd} (hn : n ≤ 1000) (hΦ : RQ Φ) : wp_X3_read sg a b tok p v f sn cn code (nI n) C tk pl vl Φ := by
  unfold wp_X3_read
  refine sp_X5_split hn (fun c' tk' pl' vl' hT pg => sp_X3_advance0 hT (fun tok1 p1 v1 r1 => ⟨1000 - 0 + 1, ?_⟩))
  exact sp_X3_read47 hT hΦ (1000 - 0) 0 0 1 _ _ _ 0 _ _ _ 0 0 0 0 _ _ _ _ _ _ _ _ _ _ _ _ rfl (by decide) r1 (Or.inl rfl) (by decide) (fun j hj => absurd hj (by omega)) (by decide) (by decide) (by decide) (by decide) (AL.zero (by decide)) (AL.zero (by decide))
