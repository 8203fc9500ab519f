/-- the sign at a place, 0 behind the end -/
def sgA (t : Nat → Int32) (n k : Nat) : Int32 := if k < n then t k else 0
theorem sp_X8_signAt {t : Nat → Int32} {n k : Nat} {Φ : Int32 → Prop} (hn : n ≤ 1000) (hk : k ≤ 1000) (h : Φ (sgA t n k)) : wp_X8_signAt (nI n) t (nI k) Φ := by
  unfold wp_X8_signAt
  refine pk_le n k (fun h1 => ?_) (fun h1 => ⟨pk_in k 1000 (by omega), ?_⟩)
  · rw [sgA, if_neg (by omega)] at h; exact h
  · rw [sgA, if_pos h1] at h; rw [nI_clamp (by omega)]; exact h
theorem sp_X8_within {v lo hi : Int32} {Φ : Int32 → Prop} (h1 : ¬ v < lo → ¬ hi < v → Φ 1) (h0 : v < lo ∨ hi < v → Φ 0) : wp_X8_within v lo hi Φ := by
  unfold wp_X8_within
  exact ⟨fun h => h0 (Or.inl h), fun a => ⟨fun h => h0 (Or.inr h), fun b => h1 a b⟩⟩
def isL (s : Int32) : Prop := ¬ s < 97 ∧ ¬ 122 < s
def isD (s : Int32) : Prop := ¬ s < 48 ∧ ¬ 57 < s
def isB (s : Int32) : Prop := s = 32 ∨ s = 10
/-- what nextToken leaves: begin at b, the next place at q, the kind -/
def NT (t : Nat → Int32) (n p b q : Nat) (tk : Int32) (td : Int32) : Prop := p ≤ b ∧ b ≤ q ∧ q ≤ n ∧ ((tk = 0 ∧ b = n ∧ q = n) ∨ (b < q ∧ (tk = 1 ∨ tk = 2 ∨ tk = 3 ∨ tk = 4))) ∧ ∃ d : Nat, d ≤ 9999 ∧ td = nI d
theorem sp_nt345 {t : Nat → Int32} {S : Int32} {Φ : Int32 → Int32 → Int32 → Int64 → Int32 → Prop} {P B T : Int32} {w : Int64} {d l : Int32} (h3 : Φ P B 3 w d) (h4 : Φ P B 4 w d) : kf_X8_nextToken_345 S t Φ P B T w d l := by
  unfold kf_X8_nextToken_345
  exact ⟨fun _ => h3, fun _ => ⟨fun _ => h4, fun _ => ⟨fun _ => h4, fun _ => h3⟩⟩⟩
theorem sp_nt322 {t : Nat → Int32} {S : Int32} {Φ : Int32 → Int32 → Int32 → Int64 → Int32 → Prop} {P B T : Int32} {w : Int64} {d l : Int32} (h3 : Φ (P + 1) B 3 w d) (h4 : Φ (P + 1) B 4 w d) : kf_X8_nextToken_322 S t Φ P B T w d l := by
  unfold kf_X8_nextToken_322
  exact ⟨fun _ => sp_nt345 h3 h4, fun _ => ⟨fun _ => h3, fun _ => sp_nt345 h3 h4⟩⟩
theorem isD_nI {x : Int32} (h1 : ¬ x < 48) (h2 : ¬ 57 < x) : ∃ j : Nat, 48 ≤ j ∧ j ≤ 57 ∧ x = nI j := by
  obtain ⟨j, hj, rfl⟩ := nI_of (x := x) (fun h => h1 (by
    have := Int32.lt_iff_toInt_lt.mp h
    apply Int32.lt_iff_toInt_lt.mpr
    have z : (0 : Int32).toInt = 0 := rfl
    have z2 : (48 : Int32).toInt = 48 := rfl
    omega))
  refine ⟨j, ?_, ?_, rfl⟩
  · exact Nat.le_of_not_lt (fun h => h1 (nI_lt (b := 48) h (by decide)))
  · exact Nat.le_of_not_lt (fun h => h2 (nI_lt (a := 57) h (by omega)))
/-- digits: at most 4 are told -/
theorem sp_nt224 {t : Nat → Int32} {n b : Nat} {T : Int32} {w : Int64} {Φ : Int32 → Int32 → Int32 → Int64 → Int32 → Prop} (hn : n ≤ 1000) (h : ∀ (q : Nat) (tk td : Int32), b < q → q ≤ n → (tk = 2 ∨ tk = 4) → (∃ d : Nat, d ≤ 9999 ∧ td = nI d) → Φ (nI q) (nI b) tk w td) :
    ∀ (k q d : Nat), k = n - q → b ≤ q → q ≤ n → (q = b → b < n ∧ isD (t b)) → (d < 10 ^ (min (q - b) 4)) → lf_X8_nextToken_224 (nI n) t Φ (k + 1) (nI q) (nI b) T w (nI d) := by
  intro k
  induction k with
  | zero =>
    intro q d hk hb hq h0 hd
    have e : q = n := by omega
    subst e
    show lb_X8_nextToken_224 _ _ _ _ _ _ _ _ _
    unfold lb_X8_nextToken_224
    refine sp_X8_signAt hn (by omega) ?_
    rw [sgA, if_neg (by omega)]
    refine ⟨fun _ => ?_, fun h1 => absurd (by decide) h1⟩
    unfold kf_X8_nextToken_299
    have hbq : b < q := Nat.lt_of_le_of_ne hb (fun e => by have := (h0 e.symm).1; omega)
    have hd9 : d ≤ 9999 := by
      have : 10 ^ (min (q - b) 4) ≤ 10 ^ 4 := Nat.pow_le_pow_right (by decide) (Nat.min_le_right _ _)
      omega
    exact ⟨fun _ => h q 2 _ hbq hq (Or.inl rfl) ⟨d, hd9, rfl⟩, fun _ => h q 4 _ hbq hq (Or.inr rfl) ⟨d, hd9, rfl⟩⟩
  | succ k ih =>
    intro q d hk hb hq h0 hd
    have hqn : q < n := by omega
    have hd9 : d ≤ 9999 := by
      have : 10 ^ (min (q - b) 4) ≤ 10 ^ 4 := Nat.pow_le_pow_right (by decide) (Nat.min_le_right _ _)
      omega
    have hx : (¬ q = b ∨ isD (t q)) := by
      by_cases e : q = b
      · exact Or.inr (by rw [e]; exact (h0 e).2)
      · exact Or.inl e
    show lb_X8_nextToken_224 _ _ _ _ _ _ _ _ _
    unfold lb_X8_nextToken_224
    have hs : sgA t n q = t q := by rw [sgA, if_pos hqn]
    have out : ¬ isD (t q) → kf_X8_nextToken_299 (nI n) t Φ (nI q) (nI b) T w (nI d) := by
      intro hnd
      have hbq : b < q := by
        rcases hx with e | e
        · omega
        · exact absurd e hnd
      unfold kf_X8_nextToken_299
      exact ⟨fun _ => h q 2 _ hbq hq (Or.inl rfl) ⟨d, hd9, rfl⟩, fun _ => h q 4 _ hbq hq (Or.inr rfl) ⟨d, hd9, rfl⟩⟩
    refine sp_X8_signAt hn (by omega) ?_
    rw [hs]
    refine ⟨fun h1 => out (fun e => e.1 h1), fun h1 => sp_X8_signAt hn (by omega) ?_⟩
    rw [hs]
    refine ⟨fun h2 => out (fun e => e.2 h2), fun h2 => ?_⟩
    rw [show nI q - nI b = nI (q - b) from pk_sub hb, nI_1]
    refine pk_le 4 (q - b) (fun h4 => ?_) (fun h4 => sp_X8_signAt hn (by omega) ?_)
    · exact ih (q + 1) d (by omega) (by omega) (by omega) (fun e => by omega) (by rw [Nat.min_eq_right (by omega)]; rw [Nat.min_eq_right (by omega)] at hd; exact hd)
    · rw [hs]
      obtain ⟨j, j1, j2, e⟩ := isD_nI h1 h2
      rw [e, show (10 : Int32) = nI 10 from rfl, pk_mul, nI_add, show (48 : Int32) = nI 48 from rfl, pk_sub (by omega)]
      refine ih (q + 1) _ (by omega) (by omega) (by omega) (fun e => by omega) ?_
      rw [Nat.min_eq_left (by omega)] at hd ⊢
      have e1 : q + 1 - b = (q - b) + 1 := by omega
      rw [e1, Nat.pow_succ]
      omega
theorem sp_nt109 {t : Nat → Int32} {n b : Nat} {T d : Int32} {Φ : Int32 → Int32 → Int32 → Int64 → Int32 → Prop} (hn : n ≤ 1000) (h : ∀ (q : Nat) (tk : Int32) (w : Int64), b < q → q ≤ n → (tk = 1 ∨ tk = 4) → Φ (nI q) (nI b) tk w d) :
    ∀ (k q : Nat) (w : Int64), k = n - q → b ≤ q → q ≤ n → (q = b → b < n ∧ isL (t b)) → lf_X8_nextToken_109 (nI n) t Φ (k + 1) (nI q) (nI b) T w d := by
  intro k
  induction k with
  | zero =>
    intro q w hk hb hq h0
    have e : q = n := by omega
    subst e
    show lb_X8_nextToken_109 _ _ _ _ _ _ _ _ _
    unfold lb_X8_nextToken_109
    refine sp_X8_signAt hn (by omega) ?_
    rw [sgA, if_neg (by omega)]
    refine ⟨fun _ => ?_, fun h1 => absurd (by decide) h1⟩
    unfold kf_X8_nextToken_188
    have hbq : b < q := Nat.lt_of_le_of_ne hb (fun e => by have := (h0 e.symm).1; omega)
    exact ⟨fun _ => h q 1 _ hbq hq (Or.inl rfl), fun _ => h q 4 _ hbq hq (Or.inr rfl)⟩
  | succ k ih =>
    intro q w hk hb hq h0
    have hqn : q < n := by omega
    have hx : (¬ q = b ∨ isL (t q)) := by
      by_cases e : q = b
      · exact Or.inr (by rw [e]; exact (h0 e).2)
      · exact Or.inl e
    show lb_X8_nextToken_109 _ _ _ _ _ _ _ _ _
    unfold lb_X8_nextToken_109
    have hs : sgA t n q = t q := by rw [sgA, if_pos hqn]
    have out : ¬ isL (t q) → kf_X8_nextToken_188 (nI n) t Φ (nI q) (nI b) T w d := by
      intro hnd
      have hbq : b < q := by
        rcases hx with e | e
        · omega
        · exact absurd e hnd
      unfold kf_X8_nextToken_188
      exact ⟨fun _ => h q 1 _ hbq hq (Or.inl rfl), fun _ => h q 4 _ hbq hq (Or.inr rfl)⟩
    refine sp_X8_signAt hn (by omega) ?_
    rw [hs]
    refine ⟨fun h1 => out (fun e => e.1 h1), fun h1 => sp_X8_signAt hn (by omega) ?_⟩
    rw [hs]
    refine ⟨fun h2 => out (fun e => e.2 h2), fun h2 => ?_⟩
    rw [nI_1]
    exact ⟨fun _ => ih (q + 1) _ (by omega) (by omega) (by omega) (fun e => by omega), fun _ => sp_X8_signAt hn (by omega) (ih (q + 1) _ (by omega) (by omega) (by omega) (fun e => by omega))⟩
theorem sp_nt52 {t : Nat → Int32} {n p q : Nat} {B T d : Int32} {w : Int64} {Φ : Int32 → Int32 → Int32 → Int64 → Int32 → Prop} (hn : n ≤ 1000) (hp : p ≤ q) (hq : q ≤ n) (h : ∀ (b q : Nat) (tk : Int32) (w : Int64) (td : Int32), NT t n p b q tk td → Φ (nI q) (nI b) tk w td) : kf_X8_nextToken_52 (nI n) t Φ (nI q) B T w d := by
  unfold kf_X8_nextToken_52
  constructor
  · intro hne
    have hqn : q < n := Nat.lt_of_le_of_ne hq (fun e => hne (by rw [e]))
    refine ⟨pk_in q 1000 (by omega), ?_⟩
    rw [nI_clamp (by omega)]
    have oth : kf_X8_nextToken_212 (nI n) t Φ (nI q) (nI q) T 0 0 (t q) := by
      unfold kf_X8_nextToken_212
      have o2 : kf_X8_nextToken_322 (nI n) t Φ (nI q) (nI q) T 0 0 (t q) := by
        apply sp_nt322
        · rw [nI_1]; exact h q (q + 1) 3 0 0 ⟨hp, by omega, by omega, Or.inr ⟨by omega, by simp⟩, 0, by omega, rfl⟩
        · rw [nI_1]; exact h q (q + 1) 4 0 0 ⟨hp, by omega, by omega, Or.inr ⟨by omega, by simp⟩, 0, by omega, rfl⟩
      refine ⟨fun _ => o2, fun h1 => ⟨fun _ => o2, fun h2 => ⟨n - q + 1, ?_⟩⟩⟩
      refine sp_nt224 hn (fun q' tk td hb hq' htk hd => h q q' tk 0 td ⟨hp, by omega, hq', Or.inr ⟨hb, by rcases htk with e | e <;> simp [e]⟩, hd⟩) (n - q) q 0 rfl (Nat.le_refl _) hq (fun _ => ⟨hqn, h1, h2⟩) ?_
      rw [Nat.sub_self]; decide
    refine ⟨fun _ => oth, fun h1 => ⟨fun _ => oth, fun h2 => ⟨n - q + 1, ?_⟩⟩⟩
    exact sp_nt109 hn (fun q' tk w hb hq' htk => h q q' tk w 0 ⟨hp, by omega, hq', Or.inr ⟨hb, by rcases htk with e | e <;> simp [e]⟩, 0, by omega, rfl⟩) (n - q) q 0 rfl (Nat.le_refl _) hq (fun _ => ⟨hqn, h1, h2⟩)
  · intro e
    have e' : q = n := (nI_eq (by omega) (by omega)).mp e
    subst e'
    exact h q q 0 0 0 ⟨hp, Nat.le_refl _, Nat.le_refl _, Or.inl ⟨rfl, rfl, rfl⟩, 0, by omega, rfl⟩
theorem sp_X8_nextToken {t : Nat → Int32} {n p : Nat} {B T d : Int32} {w : Int64} {Φ : Int32 → Int32 → Int32 → Int64 → Int32 → Prop} (hn : n ≤ 1000) (hp : p ≤ n) (h : ∀ (b q : Nat) (tk : Int32) (w : Int64) (td : Int32), NT t n p b q tk td → Φ (nI q) (nI b) tk w td) : wp_X8_nextToken (nI n) t (nI p) B T w d Φ := by
  refine ⟨n - p + 1, ?_⟩
  have key : ∀ (k q : Nat), k = n - q → p ≤ q → q ≤ n → lf_X8_nextToken_0 (nI n) t Φ (k + 1) (nI q) B T w d := by
    intro k
    induction k with
    | zero =>
      intro q hk hpq hq
      show lb_X8_nextToken_0 _ _ _ _ _ _ _ _ _
      unfold lb_X8_nextToken_0
      exact ⟨fun _ => sp_nt52 hn hpq hq h, fun h1 => absurd (nI_le (by omega) (by omega)) h1⟩
    | succ k ih =>
      intro q hk hpq hq
      show lb_X8_nextToken_0 _ _ _ _ _ _ _ _ _
      unfold lb_X8_nextToken_0
      have e52 := sp_nt52 (B := B) (T := T) (w := w) (d := d) hn hpq hq h
      refine ⟨fun _ => e52, fun h1 => ⟨pk_in q 1000 (by omega), ?_⟩⟩
      rw [nI_1]
      exact ⟨fun _ => ih (q + 1) (by omega) (by omega) (by omega), fun _ => ⟨pk_in q 1000 (by omega), fun _ => e52, fun _ => ih (q + 1) (by omega) (by omega) (by omega)⟩⟩
  exact key (n - p) p rfl (Nat.le_refl _) hp
