/-- the reference's token: where its signs end (q), where it begins (b), kind, word, number -/
def CR (ts : List Nat) (q b : Nat) (T : Int32) (w : Int64) (td : Int32) (k : Tok) : Prop := k.2.1 = b ∧ T = nI k.1 ∧ k.1 ≤ 4 ∧ q ≤ ts.length ∧ b ≤ q ∧ (k.1 = 0 → q = ts.length ∧ b = q) ∧ (¬ k.1 = 0 → b < ts.length) ∧ (k.1 = 1 → w = eW k.2.2) ∧ (k.1 = 2 → td = eN k.2.2) ∧ (k.1 = 3 → k.2.2 = [sgn ts b]) ∧ (k.1 = 0 → k.2.2 = [])
section NT
variable {ts : List Nat} {t : Nat → Int32} {Φ : Int32 → Int32 → Int32 → Int64 → Int32 → Prop}
theorem TL.at (h : TL ts t) {p : Nat} (hp : p < ts.length) : t p = nI (sgn ts p) := h.2.2 p _ (sgn_get hp)
theorem TL.ok (h : TL ts t) {p : Nat} (hp : p < ts.length) : OKc (sgn ts p) := h.2.1 _ (List.mem_of_getElem? (sgn_get hp))
theorem TL.lt (h : TL ts t) (p : Nat) : sgn ts p < 127 := by
  by_cases hp : p < ts.length
  · exact (h.ok hp).lt
  · unfold sgn
    rw [List.getD_eq_getElem?_getD, List.getElem?_eq_none (by omega)]
    decide
theorem sq_signAt {k : Nat} {Φ : Int32 → Prop} (hT : TL ts t) (hk : k ≤ 1000) (h : Φ (nI (sgn ts k))) : wp_X8_signAt (nI ts.length) t (nI k) Φ := by
  have hn := hT.1
  unfold wp_X8_signAt
  refine pk_le ts.length k (fun h1 => ?_) (fun h1 => ⟨pk_in k 1000 (by omega), ?_⟩)
  · have e : sgn ts k = 0 := by
      unfold sgn
      rw [List.getD_eq_getElem?_getD, List.getElem?_eq_none h1]
      rfl
    rw [e] at h
    exact h
  · rw [nI_clamp (by omega), hT.at h1]
    exact h
/-- (c < lo → A) ∧ (¬ c < lo → (hi < c → B) ∧ (¬ hi < c → C)) -/
theorem rg {c lo hi : Nat} {A B C : Prop} (hc : c < 127) (hl : lo < 200) (hh : hi < 200) (no : ¬ (lo ≤ c ∧ c ≤ hi) → A ∧ B) (ys : lo ≤ c → c ≤ hi → C) : (nI c < nI lo → A) ∧ (¬ nI c < nI lo → (nI hi < nI c → B) ∧ (¬ nI hi < nI c → C)) :=
  pk_lt c lo (fun h => (no (by omega)).1) (fun h => pk_lt hi c (fun h2 => (no (by omega)).2) (fun h2 => ys h h2))
theorem cL_iff {c : Nat} : isLt c = true ↔ 97 ≤ c ∧ c ≤ 122 := by unfold isLt; rw [Bool.and_eq_true, decide_eq_true_eq, decide_eq_true_eq]
theorem cD_iff {c : Nat} : isDg c = true ↔ 48 ≤ c ∧ c ≤ 57 := by unfold isDg; rw [Bool.and_eq_true, decide_eq_true_eq, decide_eq_true_eq]
theorem cB_iff {c : Nat} : cB c = true ↔ c = 10 ∨ c = 32 := by unfold cB; rw [Bool.or_eq_true, beq_iff_eq, beq_iff_eq]
theorem cS_iff {c : Nat} : cS c = true ↔ (40 ≤ c ∧ c ≤ 43) ∨ c = 45 ∨ (59 ≤ c ∧ c ≤ 61) := by
  unfold cS
  rw [Bool.or_eq_true, Bool.or_eq_true, Bool.and_eq_true, Bool.and_eq_true, beq_iff_eq, decide_eq_true_eq, decide_eq_true_eq, decide_eq_true_eq, decide_eq_true_eq]
  exact or_assoc
theorem sgn_end {p : Nat} (hp : ts.length ≤ p) : sgn ts p = 0 := by
  unfold sgn
  rw [List.getD_eq_getElem?_getD, List.getElem?_eq_none hp]
  rfl
theorem eW_push (l : List Nat) (c : Nat) : eW (l ++ [c]) = ((eW l * 27) + (nI c).toInt64) - 96 := by unfold eW; rw [List.foldl_append]; rfl
theorem eN_push (l : List Nat) (c : Nat) : eN (l ++ [c]) = ((eN l * 10) + nI c) - 48 := by unfold eN; rw [List.foldl_append]; rfl
/-- the word's loop -/
theorem sq_nt109 (hT : TL ts t) {p : Nat} (hp : p < ts.length) (hL : isLt (sgn ts p) = true) (h : ∀ w d, CR ts (tkEnd ts p) p (nI (tkAt ts p).1) w d (tkAt ts p) → Φ (nI (tkEnd ts p)) (nI p) (nI (tkAt ts p).1) w d) {T d : Int32} : ∃ n_, lf_X8_nextToken_109 (nI ts.length) t Φ n_ (nI p) (nI p) T 0 d := by
  have hn := hT.1
  have eE : tkEnd ts p = wE isLt ts p := by unfold tkEnd; rw [if_pos hL]
  have hE := tkEnd_gt hp
  rw [eE] at hE h
  have A1 : wE isLt ts p - p ≤ 8 → tkAt ts p = (1, p, cut ts p (wE isLt ts p)) := fun z => by unfold tkAt; rw [if_pos hL, if_pos z]
  have A4 : ¬ wE isLt ts p - p ≤ 8 → tkAt ts p = (4, p, []) := fun z => by unfold tkAt; rw [if_pos hL, if_neg z]
  have ex : ∀ q, p ≤ q → q = wE isLt ts p → kf_X8_nextToken_188 (nI ts.length) t Φ (nI q) (nI p) T (eW (cut ts p (min q (p + 8)))) d := by
    intro q hpq he
    unfold kf_X8_nextToken_188
    rw [pk_sub hpq]
    refine pk_le (q - p) 8 (fun z => ?_) (fun z => ?_)
    · subst he
      rw [A1 z] at h
      rw [Nat.min_eq_left (by omega)]
      exact h _ _ ⟨rfl, rfl, by (try dsimp only); decide, hE.2, Nat.le_of_lt hE.1, fun z => absurd z (by (try dsimp only); decide), fun _ => hp, fun _ => rfl, fun z => absurd z (by (try dsimp only); decide), fun z => absurd z (by (try dsimp only); decide), fun z => absurd z (by (try dsimp only); decide)⟩
    · subst he
      rw [A4 (by omega)] at h
      exact h _ _ ⟨rfl, rfl, by (try dsimp only); decide, hE.2, Nat.le_of_lt hE.1, fun z => absurd z (by (try dsimp only); decide), fun _ => hp, fun z => absurd z (by (try dsimp only); decide), fun z => absurd z (by (try dsimp only); decide), fun z => absurd z (by (try dsimp only); decide), fun z => absurd z (by (try dsimp only); decide)⟩
  have step : ∀ (q : Nat) (back : Int32 → Int32 → Int32 → Int64 → Int32 → Prop), p ≤ q → q ≤ ts.length → wE isLt ts q = wE isLt ts p → (q < ts.length → isLt (sgn ts q) = true → back (nI (q + 1)) (nI p) T (eW (cut ts p (min (q + 1) (p + 8)))) d) → lb_X8_nextToken_109 (nI ts.length) t Φ back (nI q) (nI p) T (eW (cut ts p (min q (p + 8)))) d := by
    intro q back hpq hq he hb
    unfold lb_X8_nextToken_109
    have hno : ¬ isLt (sgn ts q) = true → kf_X8_nextToken_188 (nI ts.length) t Φ (nI q) (nI p) T (eW (cut ts p (min q (p + 8)))) d := fun z => ex q hpq (by rw [← he, wE_no z])
    refine sq_signAt hT (by omega) (pk_lt (sgn ts q) 97 (fun z => hno (fun y => ?_)) (fun z => ?_) rfl rfl (Nat.lt_trans (hT.lt q) (by decide)) (by decide))
    · rw [cL_iff] at y; omega
    refine sq_signAt hT (by omega) (pk_lt 122 (sgn ts q) (fun z2 => hno (fun y => ?_)) (fun z2 => ?_) rfl rfl (by decide) (Nat.lt_trans (hT.lt q) (by decide)))
    · rw [cL_iff] at y; omega
    have hy : isLt (sgn ts q) = true := cL_iff.mpr ⟨z, z2⟩
    have hlt : q < ts.length := by
      rcases Nat.lt_or_ge q ts.length with y | y
      · exact y
      · rw [sgn_end y] at hy; exact absurd hy (by decide)
    have hb2 := hb hlt hy
    rw [pk_sub hpq, nI_1]
    refine pk_le 8 (q - p) (fun z3 => ?_) (fun z3 => ?_)
    · rw [Nat.min_eq_right (by omega)] at hb2 ⊢
      exact hb2
    · rw [Nat.min_eq_left (by omega), cut_sn hpq hlt, eW_push] at hb2
      rw [Nat.min_eq_left (by omega)]
      exact sq_signAt hT (by omega) hb2
  have key : ∀ (k q : Nat), k = ts.length - q → p ≤ q → q ≤ ts.length → wE isLt ts q = wE isLt ts p → lf_X8_nextToken_109 (nI ts.length) t Φ (k + 1) (nI q) (nI p) T (eW (cut ts p (min q (p + 8)))) d := by
    intro k
    induction k with
    | zero =>
      intro q hk hpq hq he
      exact step q _ hpq hq he (fun z => absurd z (by omega))
    | succ k ih =>
      intro q hk hpq hq he
      exact step q _ hpq hq he (fun z y => ih (q + 1) (by omega) (by omega) (by omega) (by rw [← he, wE_yes z y]))
  exact ⟨_, by have := key (ts.length - p) p rfl (Nat.le_refl _) (Nat.le_of_lt hp) rfl; rw [Nat.min_eq_left (by omega), cut_nil] at this; exact this⟩
/-- the number's loop -/
theorem sq_nt224 (hT : TL ts t) {p : Nat} (hp : p < ts.length) (hL : ¬ isLt (sgn ts p) = true) (hD : isDg (sgn ts p) = true) (h : ∀ w d, CR ts (tkEnd ts p) p (nI (tkAt ts p).1) w d (tkAt ts p) → Φ (nI (tkEnd ts p)) (nI p) (nI (tkAt ts p).1) w d) {T : Int32} {w : Int64} : ∃ n_, lf_X8_nextToken_224 (nI ts.length) t Φ n_ (nI p) (nI p) T w 0 := by
  have hn := hT.1
  have eE : tkEnd ts p = wE isDg ts p := by unfold tkEnd; rw [if_neg hL, if_pos hD]
  have hE := tkEnd_gt hp
  rw [eE] at hE h
  have A1 : wE isDg ts p - p ≤ 4 → tkAt ts p = (2, p, cut ts p (wE isDg ts p)) := fun z => by unfold tkAt; rw [if_neg hL, if_pos hD, if_pos z]
  have A4 : ¬ wE isDg ts p - p ≤ 4 → tkAt ts p = (4, p, []) := fun z => by unfold tkAt; rw [if_neg hL, if_pos hD, if_neg z]
  have ex : ∀ q, p ≤ q → q = wE isDg ts p → kf_X8_nextToken_299 (nI ts.length) t Φ (nI q) (nI p) T w (eN (cut ts p (min q (p + 4)))) := by
    intro q hpq he
    unfold kf_X8_nextToken_299
    rw [pk_sub hpq]
    refine pk_le (q - p) 4 (fun z => ?_) (fun z => ?_)
    · subst he
      rw [A1 z] at h
      rw [Nat.min_eq_left (by omega)]
      exact h _ _ ⟨rfl, rfl, by (try dsimp only); decide, hE.2, Nat.le_of_lt hE.1, fun z => absurd z (by (try dsimp only); decide), fun _ => hp, fun z => absurd z (by (try dsimp only); decide), fun _ => rfl, fun z => absurd z (by (try dsimp only); decide), fun z => absurd z (by (try dsimp only); decide)⟩
    · subst he
      rw [A4 (by omega)] at h
      exact h _ _ ⟨rfl, rfl, by (try dsimp only); decide, hE.2, Nat.le_of_lt hE.1, fun z => absurd z (by (try dsimp only); decide), fun _ => hp, fun z => absurd z (by (try dsimp only); decide), fun z => absurd z (by (try dsimp only); decide), fun z => absurd z (by (try dsimp only); decide), fun z => absurd z (by (try dsimp only); decide)⟩
  have step : ∀ (q : Nat) (back : Int32 → Int32 → Int32 → Int64 → Int32 → Prop), p ≤ q → q ≤ ts.length → wE isDg ts q = wE isDg ts p → (q < ts.length → isDg (sgn ts q) = true → back (nI (q + 1)) (nI p) T w (eN (cut ts p (min (q + 1) (p + 4))))) → lb_X8_nextToken_224 (nI ts.length) t Φ back (nI q) (nI p) T w (eN (cut ts p (min q (p + 4)))) := by
    intro q back hpq hq he hb
    unfold lb_X8_nextToken_224
    have hno : ¬ isDg (sgn ts q) = true → kf_X8_nextToken_299 (nI ts.length) t Φ (nI q) (nI p) T w (eN (cut ts p (min q (p + 4)))) := fun z => ex q hpq (by rw [← he, wE_no z])
    refine sq_signAt hT (by omega) (pk_lt (sgn ts q) 48 (fun z => hno (fun y => ?_)) (fun z => ?_) rfl rfl (Nat.lt_trans (hT.lt q) (by decide)) (by decide))
    · rw [cD_iff] at y; omega
    refine sq_signAt hT (by omega) (pk_lt 57 (sgn ts q) (fun z2 => hno (fun y => ?_)) (fun z2 => ?_) rfl rfl (by decide) (Nat.lt_trans (hT.lt q) (by decide)))
    · rw [cD_iff] at y; omega
    have hy : isDg (sgn ts q) = true := cD_iff.mpr ⟨z, z2⟩
    have hlt : q < ts.length := by
      rcases Nat.lt_or_ge q ts.length with y | y
      · exact y
      · rw [sgn_end y] at hy; exact absurd hy (by decide)
    have hb2 := hb hlt hy
    rw [pk_sub hpq, nI_1]
    refine pk_le 4 (q - p) (fun z3 => ?_) (fun z3 => ?_)
    · rw [Nat.min_eq_right (by omega)] at hb2 ⊢
      exact hb2
    · rw [Nat.min_eq_left (by omega), cut_sn hpq hlt, eN_push] at hb2
      rw [Nat.min_eq_left (by omega)]
      exact sq_signAt hT (by omega) hb2
  have key : ∀ (k q : Nat), k = ts.length - q → p ≤ q → q ≤ ts.length → wE isDg ts q = wE isDg ts p → lf_X8_nextToken_224 (nI ts.length) t Φ (k + 1) (nI q) (nI p) T w (eN (cut ts p (min q (p + 4)))) := by
    intro k
    induction k with
    | zero =>
      intro q hk hpq hq he
      exact step q _ hpq hq he (fun z => absurd z (by omega))
    | succ k ih =>
      intro q hk hpq hq he
      exact step q _ hpq hq he (fun z y => ih (q + 1) (by omega) (by omega) (by omega) (by rw [← he, wE_yes z y]))
  exact ⟨_, by have := key (ts.length - p) p rfl (Nat.le_refl _) (Nat.le_of_lt hp) rfl; rw [Nat.min_eq_left (by omega), cut_nil] at this; exact this⟩
/-- at a token's first sign, or at the end -/
theorem sq_nt52 (hT : TL ts t) {p : Nat} (hp : p ≤ ts.length) (hB : p < ts.length → ¬ cB (sgn ts p) = true) (h : ∀ (k : Tok) (r : List Tok) (q b : Nat) (T : Int32) (w : Int64) (d : Int32), tokL ts p = k :: r → (¬ k.1 = 0 → r = tokL ts q) → (k.1 = 0 → r = []) → CR ts q b T w d k → Φ (nI q) (nI b) T w d) {B T d : Int32} {w : Int64} : kf_X8_nextToken_52 (nI ts.length) t Φ (nI p) B T w d := by
  have hn := hT.1
  unfold kf_X8_nextToken_52
  refine ⟨fun z => ?_, fun z => ?_⟩
  · have hlt : p < ts.length := Nat.lt_of_le_of_ne hp (fun e => z (by rw [e]))
    have hc := hT.lt p
    have hk := tokL_tok hlt (hB hlt)
    have kk : ∀ w d, CR ts (tkEnd ts p) p (nI (tkAt ts p).1) w d (tkAt ts p) → Φ (nI (tkEnd ts p)) (nI p) (nI (tkAt ts p).1) w d := fun w d hC => by
      refine h _ _ _ _ _ _ _ hk (fun _ => rfl) (fun z => ?_) hC
      exact absurd (hC.2.2.2.2.2.1 z) (by have := hC.2.2.2.2.2.1 z; intro y; have := tkEnd_gt hlt; omega)
    rw [nI_clamp (by omega), hT.at hlt]
    refine ⟨pk_in p 1000 (by omega), ?_⟩
    have h212 : ¬ isLt (sgn ts p) = true → kf_X8_nextToken_212 (nI ts.length) t Φ (nI p) (nI p) T 0 0 (nI (sgn ts p)) := by
      intro hL
      unfold kf_X8_nextToken_212
      have h322 : ¬ isDg (sgn ts p) = true → kf_X8_nextToken_322 (nI ts.length) t Φ (nI p) (nI p) T 0 0 (nI (sgn ts p)) := by
        intro hD
        have eE : tkEnd ts p = p + 1 := by unfold tkEnd; rw [if_neg hL, if_neg hD]
        have y3 : cS (sgn ts p) = true → Φ (nI (p + 1)) (nI p) 3 0 0 := fun z => by
          have e : tkAt ts p = (3, p, [sgn ts p]) := by unfold tkAt; rw [if_neg hL, if_neg hD, if_pos z]
          rw [e, eE] at kk
          exact kk 0 0 ⟨rfl, rfl, by (try dsimp only); decide, hlt, Nat.le_succ _, fun z => absurd z (by (try dsimp only); decide), fun _ => hlt, fun z => absurd z (by (try dsimp only); decide), fun z => absurd z (by (try dsimp only); decide), fun _ => rfl, fun z => absurd z (by (try dsimp only); decide)⟩
        have y4 : ¬ cS (sgn ts p) = true → Φ (nI (p + 1)) (nI p) 4 0 0 := fun z => by
          have e : tkAt ts p = (4, p, []) := by unfold tkAt; rw [if_neg hL, if_neg hD, if_neg z]
          rw [e, eE] at kk
          exact kk 0 0 ⟨rfl, rfl, by (try dsimp only); decide, hlt, Nat.le_succ _, fun z => absurd z (by (try dsimp only); decide), fun _ => hlt, fun z => absurd z (by (try dsimp only); decide), fun z => absurd z (by (try dsimp only); decide), fun z => absurd z (by (try dsimp only); decide), fun z => absurd z (by (try dsimp only); decide)⟩
        have h345 : ¬ (40 ≤ sgn ts p ∧ sgn ts p ≤ 43) → kf_X8_nextToken_345 (nI ts.length) t Φ (nI (p + 1)) (nI p) T 0 0 (nI (sgn ts p)) := by
          intro hz
          unfold kf_X8_nextToken_345
          refine pk_eq (sgn ts p) 45 (fun e => y3 (cS_iff.mpr (Or.inr (Or.inl e)))) (fun e => ?_) rfl rfl (by omega) (by decide)
          refine pk_lt (sgn ts p) 59 (fun e2 => y4 (fun y => ?_)) (fun e2 => ?_) rfl rfl (by omega) (by decide)
          · rw [cS_iff] at y; omega
          refine pk_lt 61 (sgn ts p) (fun e3 => y4 (fun y => ?_)) (fun e3 => y3 (cS_iff.mpr (Or.inr (Or.inr ⟨e2, e3⟩)))) rfl rfl (by decide) (by omega)
          rw [cS_iff] at y; omega
        unfold kf_X8_nextToken_322
        rw [nI_1]
        refine pk_lt (sgn ts p) 40 (fun e => h345 (by omega)) (fun e => ?_) rfl rfl (by omega) (by decide)
        exact pk_le (sgn ts p) 43 (fun e2 => y3 (cS_iff.mpr (Or.inl ⟨e, e2⟩))) (fun e2 => h345 (by omega)) rfl rfl (by omega) (by decide)
      refine pk_lt (sgn ts p) 48 (fun e => h322 (fun y => ?_)) (fun e => ?_) rfl rfl (by omega) (by decide)
      · rw [cD_iff] at y; omega
      refine pk_lt 57 (sgn ts p) (fun e2 => h322 (fun y => ?_)) (fun e2 => sq_nt224 hT hlt hL (cD_iff.mpr ⟨e, e2⟩) kk) rfl rfl (by decide) (by omega)
      rw [cD_iff] at y; omega
    refine pk_lt (sgn ts p) 97 (fun e => h212 (fun y => ?_)) (fun e => ?_) rfl rfl (by omega) (by decide)
    · rw [cL_iff] at y; omega
    refine pk_lt 122 (sgn ts p) (fun e2 => h212 (fun y => ?_)) (fun e2 => sq_nt109 hT hlt (cL_iff.mpr ⟨e, e2⟩) kk) rfl rfl (by decide) (by omega)
    rw [cL_iff] at y; omega
  · have e : p = ts.length := (nI_eq (by omega) (by omega)).mp z
    subst e
    exact h _ _ _ _ _ _ _ (tokL_end (Nat.le_refl _)) (fun z => absurd rfl z) (fun _ => rfl) ⟨rfl, rfl, by (try dsimp only); decide, Nat.le_refl _, Nat.le_refl _, fun _ => ⟨rfl, rfl⟩, fun z => absurd rfl z, fun z => absurd z (by (try dsimp only); decide), fun z => absurd z (by (try dsimp only); decide), fun z => absurd z (by (try dsimp only); decide), fun _ => rfl⟩
theorem sq_X8_nextToken (hT : TL ts t) {p : Nat} (hp : p ≤ ts.length) (h : ∀ (k : Tok) (r : List Tok) (q b : Nat) (T : Int32) (w : Int64) (d : Int32), tokL ts p = k :: r → (¬ k.1 = 0 → r = tokL ts q) → (k.1 = 0 → r = []) → CR ts q b T w d k → Φ (nI q) (nI b) T w d) {B T d : Int32} {w : Int64} : wp_X8_nextToken (nI ts.length) t (nI p) B T w d Φ := by
  have hn := hT.1
  refine ⟨ts.length - p + 1, ?_⟩
  have key : ∀ (k q : Nat), k = ts.length - q → q ≤ ts.length → tokL ts q = tokL ts p → lf_X8_nextToken_0 (nI ts.length) t Φ (k + 1) (nI q) B T w d := by
    intro k
    induction k with
    | zero =>
      intro q hk hq he
      show lb_X8_nextToken_0 _ _ _ _ _ _ _ _ _
      unfold lb_X8_nextToken_0
      exact ⟨fun _ => sq_nt52 hT hq (fun z => absurd z (by omega)) (by rw [he]; exact h), fun h1 => absurd (nI_le (by omega) (by omega)) h1⟩
    | succ k ih =>
      intro q hk hq he
      show lb_X8_nextToken_0 _ _ _ _ _ _ _ _ _
      unfold lb_X8_nextToken_0
      have hlt : q < ts.length := by omega
      have hc := hT.lt q
      refine ⟨fun z => absurd z (nI_ge hlt (by omega)), fun _ => ⟨pk_in q 1000 (by omega), ?_⟩⟩
      rw [nI_1, nI_clamp (by omega), hT.at hlt]
      have bk : cB (sgn ts q) = true → lf_X8_nextToken_0 (nI ts.length) t Φ (k + 1) (nI (q + 1)) B T w d := fun z => ih (q + 1) (by omega) (by omega) (by rw [← he, tokL_blank hlt z])
      refine pk_eq (sgn ts q) 32 (fun e => bk (cB_iff.mpr (Or.inr e))) (fun e => ⟨pk_in q 1000 (by omega), ?_⟩) rfl rfl (by omega) (by decide)
      have h10 := pk_eq (A := lf_X8_nextToken_0 (nI ts.length) t Φ (k + 1) (nI (q + 1)) B T w d) (B := kf_X8_nextToken_52 (nI ts.length) t Φ (nI q) B T w d) (sgn ts q) 10 (fun e2 => bk (cB_iff.mpr (Or.inl e2))) (fun e2 => sq_nt52 hT hq (fun _ y => by rw [cB_iff] at y; omega) (by rw [he]; exact h)) rfl rfl (by omega) (by decide)
      exact ⟨h10.2, h10.1⟩
  exact key (ts.length - p) p rfl hp rfl
end NT
