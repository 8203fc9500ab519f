theorem wl_all (f : Nat → Bool) (ts : List Nat) : ∀ m p q, p ≤ q → q < wl f ts m p → f (sgn ts q) = true := by
  intro m
  induction m with
  | zero => intro p q h1 h2; exact absurd h2 (Nat.not_lt.mpr h1)
  | succ m ih =>
    intro p q h1 h2
    have h2 : q < (if f (sgn ts p) then wl f ts m (p + 1) else p) := h2
    by_cases h : f (sgn ts p) = true
    · rw [if_pos h] at h2
      by_cases e : q = p
      · rw [e]; exact h
      · exact ih (p + 1) q (by omega) h2
    · rw [if_neg h] at h2
      omega
theorem wE_all {f : Nat → Bool} {ts : List Nat} {p q : Nat} (h1 : p ≤ q) (h2 : q < wE f ts p) : f (sgn ts q) = true := wl_all f ts _ p q h1 h2
theorem wl_stop (f : Nat → Bool) (ts : List Nat) : ∀ m p, ts.length - p ≤ m → wl f ts m p < ts.length → ¬ f (sgn ts (wl f ts m p)) = true := by
  intro m
  induction m with
  | zero =>
    intro p h1 h2
    have h2 : p < ts.length := h2
    omega
  | succ m ih =>
    intro p h1 h2
    show ¬ f (sgn ts (if f (sgn ts p) then wl f ts m (p + 1) else p)) = true
    have h2 : (if f (sgn ts p) then wl f ts m (p + 1) else p) < ts.length := h2
    by_cases h : f (sgn ts p) = true
    · rw [if_pos h] at h2 ⊢
      exact ih (p + 1) (by omega) h2
    · rw [if_neg h]
      exact h
theorem wE_stop {f : Nat → Bool} {ts : List Nat} {p : Nat} (_ : p ≤ ts.length) (h : wE f ts p < ts.length) : ¬ f (sgn ts (wE f ts p)) = true := wl_stop f ts _ p (Nat.le_refl _) h
theorem cut_mem {ts : List Nat} {p q c : Nat} (hq : q ≤ ts.length) (h : c ∈ cut ts p q) : ∃ j, p ≤ j ∧ j < q ∧ c = sgn ts j := by
  obtain ⟨i, hi, e⟩ := List.getElem_of_mem h
  have hl := cut_len (p := p) hq
  have hi2 : i < q - p := by omega
  refine ⟨p + i, by omega, by omega, ?_⟩
  have h9 : (cut ts p q)[i]? = some c := by rw [List.getElem?_eq_getElem hi, e]
  unfold cut at h9
  rw [List.getElem?_take_of_lt hi2, List.getElem?_drop, sgn_get (by omega)] at h9
  exact (Option.some.inj h9).symm
theorem eB_push (l : List Nat) (c : Nat) : eB (l ++ [c]) = (eB l <<< ((8 : Int32).toInt64 &&& 63)) ||| (nI c).toInt64 := by unfold eB; rw [List.foldl_append]; rfl
theorem eM_push (l : List Nat) (c : Nat) : eM (l ++ [c]) = (eM l * 10) + ((nI c - 48).toInt64) := by unfold eM; rw [List.foldl_append]; rfl
section SY
variable {ts : List Nat} {sg : Nat → Int32} {P : List Tok} {tk : Nat → Nat} {pl : Nat → Int32} {vl : Nat → Int64}
theorem sq_X5_addWord {a : Nat} {Φ : PTk} (hT : TL ts sg) (ha : a < ts.length) (hL : isLt (sgn ts a) = true) (hc : P.length < 1001) (h : AC P tk pl vl) (hΦ : ∀ tk' pl' vl', AC (P ++ [tkAt ts a]) tk' pl' vl' → Φ (nI (P ++ [tkAt ts a]).length) tk' pl' vl') : wp_X5_addWord sg (nI a) (nI (wE isLt ts a)) (nI P.length) tk pl vl Φ := by
  have hn := hT.1
  have hE : a < wE isLt ts a ∧ wE isLt ts a ≤ ts.length := by
    rw [wE_yes ha hL]
    exact ⟨wE_ge, wE_le ha⟩
  have key : ∀ (m q : Nat), m = wE isLt ts a - q → a ≤ q → q ≤ wE isLt ts a → lf_X5_addWord_5 sg (nI a) (nI (wE isLt ts a)) Φ (m + 1) (nI P.length) tk pl vl (eB (cut ts a q)) (nI q) := by
    intro m
    induction m with
    | zero =>
      intro q hm hq1 hq2
      have e : q = wE isLt ts a := by omega
      show lb_X5_addWord_5 _ _ _ _ _ _ _ _ _ _ _
      unfold lb_X5_addWord_5
      rw [e, pk_sub (Nat.le_of_lt hE.1)]
      refine ⟨fun _ => pk_le (wE isLt ts a - a) 8 (fun z => ?_) (fun z => ?_), fun z => absurd (nI_le (Nat.le_refl _) (by omega)) z⟩
      · have ek : tkAt ts a = (1, a, cut ts a (wE isLt ts a)) := by unfold tkAt; rw [if_pos hL, if_pos z]
        have hw : WD (cut ts a (wE isLt ts a)) := ⟨by rw [cut_len hE.2]; exact z, fun c hc => by
          obtain ⟨j, h1, h2, h3⟩ := cut_mem hE.2 hc
          rw [h3]
          exact cL_iff.mp (wE_all h1 h2)⟩
        have hne : cut ts a (wE isLt ts a) ≠ [] := by
          intro e
          have := cut_len (p := a) hE.2
          rw [e] at this
          have : 0 = wE isLt ts a - a := this
          omega
        rw [ek] at hΦ
        exact sq_X5_spelledW hw hne (sq_X5_add ⟨rfl, rfl, fun _ => rfl, fun z => absurd z (by (try dsimp only); decide)⟩ hc h hΦ)
      · have ek : tkAt ts a = (4, a, []) := by unfold tkAt; rw [if_pos hL, if_neg (by omega)]
        rw [ek] at hΦ
        exact sq_X5_add ⟨rfl, rfl, fun z => absurd z (by (try dsimp only); decide), fun z => absurd z (by (try dsimp only); decide)⟩ hc h hΦ
    | succ m ih =>
      intro q hm hq1 hq2
      show lb_X5_addWord_5 _ _ _ _ _ _ _ _ _ _ _
      unfold lb_X5_addWord_5
      have hlt : q < ts.length := by omega
      have h9 := ih (q + 1) (by omega) (by omega) (by omega)
      rw [cut_sn hq1 hlt, eB_push] at h9
      rw [nI_1, nI_clamp (n := q) (by omega), hT.at hlt]
      exact ⟨fun z => absurd z (nI_ge (by omega) (by omega)), fun _ => ⟨pk_in q 1000 (by omega), h9⟩⟩
  have := key (wE isLt ts a - a) a rfl (Nat.le_refl _) (Nat.le_of_lt hE.1)
  rw [cut_nil] at this
  exact ⟨_, this⟩
theorem sq_X5_addNumber {a : Nat} {Φ : PTk} (hT : TL ts sg) (ha : a < ts.length) (hL : ¬ isLt (sgn ts a) = true) (hD : isDg (sgn ts a) = true) (hc : P.length < 1001) (h : AC P tk pl vl) (hΦ : ∀ tk' pl' vl', AC (P ++ [tkAt ts a]) tk' pl' vl' → Φ (nI (P ++ [tkAt ts a]).length) tk' pl' vl') : wp_X5_addNumber sg (nI a) (nI (wE isDg ts a)) (nI P.length) tk pl vl Φ := by
  have hn := hT.1
  have hE : a < wE isDg ts a ∧ wE isDg ts a ≤ ts.length := by
    rw [wE_yes ha hD]
    exact ⟨wE_ge, wE_le ha⟩
  have key : ∀ (m q : Nat), m = wE isDg ts a - q → a ≤ q → q ≤ wE isDg ts a → lf_X5_addNumber_5 sg (nI a) (nI (wE isDg ts a)) Φ (m + 1) (nI P.length) tk pl vl (eM (cut ts a q)) (nI q) := by
    intro m
    induction m with
    | zero =>
      intro q hm hq1 hq2
      have e : q = wE isDg ts a := by omega
      show lb_X5_addNumber_5 _ _ _ _ _ _ _ _ _ _ _
      unfold lb_X5_addNumber_5
      rw [e, pk_sub (Nat.le_of_lt hE.1)]
      refine ⟨fun _ => pk_le (wE isDg ts a - a) 4 (fun z => ?_) (fun z => ?_), fun z => absurd (nI_le (Nat.le_refl _) (by omega)) z⟩
      · have ek : tkAt ts a = (2, a, cut ts a (wE isDg ts a)) := by unfold tkAt; rw [if_neg hL, if_pos hD, if_pos z]
        rw [ek] at hΦ
        exact sq_X5_add ⟨rfl, rfl, fun z => absurd z (by (try dsimp only); decide), fun _ => rfl⟩ hc h hΦ
      · have ek : tkAt ts a = (4, a, []) := by unfold tkAt; rw [if_neg hL, if_pos hD, if_neg (by omega)]
        rw [ek] at hΦ
        exact sq_X5_add ⟨rfl, rfl, fun z => absurd z (by (try dsimp only); decide), fun z => absurd z (by (try dsimp only); decide)⟩ hc h hΦ
    | succ m ih =>
      intro q hm hq1 hq2
      show lb_X5_addNumber_5 _ _ _ _ _ _ _ _ _ _ _
      unfold lb_X5_addNumber_5
      have hlt : q < ts.length := by omega
      have h9 := ih (q + 1) (by omega) (by omega) (by omega)
      rw [cut_sn hq1 hlt, eM_push] at h9
      rw [nI_1, nI_clamp (n := q) (by omega), hT.at hlt]
      exact ⟨fun z => absurd z (nI_ge (by omega) (by omega)), fun _ => ⟨pk_in q 1000 (by omega), h9⟩⟩
  have := key (wE isDg ts a - a) a rfl (Nat.le_refl _) (Nat.le_of_lt hE.1)
  rw [cut_nil] at this
  exact ⟨_, this⟩
/-- the class's kind of a sign -/
def kd (c : Nat) : Nat := if isLt c then 97 else if isDg c then 48 else 0
theorem sq_X5_kindOf {c : Nat} {Φ : Int32 → Prop} (hc : c < 127) (h : Φ (nI (kd c))) : wp_X5_kindOf (nI c) Φ := by
  unfold wp_X5_kindOf
  have k : ¬ isLt c = true → kf_X5_kindOf_15 (nI c) Φ := by
    intro hL
    unfold kf_X5_kindOf_15
    have h0 : ¬ isDg c = true → Φ 0 := fun hD => by
      unfold kd at h
      rw [if_neg hL, if_neg hD] at h
      exact h
    refine pk_lt c 48 (fun z => h0 (fun y => ?_)) (fun z => pk_lt 57 c (fun z2 => h0 (fun y => ?_)) (fun z2 => ?_) rfl rfl (by decide) (by omega)) rfl rfl (by omega) (by decide)
    · rw [cD_iff] at y; omega
    · rw [cD_iff] at y; omega
    · unfold kd at h
      rw [if_neg hL, if_pos (cD_iff.mpr ⟨z, z2⟩)] at h
      exact h
  refine pk_lt c 97 (fun z => k (fun y => ?_)) (fun z => pk_lt 122 c (fun z2 => k (fun y => ?_)) (fun z2 => ?_) rfl rfl (by decide) (by omega)) rfl rfl (by omega) (by decide)
  · rw [cL_iff] at y; omega
  · rw [cL_iff] at y; omega
  · unfold kd at h
    rw [if_pos (cL_iff.mpr ⟨z, z2⟩)] at h
    exact h
theorem kd_cases (c : Nat) : (isLt c = true ∧ kd c = 97) ∨ (¬ isLt c = true ∧ isDg c = true ∧ kd c = 48) ∨ (¬ isLt c = true ∧ ¬ isDg c = true ∧ kd c = 0) := by
  unfold kd
  by_cases hL : isLt c = true
  · exact Or.inl ⟨hL, if_pos hL⟩
  · by_cases hD : isDg c = true
    · exact Or.inr (Or.inl ⟨hL, hD, by rw [if_neg hL, if_pos hD]⟩)
    · exact Or.inr (Or.inr ⟨hL, hD, by rw [if_neg hL, if_neg hD]⟩)
theorem sq_X5_splitOne {a : Nat} {Φ : Int32 → PTk} (hT : TL ts sg) (ha : a < ts.length) (hB : ¬ cB (sgn ts a) = true) (hc : P.length < 1001) (h : AC P tk pl vl) (hΦ : ∀ tk' pl' vl', AC (P ++ [tkAt ts a]) tk' pl' vl' → Φ (nI (tkEnd ts a)) (nI (P ++ [tkAt ts a]).length) tk' pl' vl') : wp_X5_splitOne (nI ts.length) sg (nI a) (nI P.length) tk pl vl Φ := by
  have hn := hT.1
  have hk := hT.lt a
  unfold wp_X5_splitOne
  rw [nI_clamp (n := a) (by omega), hT.at ha]
  refine ⟨pk_in a 1000 (by omega), sq_X5_kindOf hk ?_⟩
  have out : kf_X5_splitOne_53 (nI ts.length) sg (nI a) Φ (nI P.length) tk pl vl (nI (kd (sgn ts a))) (nI (tkEnd ts a)) := by
    unfold kf_X5_splitOne_53
    rcases kd_cases (sgn ts a) with ⟨hL, e⟩ | ⟨hL, hD, e⟩ | ⟨hL, hD, e⟩
    · rw [e]
      have eE : tkEnd ts a = wE isLt ts a := by unfold tkEnd; rw [if_pos hL]
      rw [eE] at hΦ ⊢
      exact ⟨fun z => absurd rfl z, fun _ => sq_X5_addWord hT ha hL hc h hΦ⟩
    · rw [e]
      have eE : tkEnd ts a = wE isDg ts a := by unfold tkEnd; rw [if_neg hL, if_pos hD]
      rw [eE] at hΦ ⊢
      exact ⟨fun _ => ⟨fun z => absurd rfl z, fun _ => sq_X5_addNumber hT ha hL hD hc h hΦ⟩, fun z => absurd z (by (try dsimp only); decide)⟩
    · rw [e]
      rw [nI_clamp (n := a) (by omega), hT.at ha]
      have h0 : ¬ sgn ts a = 0 := by
        intro y
        rcases hT.ok ha with q | q <;> omega
      have hk2 : MT (tkAt ts a) (sgI (sgn ts a)) (nI a) 0 := by
        by_cases hS : cS (sgn ts a) = true
        · have ek : tkAt ts a = (3, a, [sgn ts a]) := by unfold tkAt; rw [if_neg hL, if_neg hD, if_pos hS]
          rw [ek]
          exact ⟨rfl, rfl, fun z => absurd z (by (try dsimp only); decide), fun z => absurd z (by (try dsimp only); decide)⟩
        · have ek : tkAt ts a = (4, a, []) := by unfold tkAt; rw [if_neg hL, if_neg hD, if_neg hS]
          rw [ek]
          refine ⟨?_, rfl, fun z => absurd z (by (try dsimp only); decide), fun z => absurd z (by (try dsimp only); decide)⟩
          show sgI (sgn ts a) = 1
          rw [cS_iff] at hS
          unfold sgI
          rw [if_neg (by omega), if_neg (by omega), if_neg (by omega), if_neg (by omega), if_neg (by omega), if_neg (by omega), if_neg (by omega), if_neg (by omega)]
      exact ⟨fun _ => ⟨fun _ => ⟨pk_in a 1000 (by omega), sq_X5_spelledS hk h0 (sq_X5_add hk2 hc h hΦ)⟩, fun z => absurd z (by (try dsimp only); decide)⟩, fun z => absurd z (by (try dsimp only); decide)⟩
  have hEnd := tkEnd_gt ha
  have key : ∀ (m e : Nat), m = ts.length - e → a < e → e ≤ tkEnd ts a → (∀ q, a < q → q < e → kd (sgn ts q) = kd (sgn ts a)) → lf_X5_splitOne_17 (nI ts.length) sg (nI a) Φ (m + 1) (nI P.length) tk pl vl (nI (kd (sgn ts a))) (nI e) (nI e) := by
    intro m
    induction m with
    | zero =>
      intro e hm h1 h2 h3
      show lb_X5_splitOne_17 _ _ _ _ _ _ _ _ _ _ _ _
      unfold lb_X5_splitOne_17
      have ee : e = tkEnd ts a := by omega
      rw [ee]
      exact ⟨fun _ => out, fun z => absurd (nI_le (by omega) (by omega)) z⟩
    | succ m ih =>
      intro e hm h1 h2 h3
      show lb_X5_splitOne_17 _ _ _ _ _ _ _ _ _ _ _ _
      unfold lb_X5_splitOne_17
      have hlt : e < ts.length := by omega
      have he := hT.lt e
      -- the token ends at e just where the kind changes
      have stop : (kd (sgn ts a) = 0 ∨ ¬ kd (sgn ts e) = kd (sgn ts a)) → e = tkEnd ts a := by
        intro hz
        rcases kd_cases (sgn ts a) with ⟨hL, ek⟩ | ⟨hL, hD, ek⟩ | ⟨hL, hD, ek⟩
        · have eE : tkEnd ts a = wE isLt ts a := by unfold tkEnd; rw [if_pos hL]
          rcases Nat.lt_or_ge e (tkEnd ts a) with y | y
          · rw [eE] at y
            have y2 := wE_all (Nat.le_of_lt h1) y
            rcases hz with z | z
            · rw [ek] at z; exact absurd z (by (try dsimp only); decide)
            · exact absurd (by rw [ek]; exact if_pos y2) z
          · omega
        · have eE : tkEnd ts a = wE isDg ts a := by unfold tkEnd; rw [if_neg hL, if_pos hD]
          rcases Nat.lt_or_ge e (tkEnd ts a) with y | y
          · rw [eE] at y
            have y2 := wE_all (Nat.le_of_lt h1) y
            have y3 : ¬ isLt (sgn ts e) = true := by
              intro q
              rw [cL_iff] at q
              rw [cD_iff] at y2
              omega
            rcases hz with z | z
            · rw [ek] at z; exact absurd z (by (try dsimp only); decide)
            · exact absurd (by rw [ek]; unfold kd; rw [if_neg y3, if_pos y2]) z
          · omega
        · have eE : tkEnd ts a = a + 1 := by unfold tkEnd; rw [if_neg hL, if_neg hD]
          omega
      refine ⟨fun z => absurd z (nI_ge hlt (by omega)), fun _ => ⟨fun z => ?_, fun z => ⟨pk_in e 1000 (by omega), ?_⟩⟩⟩
      · have z2 : kd (sgn ts a) = 0 := by
          rcases kd_cases (sgn ts a) with ⟨_, ek⟩ | ⟨_, _, ek⟩ | ⟨_, _, ek⟩
          · rw [ek] at z; exact absurd z (by (try dsimp only); decide)
          · rw [ek] at z; exact absurd z (by (try dsimp only); decide)
          · exact ek
        rw [stop (Or.inl z2)]
        exact out
      · rw [nI_clamp (n := e) (by omega), hT.at hlt]
        refine sq_X5_kindOf he ⟨fun y => ?_, fun y => ?_⟩
        · rw [stop (Or.inr (fun q => y (by rw [q])))]
          exact out
        · have hkd : ∀ c, kd c < 200 := fun c => by
            rcases kd_cases c with ⟨_, ek⟩ | ⟨_, _, ek⟩ | ⟨_, _, ek⟩ <;> rw [ek] <;> decide
          have y2 : kd (sgn ts e) = kd (sgn ts a) := (nI_eq (Nat.lt_trans (hkd _) (by decide)) (Nat.lt_trans (hkd _) (by decide))).mp y
          have hne : ¬ kd (sgn ts a) = 0 := fun q => z (by rw [q]; rfl)
          rw [nI_1]
          refine ih (e + 1) (by omega) (by omega) ?_ (fun q h4 h5 => ?_)
          · -- the kind goes on: the token is longer
            rcases Nat.lt_or_ge e (tkEnd ts a) with q | q
            · exact q
            · exfalso
              have e9 : e = tkEnd ts a := by omega
              rcases kd_cases (sgn ts a) with ⟨hL, ek⟩ | ⟨hL, hD, ek⟩ | ⟨hL, hD, ek⟩
              · have eE : tkEnd ts a = wE isLt ts a := by unfold tkEnd; rw [if_pos hL]
                have hy : isLt (sgn ts e) = true := by
                  rcases kd_cases (sgn ts e) with ⟨g, _⟩ | ⟨_, _, g⟩ | ⟨_, _, g⟩
                  · exact g
                  · rw [y2, ek] at g; exact absurd g (by (try dsimp only); decide)
                  · rw [y2, ek] at g; exact absurd g (by (try dsimp only); decide)
                have := wE_stop (f := isLt) (ts := ts) (p := a) (Nat.le_of_lt ha) (by rw [← eE, ← e9]; exact hlt)
                rw [← eE, ← e9] at this
                exact this hy
              · have eE : tkEnd ts a = wE isDg ts a := by unfold tkEnd; rw [if_neg hL, if_pos hD]
                have hy : isDg (sgn ts e) = true := by
                  rcases kd_cases (sgn ts e) with ⟨_, g⟩ | ⟨_, g, _⟩ | ⟨_, _, g⟩
                  · rw [y2, ek] at g; exact absurd g (by (try dsimp only); decide)
                  · exact g
                  · rw [y2, ek] at g; exact absurd g (by (try dsimp only); decide)
                have := wE_stop (f := isDg) (ts := ts) (p := a) (Nat.le_of_lt ha) (by rw [← eE, ← e9]; exact hlt)
                rw [← eE, ← e9] at this
                exact this hy
              · exact hne ek
          · by_cases e8 : q = e
            · rw [e8]; exact y2
            · exact h3 q h4 (by omega)
  rw [nI_1]
  exact ⟨_, key (ts.length - (a + 1)) (a + 1) rfl (by omega) hEnd.1 (fun q h1 h2 => absurd h2 (by omega))⟩
end SY
