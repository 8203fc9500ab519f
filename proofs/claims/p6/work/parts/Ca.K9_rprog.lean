/-- n numbers were moved from the f-th to the g-th place -/
def MVd (n f g : Nat) (r r' : Nat → Int32) : Prop := (∀ k, k < n → r' (n * g + k) = r (n * f + k)) ∧ ∀ j, (j < n * g ∨ n * g + n ≤ j) → r' j = r j
def MVs (f g : Nat) (r r' : Nat → Int32) : Prop := (∀ k, k < 32 → r' (32 * g + k) = r (32 * f + k) + 1000 * (nI g - nI f)) ∧ ∀ j, (j < 32 * g ∨ 32 * g + 32 ≤ j) → r' j = r j
theorem MVd.keep {n f g p i : Nat} {r r' : Nat → Int32} (h : MVd n f g r r') (hp : p ≠ g) (hi : i < n) : r' (n * p + i) = r (n * p + i) := by
  apply h.2
  rcases Nat.lt_or_gt_of_ne hp with hl | hl
  · have := mul_ap (n := n) hl; omega
  · have := mul_ap (n := n) hl; omega
theorem MVs.keep {f g p i : Nat} {r r' : Nat → Int32} (h : MVs f g r r') (hp : p ≠ g) (hi : i < 32) : r' (32 * p + i) = r (32 * p + i) := by
  apply h.2
  omega
theorem sq8_moves {rl n f g : Nat} {r : Nat → Int32} {Φ : (Nat → Int32) → Prop} (hr : n * 6 ≤ rl) (hrl : rl ≤ 6000) (hf : f < 6) (hg : g < 6) (hne : ¬ f = g) (hΦ : ∀ r' : Nat → Int32, MVd n f g r r' → Φ r') : wl_X8_moves rl (nI n) (nI f) (nI g) r Φ := by
  have bf := mul_lt6 (n := n) hf
  have bg := mul_lt6 (n := n) hg
  have key : ∀ (m k : Nat) (r' : Nat → Int32), k ≤ n → (∀ j, j < k → r' (n * g + j) = r (n * f + j)) → (∀ j, (j < n * g ∨ n * g + k ≤ j) → r' j = r j) → ll_X8_moves_3 rl (nI n) (nI f) (nI g) Φ m r' (nI k) := by
    intro m
    induction m with
    | zero => intros; trivial
    | succ m ih =>
      intro k r' hk h1 h2
      show bl_X8_moves_3 _ _ _ _ _ _ _ _
      unfold bl_X8_moves_3
      rw [pk_mul, pk_mul, nI_add, nI_add, nI_leI (by omega) (by omega)]
      refine ⟨fun z => hΦ r' ⟨fun j hj => h1 j (by omega), fun j hj => h2 j (by omega)⟩, fun z _ _ => ?_⟩
      rw [nI_clamp (by omega), nI_clamp (by omega), nI_1]
      have e0 : r' (n * f + k) = r (n * f + k) := by
        apply h2
        rcases Nat.lt_or_gt_of_ne hne with hl | hl
        · have := mul_ap (n := n) hl; omega
        · have := mul_ap (n := n) hl; omega
      refine ih (k + 1) _ (by omega) (fun j hj => ?_) (fun j hj => ?_)
      · by_cases ej : j = k
        · subst ej; rw [pk_us]; exact e0
        · rw [pk_un (by omega)]; exact h1 j (by omega)
      · rw [pk_un (by omega)]; exact h2 j (by omega)
  exact fun m => key m 0 r (Nat.zero_le _) (fun j hj => absurd hj (Nat.not_lt_zero _)) (fun _ _ => rfl)
/-- the programme at p, and how it is laid -/
def RP8 (p : Nat) (g : PGr) (st ce ip ln be co ca ic il im ac aC lf lt cd : Nat → Int32) : Prop := SB p g.1 st be co ∧ CB p g.2.1 ce ca ∧ IB p g.2.2.1 ip ic il im ∧ LBd p g.2.2.2 ln ac aC lf lt cd
def YB (p n : Nat) (sf tf : Nat → Nat) (ls tw : Nat → Int32) : Prop := ∀ i, i < n → ls (16 * p + i) = nI (sf i) ∧ tw (16 * p + i) = nI (tf i)
/-- what lays does: the programme at g becomes that at f; all others stay -/
def LY8 (f g : Nat) (st ce ip ln be co ca ic il im ac aC ls tw lf lt cd st' ce' ip' ln' be' co' ca' ic' il' im' ac' aC' ls' tw' lf' lt' cd' : Nat → Int32) : Prop := (∀ G, GK9 G → RP8 f G st ce ip ln be co ca ic il im ac aC lf lt cd → RP8 g G st' ce' ip' ln' be' co' ca' ic' il' im' ac' aC' lf' lt' cd') ∧ (∀ p G, p < 6 → p ≠ g → GK9 G → RP8 p G st ce ip ln be co ca ic il im ac aC lf lt cd → RP8 p G st' ce' ip' ln' be' co' ca' ic' il' im' ac' aC' lf' lt' cd') ∧ (∀ n sf tf, n ≤ 16 → YB f n sf tf ls tw → YB g n sf tf ls' tw') ∧ ∀ p n sf tf, p < 6 → p ≠ g → n ≤ 16 → YB p n sf tf ls tw → YB p n sf tf ls' tw'
theorem ly_of {f g : Nat} {st ce ip ln be co ca ic il im ac aC ls tw lf lt cd st' ce' ip' ln' be' co' ca' ic' il' im' ac' aC' ls' tw' lf' lt' cd' : Nat → Int32} (hf : f < 6) (hg : g < 6) (m1 : MVd 1 f g st st') (m2 : MVd 1 f g ce ce') (m3 : MVd 1 f g ip ip') (m4 : MVd 1 f g ln ln') (m5 : MVd 4 f g be be') (m6 : MVd 4 f g co co') (m7 : MVd 6 f g ca ca') (m8 : MVd 2 f g ic ic') (m9 : MVd 2 f g il il') (m10 : MVd 2 f g im im') (m11 : MVd 16 f g ac ac') (m12 : MVd 16 f g aC aC') (m13 : MVd 16 f g ls ls') (m14 : MVd 16 f g tw tw') (m15 : MVd 1000 f g cd cd') (m16 : MVs f g lf lf') (m17 : MVs f g lt lt') : LY8 f g st ce ip ln be co ca ic il im ac aC ls tw lf lt cd st' ce' ip' ln' be' co' ca' ic' il' im' ac' aC' ls' tw' lf' lt' cd' := by
  have o : ∀ {r r' : Nat → Int32}, MVd 1 f g r r' → r' g = r f := fun h => by
    have := h.1 0 (by decide)
    rw [Nat.one_mul, Nat.one_mul, Nat.add_zero, Nat.add_zero] at this
    exact this
  have o2 : ∀ {r r' : Nat → Int32} {p : Nat}, MVd 1 f g r r' → p ≠ g → r' p = r p := fun {r r' p} h hp => by
    have := h.keep hp (i := 0) (by decide)
    rw [Nat.one_mul, Nat.add_zero] at this
    exact this
  have er : ∀ (k : Nat) (i : List Nat), k < 32 → ER9 f k i lf lt cd → ER9 g k i lf' lt' cd' := by
    intro k i hk ⟨a, h1, h2, h3, h4⟩
    refine ⟨a, ?_, ?_, h3, fun j c hj => ?_⟩
    · rw [m16.1 k hk, h1, sh_eq (by omega)]
      exact congrArg nI (by omega)
    · rw [m17.1 k hk, h2, sh_eq (by omega)]
      exact congrArg nI (by omega)
    · have := get_lt hj
      have e := m15.1 (a + j) (by omega)
      rw [show 1000 * g + a + j = 1000 * g + (a + j) by omega, e, show 1000 * f + (a + j) = 1000 * f + a + j by omega]
      exact h4 j c hj
  have er2 : ∀ (p k : Nat) (i : List Nat), p ≠ g → k < 32 → ER9 p k i lf lt cd → ER9 p k i lf' lt' cd' := by
    intro p k i hp hk ⟨a, h1, h2, h3, h4⟩
    refine ⟨a, (m16.keep hp hk).trans h1, (m17.keep hp hk).trans h2, h3, fun j c hj => ?_⟩
    have := get_lt hj
    have e := m15.keep hp (i := a + j) (by omega)
    rw [show 1000 * p + a + j = 1000 * p + (a + j) by omega, e, show 1000 * p + (a + j) = 1000 * p + a + j by omega]
    exact h4 j c hj
  refine ⟨fun G hG ⟨⟨s1, s2⟩, ⟨c1, c2⟩, ⟨i1, i2⟩, ⟨l1, l2⟩⟩ => ?_, fun p G hp6 hp hG ⟨⟨s1, s2⟩, ⟨c1, c2⟩, ⟨i1, i2⟩, ⟨l1, l2⟩⟩ => ?_, fun n sf tf hn hy i hi => ?_, fun p n sf tf hp6 hp hn hy i hi => ?_⟩
  · refine ⟨⟨(o m1).trans s1, fun i y hi => ?_⟩, ⟨(o m2).trans c1, fun i y hi => ?_⟩, ⟨(o m3).trans i1, fun i y hi => ?_⟩, ⟨(o m4).trans l1, fun i y hi => ?_⟩⟩
    · have := get_lt hi
      have h4 := hG.1
      rw [m5.1 i (by omega), m6.1 i (by omega)]
      exact s2 i y hi
    · have := get_lt hi
      have h4 := hG.2.2.1
      rw [m7.1 i (by omega)]
      exact c2 i y hi
    · have := get_lt hi
      have h4 := hG.2.2.2.2.1
      rw [m8.1 i (by omega), m9.1 i (by omega), m10.1 i (by omega)]
      exact i2 i y hi
    · have := get_lt hi
      have h4 := hG.2.2.2.2.2.2.2.2.1
      obtain ⟨a1, a2, a3, a4⟩ := l2 i y hi
      exact ⟨by rw [m11.1 i (by omega)]; exact a1, fun z => by rw [m12.1 i (by omega)]; exact a2 z, fun z => er _ _ (by omega) (a3 z), fun z => er _ _ (by omega) (a4 z)⟩
  · refine ⟨⟨(o2 m1 hp).trans s1, fun i y hi => ?_⟩, ⟨(o2 m2 hp).trans c1, fun i y hi => ?_⟩, ⟨(o2 m3 hp).trans i1, fun i y hi => ?_⟩, ⟨(o2 m4 hp).trans l1, fun i y hi => ?_⟩⟩
    · have := get_lt hi
      have h4 := hG.1
      rw [m5.keep hp (by omega), m6.keep hp (by omega)]
      exact s2 i y hi
    · have := get_lt hi
      have h4 := hG.2.2.1
      rw [m7.keep hp (by omega)]
      exact c2 i y hi
    · have := get_lt hi
      have h4 := hG.2.2.2.2.1
      rw [m8.keep hp (by omega), m9.keep hp (by omega), m10.keep hp (by omega)]
      exact i2 i y hi
    · have := get_lt hi
      have h4 := hG.2.2.2.2.2.2.2.2.1
      obtain ⟨a1, a2, a3, a4⟩ := l2 i y hi
      exact ⟨by rw [m11.keep hp (by omega)]; exact a1, fun z => by rw [m12.keep hp (by omega)]; exact a2 z, fun z => er2 _ _ _ hp (by omega) (a3 z), fun z => er2 _ _ _ hp (by omega) (a4 z)⟩
  · rw [m13.1 i (by omega), m14.1 i (by omega)]
    exact hy i hi
  · rw [m13.keep hp (by omega), m14.keep hp (by omega)]
    exact hy i hi
theorem sq8_lays {f g : Nat} {st ce ip ln be co ca ic il im ac aC ls tw lf lt cd : Nat → Int32} {Φ : PY} (hf : f < 6) (hg : g < 6) (hne : ¬ f = g) (hΦ : ∀ st' ce' ip' ln' be' co' ca' ic' il' im' ac' aC' ls' tw' lf' lt' cd', LY8 f g st ce ip ln be co ca ic il im ac aC ls tw lf lt cd st' ce' ip' ln' be' co' ca' ic' il' im' ac' aC' ls' tw' lf' lt' cd' → Φ st' ce' ip' ln' be' co' ca' ic' il' im' ac' aC' ls' tw' lf' lt' cd') : wl_X8_lays (nI f) (nI g) st ce ip ln be co ca ic il im ac aC ls tw lf lt cd Φ := by
  unfold wl_X8_lays
  refine sq8_moves (n := 1) (by decide) (by decide) hf hg hne (fun st' m1 => ?_)
  refine sq8_moves (n := 1) (by decide) (by decide) hf hg hne (fun ce' m2 => ?_)
  refine sq8_moves (n := 1) (by decide) (by decide) hf hg hne (fun ip' m3 => ?_)
  refine sq8_moves (n := 1) (by decide) (by decide) hf hg hne (fun ln' m4 => ?_)
  refine sq8_moves (n := 4) (by decide) (by decide) hf hg hne (fun be' m5 => ?_)
  refine sq8_moves (n := 4) (by decide) (by decide) hf hg hne (fun co' m6 => ?_)
  refine sq8_moves (n := 6) (by decide) (by decide) hf hg hne (fun ca' m7 => ?_)
  refine sq8_moves (n := 2) (by decide) (by decide) hf hg hne (fun ic' m8 => ?_)
  refine sq8_moves (n := 2) (by decide) (by decide) hf hg hne (fun il' m9 => ?_)
  refine sq8_moves (n := 2) (by decide) (by decide) hf hg hne (fun im' m10 => ?_)
  refine sq8_moves (n := 16) (by decide) (by decide) hf hg hne (fun ac' m11 => ?_)
  refine sq8_moves (n := 16) (by decide) (by decide) hf hg hne (fun aC' m12 => ?_)
  refine sq8_moves (n := 16) (by decide) (by decide) hf hg hne (fun ls' m13 => ?_)
  refine sq8_moves (n := 16) (by decide) (by decide) hf hg hne (fun tw' m14 => ?_)
  refine sq8_moves (n := 1000) (by decide) (by decide) hf hg hne (fun cd' m15 => ?_)
  have key : ∀ (m k : Nat) (lf' lt' : Nat → Int32), k ≤ 32 → (∀ j, j < k → lf' (32 * g + j) = lf (32 * f + j) + 1000 * (nI g - nI f)) → (∀ j, (j < 32 * g ∨ 32 * g + k ≤ j) → lf' j = lf j) → (∀ j, j < k → lt' (32 * g + j) = lt (32 * f + j) + 1000 * (nI g - nI f)) → (∀ j, (j < 32 * g ∨ 32 * g + k ≤ j) → lt' j = lt j) → ll_X8_lays_159 (nI f) (nI g) Φ m st' ce' ip' ln' be' co' ca' ic' il' im' ac' aC' ls' tw' lf' lt' cd' (nI k) := by
    intro m
    induction m with
    | zero => intros; trivial
    | succ m ih =>
      intro k lf' lt' hk h1 h2 h3 h4
      show bl_X8_lays_159 _ _ _ _ _ _ _ _ _ _ _ _ _ _ _ _ _ _ _ _ _ _
      unfold bl_X8_lays_159
      rw [show (32 : Int32) = nI 32 from rfl, pk_mul, pk_mul, nI_add, nI_add, nI_leI (by omega) (by omega)]
      refine ⟨fun z => hΦ _ _ _ _ _ _ _ _ _ _ _ _ _ _ _ _ _ (ly_of hf hg m1 m2 m3 m4 m5 m6 m7 m8 m9 m10 m11 m12 m13 m14 m15 ⟨fun j hj => h1 j (by omega), fun j hj => h2 j (by omega)⟩ ⟨fun j hj => h3 j (by omega), fun j hj => h4 j (by omega)⟩), fun z _ _ _ _ => ?_⟩
      rw [nI_clamp (by omega), nI_clamp (by omega), nI_1]
      have e0 : lf' (32 * f + k) = lf (32 * f + k) := h2 _ (by omega)
      have e1 : lt' (32 * f + k) = lt (32 * f + k) := h4 _ (by omega)
      refine ih (k + 1) _ _ (by omega) (fun j hj => ?_) (fun j hj => ?_) (fun j hj => ?_) (fun j hj => ?_)
      · by_cases ej : j = k
        · subst ej; rw [pk_us, e0]
        · rw [pk_un (by omega)]; exact h1 j (by omega)
      · rw [pk_un (by omega)]; exact h2 j (by omega)
      · by_cases ej : j = k
        · subst ej; rw [pk_us, e1]
        · rw [pk_un (by omega)]; exact h3 j (by omega)
      · rw [pk_un (by omega)]; exact h4 j (by omega)
  exact fun m => key m 0 lf lt (Nat.zero_le _) (fun j hj => absurd hj (Nat.not_lt_zero _)) (fun _ _ => rfl) (fun j hj => absurd hj (Nat.not_lt_zero _)) (fun _ _ => rfl)
theorem RB8.rp {g : PGr} {st ce ip ln : Nat → Int32} {sn cnn : Nat → Int64} {be co ca ic il im ac aC ls tw lf lt cd : Nat → Int32} {c : Nat} (h : RB8 g st ce ip ln sn cnn be co ca ic il im ac aC ls tw lf lt cd c) : RP8 1 g st ce ip ln be co ca ic il im ac aC lf lt cd := ⟨h.2.2.1, h.2.2.2.1, h.2.2.2.2.1, h.2.2.2.2.2.1⟩
/-- what reading leaves of the other programmes -/
theorem FR8.rp {p : Nat} {G : PGr} {st ce ip ln be co ca ic il im ac aC ls tw lf lt cd st' ce' ip' ln' be' co' ca' ic' il' im' ac' aC' ls' tw' lf' lt' cd' : Nat → Int32} (h : FR8 st ce ip ln be co ca ic il im ac aC ls tw lf lt cd st' ce' ip' ln' be' co' ca' ic' il' im' ac' aC' ls' tw' lf' lt' cd') (hp : p ≠ 1) (hG : GK9 G) (hR : RP8 p G st ce ip ln be co ca ic il im ac aC lf lt cd) : RP8 p G st' ce' ip' ln' be' co' ca' ic' il' im' ac' aC' lf' lt' cd' := by
  obtain ⟨m1, m2, m3, m4, m5, m6, m7, m8, m9, m10, m11, m12, _, _, m16, m17, m15⟩ := h
  obtain ⟨⟨s1, s2⟩, ⟨c1, c2⟩, ⟨i1, i2⟩, ⟨l1, l2⟩⟩ := hR
  have er2 : ∀ (k : Nat) (i : List Nat), k < 32 → ER9 p k i lf lt cd → ER9 p k i lf' lt' cd' := by
    intro k i hk ⟨a, h1, h2, h3, h4⟩
    refine ⟨a, (m16 _ (by omega)).trans h1, (m17 _ (by omega)).trans h2, h3, fun j c hj => ?_⟩
    have := get_lt hj
    exact (m15 _ (by omega)).trans (h4 j c hj)
  refine ⟨⟨(m1 _ (by omega)).trans s1, fun i y hi => ?_⟩, ⟨(m2 _ (by omega)).trans c1, fun i y hi => ?_⟩, ⟨(m3 _ (by omega)).trans i1, fun i y hi => ?_⟩, ⟨(m4 _ (by omega)).trans l1, fun i y hi => ?_⟩⟩
  · have := get_lt hi
    have h4 := hG.1
    rw [m5 _ (by omega), m6 _ (by omega)]
    exact s2 i y hi
  · have := get_lt hi
    have h4 := hG.2.2.1
    rw [m7 _ (by omega)]
    exact c2 i y hi
  · have := get_lt hi
    have h4 := hG.2.2.2.2.1
    rw [m8 _ (by omega), m9 _ (by omega), m10 _ (by omega)]
    exact i2 i y hi
  · have := get_lt hi
    have h4 := hG.2.2.2.2.2.2.2.2.1
    obtain ⟨a1, a2, a3, a4⟩ := l2 i y hi
    exact ⟨by rw [m11 _ (by omega)]; exact a1, fun z => by rw [m12 _ (by omega)]; exact a2 z, fun z => er2 _ _ (by omega) (a3 z), fun z => er2 _ _ (by omega) (a4 z)⟩
theorem FR8.yb {p n : Nat} {sf tf : Nat → Nat} {st ce ip ln be co ca ic il im ac aC ls tw lf lt cd st' ce' ip' ln' be' co' ca' ic' il' im' ac' aC' ls' tw' lf' lt' cd' : Nat → Int32} (h : FR8 st ce ip ln be co ca ic il im ac aC ls tw lf lt cd st' ce' ip' ln' be' co' ca' ic' il' im' ac' aC' ls' tw' lf' lt' cd') (hp : p ≠ 1) (hn : n ≤ 16) (hy : YB p n sf tf ls tw) : YB p n sf tf ls' tw' := by
  obtain ⟨_, _, _, _, _, _, _, _, _, _, _, _, m13, m14, _, _, _⟩ := h
  intro i hi
  rw [m13 _ (by omega), m14 _ (by omega)]
  exact hy i hi
abbrev PRP8 : Type := Int32 → Int32 → Int32 → Int32 → Int32 → Int32 → Int32 → Int64 → Int32 → Int32 → Int32 → Int32 → (Nat → Int32) → (Nat → Int32) → (Nat → Int32) → (Nat → Int32) → (Nat → Int64) → (Nat → Int64) → (Nat → Int32) → (Nat → Int32) → (Nat → Int32) → (Nat → Int32) → (Nat → Int32) → (Nat → Int32) → (Nat → Int32) → (Nat → Int32) → (Nat → Int32) → (Nat → Int32) → (Nat → Int32) → (Nat → Int32) → (Nat → Int32) → (Nat → Int32) → (Nat → Int32) → (Nat → Int32) → Prop
/-- what programme leaves where there is a fault: all other programmes -/
def FB8 (st ce ip ln be co ca ic il im ac aC ls tw lf lt cd st' ce' ip' ln' be' co' ca' ic' il' im' ac' aC' ls' tw' lf' lt' cd' : Nat → Int32) : Prop := (∀ p G, p < 6 → p ≠ 1 → GK9 G → RP8 p G st ce ip ln be co ca ic il im ac aC lf lt cd → RP8 p G st' ce' ip' ln' be' co' ca' ic' il' im' ac' aC' lf' lt' cd') ∧ ∀ p n sf tf, p < 6 → p ≠ 1 → n ≤ 16 → YB p n sf tf ls tw → YB p n sf tf ls' tw'
/-- where there is none: the programme that was read is at 0, laid as told -/
def FG8 (g : PGr) (st ce ip ln be co ca ic il im ac aC ls tw lf lt cd st' ce' ip' ln' be' co' ca' ic' il' im' ac' aC' ls' tw' lf' lt' cd' : Nat → Int32) : Prop := (∀ p G, p < 6 → p ≠ 1 → p ≠ 0 → GK9 G → RP8 p G st ce ip ln be co ca ic il im ac aC lf lt cd → RP8 p G st' ce' ip' ln' be' co' ca' ic' il' im' ac' aC' lf' lt' cd') ∧ (∀ p n sf tf, p < 6 → p ≠ 1 → p ≠ 0 → n ≤ 16 → YB p n sf tf ls tw → YB p n sf tf ls' tw') ∧ RP8 0 g st' ce' ip' ln' be' co' ca' ic' il' im' ac' aC' lf' lt' cd' ∧ YB 0 g.2.2.2.length (fun i => (g.2.2.2.getD i (0, 0, 0, ([], []), ([], []))).2.1) (fun _ => 1) ls' tw'
theorem sq8_programme {ts : List Nat} {t wo : Nat → Int32} {th sz pl b T td wr c sta : Int32} {w : Int64} {st : Nat → Int32} {ce : Nat → Int32} {ip : Nat → Int32} {ln : Nat → Int32} {sn : Nat → Int64} {cnn : Nat → Int64} {be : Nat → Int32} {co : Nat → Int32} {ca : Nat → Int32} {ic : Nat → Int32} {il : Nat → Int32} {im : Nat → Int32} {ac : Nat → Int32} {aC : Nat → Int32} {ls : Nat → Int32} {tw : Nat → Int32} {lf : Nat → Int32} {lt : Nat → Int32} {cd : Nat → Int32} {op : Nat → Int32} {cm : Nat → Int32} {Φ : PRP8} (hT : TL ts t)
    (bad : ∀ e, parse ts = .inl e → ∀ (sz' pl' b' T' : Int32) (w' : Int64) (td' wr' c' : Int32) (st' : Nat → Int32) (ce' : Nat → Int32) (ip' : Nat → Int32) (ln' : Nat → Int32) (sn' : Nat → Int64) (cnn' : Nat → Int64) (be' : Nat → Int32) (co' : Nat → Int32) (ca' : Nat → Int32) (ic' : Nat → Int32) (il' : Nat → Int32) (im' : Nat → Int32) (ac' : Nat → Int32) (aC' : Nat → Int32) (ls' : Nat → Int32) (tw' : Nat → Int32) (lf' : Nat → Int32) (lt' : Nat → Int32) (cd' : Nat → Int32) (op' : Nat → Int32) (cm' : Nat → Int32), FB8 st ce ip ln be co ca ic il im ac aC ls tw lf lt cd st' ce' ip' ln' be' co' ca' ic' il' im' ac' aC' ls' tw' lf' lt' cd' → Φ (nI e) 0 0 sz' pl' b' T' w' td' wr' c' sta st' ce' ip' ln' sn' cnn' be' co' ca' ic' il' im' ac' aC' ls' tw' lf' lt' cd' op' cm' wo)
    (good : ∀ g, parse ts = .inr g → ∀ (sz' pl' b' T' : Int32) (w' : Int64) (td' wr' c' : Int32) (st' : Nat → Int32) (ce' : Nat → Int32) (ip' : Nat → Int32) (ln' : Nat → Int32) (sn' : Nat → Int64) (cnn' : Nat → Int64) (be' : Nat → Int32) (co' : Nat → Int32) (ca' : Nat → Int32) (ic' : Nat → Int32) (il' : Nat → Int32) (im' : Nat → Int32) (ac' : Nat → Int32) (aC' : Nat → Int32) (ls' : Nat → Int32) (tw' : Nat → Int32) (lf' : Nat → Int32) (lt' : Nat → Int32) (cd' : Nat → Int32) (op' : Nat → Int32) (cm' : Nat → Int32) (wo' : Nat → Int32), FG8 g st ce ip ln be co ca ic il im ac aC ls tw lf lt cd st' ce' ip' ln' be' co' ca' ic' il' im' ac' aC' ls' tw' lf' lt' cd' → (∀ j, j < 16 → wo' j = 0) → Φ 0 0 0 sz' pl' b' T' w' td' wr' c' 0 st' ce' ip' ln' sn' cnn' be' co' ca' ic' il' im' ac' aC' ls' tw' lf' lt' cd' op' cm' wo') : wl_X8_programme t th (nI ts.length) sz pl b T w td wr c sta st ce ip ln sn cnn be co ca ic il im ac aC ls tw lf lt cd op cm wo Φ := by
  unfold wl_X8_programme
  have hn := hT.1
  unfold wl_X8_readsAll
  have hr0 : ∀ p, F1 1 p (upd p 1 0) := fun p => F1.up (Nat.le_refl _) (by decide)
  have hF0 : FR8 st ce ip ln be co ca ic il im ac aC ls tw lf lt cd (upd st 1 0) (upd ce 1 0) (upd ip 1 0) (upd ln 1 0) be co ca ic il im ac aC ls tw lf lt cd := ⟨hr0 _, hr0 _, hr0 _, hr0 _, F1.rf, F1.rf, F1.rf, F1.rf, F1.rf, F1.rf, F1.rf, F1.rf, F1.rf, F1.rf, F1.rf, F1.rf, F1.rf⟩
  have nb : ∀ an, NB [] an := fun an => ⟨by decide, fun w hw => (by cases hw), fun i w h => by simp at h⟩
  have hR0 : RB8 ([], [], [], []) (upd st 1 0) (upd ce 1 0) (upd ip 1 0) (upd ln 1 0) sn cnn be co ca ic il im ac aC ls tw lf lt cd 1000 := ⟨nb _, nb _, ⟨pk_us, fun i y h => by simp at h⟩, ⟨pk_us, fun i y h => by simp at h⟩, ⟨pk_us, fun i y h => by simp at h⟩, ⟨pk_us, fun i y h => by simp at h⟩, fun i y h => by simp at h, fun i y h => by simp at h⟩
  refine iw_X8_nextToken (fun _ _ _ _ _ u => u) (sq_X8_nextToken (p := 0) hT (Nat.zero_le _) (fun k r q' b' T' w' td' e g1 g2 hC => ?_))
  intro n
  have hVT := tokL_VT hn ts.length 0 (by omega) (by omega)
  have hRR : RR ts (tokL ts 0) q' b' T' w' td' := ⟨k, r, e, hC, g1, g2, hVT k (by rw [e]; exact List.mem_cons_self)⟩
  have hlen := tokL_len (ts := ts) ts.length 0 (by omega) (by omega)
  refine sq8_readsAll57 hT n 1000 ([], [], [], []) (tokL ts 0) _ _ _ _ _ _ _ _ _ _ _ _ _ _ _ _ _ _ _ _ _ _ _ _ _ _ _ _ hRR (hRR.wt hT) (show (tokL ts 0).length ≤ 1000 + 1 by omega) GK9.nil hR0 hF0 (by decide) (show 1000 + (tokL ts 0).length ≤ 2001 by omega) (fun e he q2 b2 T2 w2 td2 c2n st' ce' ip' ln' sn' cnn' be' co' ca' ic' il' im' ac' aC' ls' tw' lf' lt' cd' op' cm' hf => ⟨fun z => absurd rfl z, fun _ => ?_⟩) (fun g hg q2 b2 T2 w2 td2 wr2 c2n st' ce' ip' ln' sn' cnn' be' co' ca' ic' il' im' ac' aC' ls' tw' lf' lt' cd' op' cm' hf hrb => ⟨fun _ => ?_, fun z => absurd z (by (try dsimp only); decide)⟩)
  · exact bad e he _ _ _ _ _ _ _ _ st' ce' ip' ln' sn' cnn' be' co' ca' ic' il' im' ac' aC' ls' tw' lf' lt' cd' op' cm' ⟨fun p G _ hp hG hR => hf.rp hp hG hR, fun p n sf tf _ hp hn hy => hf.yb hp hn hy⟩
  · have hG := parse_good (ts := ts) hg
    refine sq8_lays (f := 1) (g := 0) (by decide) (by decide) (by decide) (fun st2 ce2 ip2 ln2 be2 co2 ca2 ic2 il2 im2 ac2 aC2 ls2 tw2 lf2 lt2 cd2 hly => ?_)
    have hfg : FG8 g st ce ip ln be co ca ic il im ac aC ls tw lf lt cd st2 ce2 ip2 ln2 be2 co2 ca2 ic2 il2 im2 ac2 aC2 ls2 tw2 lf2 lt2 cd2 := by
      refine ⟨fun p G hp6 hp1 hp0 hGG hRR => hly.2.1 p G hp6 hp0 hGG (hf.rp hp1 hGG hRR), fun p n sf tf hp6 hp1 hp0 hn hy => hly.2.2.2 p n sf tf hp6 hp0 hn (hf.yb hp1 hn hy), hly.1 g hG hrb.rp, hly.2.2.1 _ _ _ hG.2.2.2.2.2.2.2.2.1 (fun i hi => ?_)⟩
      have hy := hrb.2.2.2.2.2.2.1 i _ (List.getElem?_eq_getElem hi)
      have eg : g.2.2.2.getD i (0, 0, 0, ([], []), ([], [])) = g.2.2.2[i] := by rw [List.getD_eq_getElem?_getD, List.getElem?_eq_getElem hi]; rfl
      show _ = nI (g.2.2.2.getD i (0, 0, 0, ([], []), ([], []))).2.1 ∧ _
      rw [eg]
      exact hy
    have key : ∀ (n k : Nat) (wo' : Nat → Int32), k ≤ 16 → (∀ j, j < k → wo' j = 0) → ll_X8_programme_30 t Φ n 0 0 (nI ts.length) q2 b2 T2 w2 td2 wr2 (nI c2n) 0 st2 ce2 ip2 ln2 sn' cnn' be2 co2 ca2 ic2 il2 im2 ac2 aC2 ls2 tw2 lf2 lt2 cd2 op' cm' wo' (nI k) := by
      intro n
      induction n with
      | zero => intros; trivial
      | succ n ih =>
        intro k wo' hk h0
        show bl_X8_programme_30 _ _ _ _ _ _ _ _ _ _ _ _ _ _ _ _ _ _ _ _ _ _ _ _ _ _ _ _ _ _ _ _ _ _ _ _ _
        unfold bl_X8_programme_30
        rw [show (16 : Int32) = nI 16 from rfl, nI_leI (a := 16) (by decide) (by omega)]
        refine ⟨fun z => good g hg _ _ _ _ _ _ _ _ st2 ce2 ip2 ln2 sn' cnn' be2 co2 ca2 ic2 il2 im2 ac2 aC2 ls2 tw2 lf2 lt2 cd2 op' cm' wo' hfg (fun j hj => h0 j (by omega)), fun z _ => ?_⟩
        rw [nI_1, nI_clamp (n := k) (by omega)]
        refine ih (k + 1) _ (by omega) (fun j hj => ?_)
        by_cases e : j = k
        · rw [e, pk_us]
        · rw [pk_un e]; exact h0 j (by omega)
    exact fun n => key n 0 wo (Nat.zero_le _) (fun j hj => absurd hj (Nat.not_lt_zero _))
