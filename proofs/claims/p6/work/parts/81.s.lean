theorem sp_X8_isWord {T : Int32} {w x : Int64} {Φ : Int32 → Prop} (h1 : T = 1 → w = x → Φ 1) (h0 : ¬ (T = 1 ∧ w = x) → Φ 0) : wp_X8_isWord T w x Φ := by
  unfold wp_X8_isWord
  refine ⟨fun h => h0 (fun e => h e.1), fun h => ⟨fun e => h0 (fun q => e ((lg_cmp_eq _ _).mpr q.2)), fun e => h1 h ((lg_cmp_eq _ _).mp e)⟩⟩
theorem sp_X8_isSign {B T : Int32} {t : Nat → Int32} {x : Int32} {Φ : Int32 → Prop} (hb : T = 3 → vp_in B 1000) (h1 : T = 3 → t B.toNatClampNeg = x → Φ 1) (h0 : ¬ (T = 3 ∧ t B.toNatClampNeg = x) → Φ 0) : wp_X8_isSign B T t x Φ := by
  unfold wp_X8_isSign
  exact ⟨fun h => h0 (fun e => h e.1), fun h => ⟨hb h, fun e => h0 (fun q => e q.2), fun e => h1 h e⟩⟩
theorem sp_X8_fails {B k W : Int32} {Φ : Int32 → Int32 → Prop} (h : Φ 0 (k + (16 * B))) : wp_X8_fails B k W Φ := h
theorem sp_X8_puts {v : Int32} {c : Nat} {cd : Nat → Int32} {Φ : Int32 → (Nat → Int32) → Prop} (hc : c < 6000) (h : Φ (nI (c + 1)) (upd cd c v)) : wp_X8_puts v (nI c) cd Φ := by
  unfold wp_X8_puts
  refine ⟨pk_in c 6000 hc, ?_⟩
  rw [nI_1, nI_clamp (by omega)]
  exact h
theorem sp_X8_isKept {T : Int32} {w : Int64} {Φ : Int32 → Prop} (h1 : Φ 1) (h0 : T = 1 → Φ 0) : wp_X8_isKept T w Φ := by
  unfold wp_X8_isKept
  refine ⟨fun e => ?_, fun _ => h1⟩
  have h0 := h0 e
  repeat' (first | exact fun _ => h1 | exact fun _ => h0 | apply And.intro | intro)
theorem sp_X8_cellOf {w : Int64} {cs : Nat → Int32} {nm : Nat → Int64} {k : Nat} {Φ : Int32 → Prop} (hk : cs 1 = nI k) (h6 : k ≤ 6) (hn : Φ (-1)) (hf : ∀ j, j < k → nm j = w → Φ (nI j)) : wp_X8_cellOf w cs nm Φ := by
  refine ⟨k + 1, ?_⟩
  have key : ∀ m j, m = k - j → j ≤ k → lf_X8_cellOf_2 w cs nm Φ (m + 1) (nI j) := by
    intro m
    induction m with
    | zero =>
      intro j hj hjk
      show lb_X8_cellOf_2 _ _ _ _ _ _
      unfold lb_X8_cellOf_2
      rw [hk]
      exact ⟨fun _ => hn, fun h => absurd (nI_le (by omega) (by omega)) h⟩
    | succ m ih =>
      intro j hj hjk
      show lb_X8_cellOf_2 _ _ _ _ _ _
      unfold lb_X8_cellOf_2
      rw [hk]
      refine ⟨fun _ => hn, fun h => ⟨pk_in j 6 (by omega), fun _ => ?_, fun e => hf j (by omega) ?_⟩⟩
      · rw [nI_1]; exact ih (j + 1) (by omega) (by omega)
      · rw [nI_clamp (by omega)] at e; exact (lg_cmp_eq _ _).mp e
  exact key k 0 (by omega) (by omega)
theorem sp_X8_stuffOf {w : Int64} {cs : Nat → Int32} {nm : Nat → Int64} {k : Nat} {Φ : Int32 → Prop} (hk : cs 1 = nI k) (h6 : k ≤ 4) (hn : Φ (-1)) (hf : ∀ j, j < k → nm j = w → Φ (nI j)) : wp_X8_stuffOf w cs nm Φ := by
  refine ⟨k + 1, ?_⟩
  have key : ∀ m j, m = k - j → j ≤ k → lf_X8_stuffOf_2 w cs nm Φ (m + 1) (nI j) := by
    intro m
    induction m with
    | zero =>
      intro j hj hjk
      show lb_X8_stuffOf_2 _ _ _ _ _ _
      unfold lb_X8_stuffOf_2
      rw [hk]
      exact ⟨fun _ => hn, fun h => absurd (nI_le (by omega) (by omega)) h⟩
    | succ m ih =>
      intro j hj hjk
      show lb_X8_stuffOf_2 _ _ _ _ _ _
      unfold lb_X8_stuffOf_2
      rw [hk]
      refine ⟨fun _ => hn, fun h => ⟨pk_in j 4 (by omega), fun _ => ?_, fun e => hf j (by omega) ?_⟩⟩
      · rw [nI_1]; exact ih (j + 1) (by omega) (by omega)
      · rw [nI_clamp (by omega)] at e; exact (lg_cmp_eq _ _).mp e
  exact key k 0 (by omega) (by omega)
/-- the reader of the reference between two tokens: n signs, the token at b, the next place q -/
def RS (n b q : Nat) (T td : Int32) : Prop := n ≤ 1000 ∧ b ≤ q ∧ q ≤ n ∧ ((T = 0 ∧ b = n ∧ q = n) ∨ (b < q ∧ ¬ T = 0)) ∧ ∃ d : Nat, d ≤ 9999 ∧ td = nI d
theorem RS.sgn {n b q : Nat} {T td : Int32} (h : RS n b q T td) : T = 3 → vp_in (nI b) 1000 := by
  intro e
  obtain ⟨h1, h2, h3, h4, h5⟩ := h
  rcases h4 with h4 | h4
  · rw [e] at h4; exact absurd h4.1 (by decide)
  · exact pk_in b 1000 (by omega)
theorem RS.lt {n b q : Nat} {T td : Int32} (h : RS n b q T td) (hT : ¬ T = 0) : b < q ∧ b < 1000 := by
  obtain ⟨h1, h2, h3, h4, h5⟩ := h
  rcases h4 with h4 | h4
  · exact absurd h4.1 hT
  · omega
theorem RS.next {t : Nat → Int32} {n b q : Nat} {T td : Int32} {w : Int64} {Φ : Int32 → Int32 → Int32 → Int64 → Int32 → Prop} (h : RS n b q T td) (hΦ : ∀ b' q' T' w' td', RS n b' q' T' td' → q ≤ b' → Φ (nI q') (nI b') T' w' td') : wp_X8_nextToken (nI n) t (nI q) (nI b) T w td Φ := by
  refine sp_X8_nextToken h.1 h.2.2.1 (fun b' q' tk w' td' hN => hΦ b' q' tk w' td' ⟨h.1, hN.2.1, hN.2.2.1, ?_, hN.2.2.2.2⟩ hN.1)
  rcases hN.2.2.2.1 with e | e
  · exact Or.inl e
  · exact Or.inr ⟨e.1, by rcases e.2 with e | e | e | e <;> rw [e] <;> decide⟩
/-- brackets: what is open, the innermost first; true for not and worn -/
def popN : List Bool → List Bool
  | true :: l => popN l
  | l => l
def bst (c : Int32) (l : List Bool) : Option (List Bool) :=
  if c = 30 ∨ c = 31 then some (true :: l) else if c = 28 then some (false :: l) else if c = 29 then (match l with | false :: m => some (popN m) | _ => none) else if c = 20 ∨ c = 21 ∨ c = 22 ∨ c = 24 ∨ c = 25 ∨ c = 26 ∨ c = 27 then some l else some (popN l)
def BR (f : Nat → Int32) : Nat → Nat → List Bool → List Bool → Prop
  | _, 0, l, m => l = m
  | i, k + 1, l, m => ∃ x, bst (f i) l = some x ∧ x.length ≤ 5 ∧ ¬ f i < 0 ∧ BR f (i + 1) k x m
theorem BR_snoc {f : Nat → Int32} : ∀ {k i : Nat} {l m x : List Bool}, BR f i k l m → bst (f (i + k)) m = some x → x.length ≤ 5 → ¬ f (i + k) < 0 → BR f i (k + 1) l x := by
  intro k
  induction k with
  | zero =>
    intro i l m x h h1 h2 h3
    cases h
    exact ⟨x, h1, h2, h3, rfl⟩
  | succ k ih =>
    intro i l m x h h1 h2 h3
    obtain ⟨y, a, b, c, d⟩ := h
    have e : i + (k + 1) = i + 1 + k := by omega
    rw [e] at h1 h3
    exact ⟨y, a, b, c, ih d h1 h2 h3⟩
theorem BR_congr {f g : Nat → Int32} : ∀ {k i : Nat} {l m : List Bool}, (∀ j, i ≤ j → j < i + k → g j = f j) → BR f i k l m → BR g i k l m := by
  intro k
  induction k with
  | zero => intro i l m _ h; exact h
  | succ k ih =>
    intro i l m he h
    obtain ⟨y, a, b, c, d⟩ := h
    have e := he i (Nat.le_refl _) (by omega)
    exact ⟨y, by rw [e]; exact a, b, by rw [e]; exact c, ih (fun j h1 h2 => he j (by omega) (by omega)) d⟩
theorem BR_upd {f : Nat → Int32} {i k : Nat} {l m x : List Bool} {v : Int32} (h : BR f i k l m) (h1 : bst v m = some x) (h2 : x.length ≤ 5) (h3 : ¬ v < 0) : BR (upd f (i + k) v) i (k + 1) l x := by
  have e : upd f (i + k) v (i + k) = v := pk_us
  exact BR_snoc (BR_congr (fun j _ hj => pk_un (by omega)) h) (by rw [e]; exact h1) h2 (by rw [e]; exact h3)
/-- opened[1 ..] as the brackets -/
def OP (o : Nat → Int32) : List Bool → Prop
  | [] => True
  | b :: l => o (l.length + 1) = (if b then 1 else 2) ∧ OP o l
theorem OP_upd {o : Nat → Int32} {v : Int32} {k : Nat} : ∀ {l : List Bool}, OP o l → l.length < k → OP (upd o k v) l := by
  intro l
  induction l with
  | nil => intro _ _; trivial
  | cons b l ih =>
    intro h hk
    simp only [List.length_cons] at hk
    exact ⟨by rw [pk_un (by omega)]; exact h.1, ih h.2 (by omega)⟩
theorem popN_len : ∀ (l : List Bool), (popN l).length ≤ l.length := by
  intro l
  induction l with
  | nil => exact Nat.le_refl _
  | cons b l ih => cases b with
    | true => exact Nat.le_trans ih (Nat.le_succ _)
    | false => exact Nat.le_refl _
theorem popN_top : ∀ (l : List Bool), popN l = [] ∨ ∃ m, popN l = false :: m := by
  intro l
  induction l with
  | nil => exact Or.inl rfl
  | cons b l ih => cases b with
    | true => exact ih
    | false => exact Or.inr ⟨l, rfl⟩
theorem OP_pop {o : Nat → Int32} : ∀ {l : List Bool}, OP o l → OP o (popN l) := by
  intro l
  induction l with
  | nil => intro h; exact h
  | cons b l ih =>
    intro h
    cases b with
    | true => exact ih h.2
    | false => exact h
