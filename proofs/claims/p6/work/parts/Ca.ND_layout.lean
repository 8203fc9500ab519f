/-- the least of the first; 1,000,000: none -/
def bsF (f : Nat → Nat) : Nat → Nat
  | 0 => 1000000
  | k + 1 => min (bsF f k) (f k)
/-- the first that is the least -/
def amF (f : Nat → Nat) : Nat → Option Nat
  | 0 => none
  | k + 1 => if f k < bsF f k then some k else amF f k
theorem bsF_le (f : Nat → Nat) (k : Nat) : bsF f k ≤ 1000000 := by
  induction k with
  | zero => exact Nat.le_refl _
  | succ k ih =>
    show min (bsF f k) (f k) ≤ 1000000
    omega
theorem bsF_s (f : Nat → Nat) (k : Nat) : bsF f (k + 1) = min (bsF f k) (f k) := rfl
theorem amF_s (f : Nat → Nat) (k : Nat) : amF f (k + 1) = if f k < bsF f k then some k else amF f k := rfl
theorem bs_skip {f : Nat → Nat} {k : Nat} : ∀ (n : Nat), (∀ j, k ≤ j → j < k + n → f j = 1000000) → bsF f (k + n) = bsF f k ∧ amF f (k + n) = amF f k := by
  intro n
  induction n with
  | zero => intro _; exact ⟨rfl, rfl⟩
  | succ n ih =>
    intro h
    obtain ⟨h1, h2⟩ := ih (fun j a b => h j a (by omega))
    have hf := h (k + n) (by omega) (by omega)
    have hb := bsF_le f (k + n)
    rw [show k + (n + 1) = k + n + 1 by omega, bsF_s, amF_s, hf, if_neg (by omega)]
    exact ⟨by omega, h2⟩
theorem am_some {f : Nat → Nat} : ∀ {n j : Nat}, amF f n = some j → j < n ∧ f j = bsF f n ∧ ∀ i, i < j → ¬ f i = bsF f n := by
  intro n
  induction n with
  | zero => intro j h; cases h
  | succ n ih =>
    intro j h
    rw [amF_s] at h
    rw [bsF_s]
    split at h
    · rename_i hlt
      have e := Option.some.inj h
      subst e
      refine ⟨by omega, by omega, fun i hi => ?_⟩
      have : ∀ m, i < m → bsF f m ≤ f i := by
        intro m
        induction m with
        | zero => intro q; omega
        | succ m ihm =>
          intro q
          rw [bsF_s]
          by_cases e : i = m
          · rw [e]; omega
          · have := ihm (by omega); omega
      have := this n hi
      omega
    · rename_i hlt
      obtain ⟨a, b, c⟩ := ih h
      refine ⟨by omega, by omega, fun i hi => ?_⟩
      have := c i hi
      omega
theorem am_yes {f : Nat → Nat} {n : Nat} (h : bsF f n < 1000000) : ∃ j, amF f n = some j := by
  induction n with
  | zero => exact absurd h (by show ¬ 1000000 < 1000000; omega)
  | succ n ih =>
    rw [amF_s]
    split
    · exact ⟨n, rfl⟩
    · rw [bsF_s] at h
      exact ih (by omega)
theorem bs_b {f : Nat → Nat} {B : Nat} : ∀ {n : Nat}, (∀ k, k < n → f k = 1000000 ∨ f k ≤ B) → bsF f n = 1000000 ∨ bsF f n ≤ B := by
  intro n
  induction n with
  | zero => intro _; exact Or.inl rfl
  | succ n ih =>
    intro h
    have h1 := ih (fun k hk => h k (by omega))
    have h2 := h n (by omega)
    have h3 := bsF_le f n
    rw [bsF_s]
    omega
theorem bs_cong {f f' : Nat → Nat} : ∀ {n : Nat}, (∀ k, k < n → f k = f' k) → bsF f n = bsF f' n ∧ amF f n = amF f' n := by
  intro n
  induction n with
  | zero => intro _; exact ⟨rfl, rfl⟩
  | succ n ih =>
    intro h
    obtain ⟨h1, h2⟩ := ih (fun k hk => h k (by omega))
    rw [bsF_s, bsF_s, amF_s, amF_s, h1, h2, h n (by omega)]
    exact ⟨rfl, rfl⟩
/-- a line of a stuff, so many times, behind which the next lines cost nx of what room is left -/
def lbG (g : PGr) (pk : Int32) (nx : Nat → Nat) (r s t : Nat) : Nat := if t ≤ r ∧ pk ≤ nI (beS g s) * nI t then min 1000000 (coS g s * t + nx (r - t)) else 1000000
def fG (g : PGr) (pk : Int32) (nx : Nat → Nat) (r k : Nat) : Nat := lbG g pk nx r (k / 4) (1 + k % 4)
/-- the least cost of the last d lines within a room -/
def leG (g : PGr) (pk : Nat → Int32) : Nat → Nat → Nat
  | 0, _ => 0
  | d + 1, r => bsF (fG g (pk (nL g - (d + 1))) (leG g pk d) r) (4 * nS g)
def LB9 (nx : Nat → Nat) (B : Nat) : Prop := ∀ r, nx r = 1000000 ∨ nx r ≤ B
theorem coS_le {g : PGr} (hG : GK9 g) {s : Nat} (hs : s < nS g) : coS g s ≤ 999 := by
  have hs : s < g.1.length := hs
  have := (hG.2.1 _ (List.getElem_mem hs)).2.2
  unfold coS
  rw [List.getD_eq_getElem?_getD, List.getElem?_eq_getElem hs]
  exact this
theorem fG_b {g : PGr} {pk : Int32} {nx : Nat → Nat} {B r k : Nat} (hG : GK9 g) (h : LB9 nx B) (hB : B + 3996 < 1000000) (hk : k < 4 * nS g) : fG g pk nx r k = 1000000 ∨ fG g pk nx r k ≤ B + 3996 := by
  unfold fG lbG
  split
  · have hs : k / 4 < nS g := by omega
    have hc := coS_le hG hs
    have h4 : 1 + k % 4 ≤ 4 := by omega
    have hm : coS g (k / 4) * (1 + k % 4) ≤ 999 * 4 := Nat.mul_le_mul hc h4
    have := h (r - (1 + k % 4))
    omega
  · exact Or.inl rfl
theorem leG_b {g : PGr} {pk : Nat → Int32} (hG : GK9 g) : ∀ d, d ≤ 16 → LB9 (leG g pk d) (3996 * d) := by
  intro d
  induction d with
  | zero => intro _ r; exact Or.inr (Nat.le_refl 0)
  | succ d ih =>
    intro hd r
    have h := ih (by omega)
    show bsF _ (4 * nS g) = 1000000 ∨ bsF _ (4 * nS g) ≤ _
    refine (bs_b (B := 3996 * d + 3996) (fun k hk => fG_b hG h (by omega) hk)).imp id (fun q => by omega)
theorem leG_cong {g : PGr} {pk pk' : Nat → Int32} (h : ∀ l, l < nL g → pk l = pk' l) : ∀ d, d ≤ nL g → ∀ r, leG g pk d r = leG g pk' d r := by
  intro d
  induction d with
  | zero => intro _ r; rfl
  | succ d ih =>
    intro hd r
    have e : leG g pk d = leG g pk' d := funext (ih (by omega))
    show bsF (fG g (pk (nL g - (d + 1))) (leG g pk d) r) (4 * nS g) = bsF (fG g (pk' (nL g - (d + 1))) (leG g pk' d) r) (4 * nS g)
    rw [e, h _ (by omega)]
def enN (v : Nat) : Nat := if v = 1000000 then 1000000000 else v
theorem enN_b {v : Nat} (h : v ≤ 1000000) : enN v ≤ 1000000000 := by unfold enN; split <;> omega
/-- which stuff and twins -/
def amI : Option Nat → Int32 × Int32
  | none => (-1, 0)
  | some j => (nI (j / 4), nI (1 + j % 4))
section LC
variable {g : PGr} {be co lk : Nat → Int32} {lr : Nat → Nat → Int32}
theorem sq0_find {l r B : Nat} {u v : Int32} {nx : Nat → Nat} {Φ : Int32 → Int32 → Int32 → Prop} (hS : SA9 g.1 be co) (hG : GK9 g) (hl : l < 16) (hr : r ≤ 64) (hrow : ∀ q, q ≤ 64 → lr (l + 1) q = nI (enN (nx q))) (hb : LB9 nx B) (hB : B + 3996 < 1000000) (h : Φ (nI (enN (bsF (fG g (lk l) nx r) (4 * nS g)))) (amI (amF (fG g (lk l) nx r) (4 * nS g))).1 (amI (amF (fG g (lk l) nx r) (4 * nS g))).2) : wl_X0_find lk lr (nI (nS g)) be co (nI l) (nI r) u v Φ := by
  have h4 : nS g ≤ 4 := hG.1
  generalize hf : fG g (lk l) nx r = f at h
  have fk : ∀ i t, i < nS g → 1 ≤ t → t ≤ 4 → f (4 * i + (t - 1)) = lbG g (lk l) nx r i t := by
    intro i t _ h1 h2
    rw [← hf]
    unfold fG
    rw [show (4 * i + (t - 1)) / 4 = i by omega, show 1 + (4 * i + (t - 1)) % 4 = t by omega]
  have k31 : ∀ (κ : Int32 → Int32 → Int32 → Int32 → Prop) (i : Nat), i < nS g → κ (amI (amF f (4 * (i + 1)))).1 (amI (amF f (4 * (i + 1)))).2 (nI (enN (bsF f (4 * (i + 1))))) (nI (i + 1)) → ∀ (m t : Nat), 1 ≤ t → t ≤ 5 → ll_X0_find_31 lk lr (nI (nS g)) be co (nI l) (nI r) κ Φ m (amI (amF f (4 * i + (t - 1)))).1 (amI (amF f (4 * i + (t - 1)))).2 (nI (enN (bsF f (4 * i + (t - 1))))) (nI i) (nI t) := by
    intro κ i hi hκ m
    induction m with
    | zero => intros; trivial
    | succ m ih =>
      intro t ht1 ht5
      show bl_X0_find_31 _ _ _ _ _ _ _ _ _ _ _ _ _ _ _
      unfold bl_X0_find_31
      have q4 : (4 : Int32) < nI t ↔ 4 < t := nI_ltI (a := 4) (by decide) (by omega)
      obtain ⟨b1, b2⟩ := hS.beZ hi
      have hbk := bsF_le f (4 * i + (t - 1))
      rw [q4, nI_ltI (by omega) (by omega), nI_1]
      refine ⟨fun z => ?_, fun z => ⟨fun z2 => ?_, fun z2 => ?_⟩⟩
      · rw [show 4 * i + (t - 1) = 4 * (i + 1) by omega]
        exact hκ
      · obtain ⟨s1, s2⟩ := bs_skip (f := f) (k := 4 * i + (t - 1)) (5 - t) (fun j a b => by
          have := fk i (j - 4 * i + 1) hi (by omega) (by omega)
          rw [show 4 * i + (j - 4 * i + 1 - 1) = j by omega] at this
          rw [this]
          unfold lbG
          rw [if_neg (fun q => by omega)])
        rw [← s1, ← s2, show 4 * i + (t - 1) + (5 - t) = 4 * (i + 1) by omega]
        exact hκ
      · have hft := fk i t hi ht1 (by omega)
        have nxt := ih (t + 1) (by omega) (by omega)
        rw [show 4 * i + (t + 1 - 1) = 4 * i + (t - 1) + 1 by omega] at nxt
        rw [amF_s, bsF_s, hft] at nxt
        have hco := coS_le hG hi
        have hm : coS g i * t ≤ 999 * 4 := Nat.mul_le_mul hco (by omega)
        have hnb := hb (r - t)
        rw [pk_sub (show t ≤ r by omega), nI_clamp (n := i) (by omega), nI_clamp (n := l) (by omega), nI_1, nI_clamp (n := l + 1) (by omega), nI_clamp (n := r - t) (by omega), b1, b2, hrow _ (by omega), pk_mul (coS g i) t, nI_add, nI_1]
        refine fun _ _ _ _ _ => ⟨fun w => ?_, fun w => ?_⟩
        · -- too weak
          have e : lbG g (lk l) nx r i t = 1000000 := by
            unfold lbG
            rw [if_neg (fun q => Int32.not_le.mpr w q.2)]
          rw [e, if_neg (by omega), Nat.min_eq_left hbk] at nxt
          exact nxt
        · have e : lbG g (lk l) nx r i t = min 1000000 (coS g i * t + nx (r - t)) := by
            unfold lbG
            rw [if_pos ⟨by omega, Int32.not_lt.mp w⟩]
          rw [e] at nxt
          rcases hnb with hnb | hnb
          · have ee : enN (nx (r - t)) = 1000000000 := by unfold enN; rw [if_pos hnb]
            have hen := enN_b hbk
            rw [show min 1000000 (coS g i * t + nx (r - t)) = 1000000 by omega, if_neg (by omega), Nat.min_eq_left hbk] at nxt
            rw [ee, nI_leI (by omega) (by omega)]
            exact ⟨fun _ => nxt, fun q => absurd q (by omega)⟩
          · have ee : enN (nx (r - t)) = nx (r - t) := by unfold enN; rw [if_neg (by omega)]
            rw [show min 1000000 (coS g i * t + nx (r - t)) = coS g i * t + nx (r - t) by omega] at nxt
            have hen := enN_b hbk
            rw [ee, nI_leI (by omega) (by omega)]
            have q : enN (bsF f (4 * i + (t - 1))) ≤ coS g i * t + nx (r - t) ↔ bsF f (4 * i + (t - 1)) ≤ coS g i * t + nx (r - t) := by
              unfold enN
              split <;> omega
            rw [q]
            refine ⟨fun y => ?_, fun y => ?_⟩
            · rw [if_neg (by omega), Nat.min_eq_left (by omega)] at nxt
              exact nxt
            · rw [if_pos (by omega), Nat.min_eq_right (by omega)] at nxt
              have e1 : (4 * i + (t - 1)) / 4 = i := by omega
              have e2 : 1 + (4 * i + (t - 1)) % 4 = t := by omega
              have e3 : enN (coS g i * t + nx (r - t)) = coS g i * t + nx (r - t) := by unfold enN; rw [if_neg (by omega)]
              have nxt : ll_X0_find_31 lk lr (nI (nS g)) be co (nI l) (nI r) κ Φ m (nI ((4 * i + (t - 1)) / 4)) (nI (1 + (4 * i + (t - 1)) % 4)) (nI (enN (coS g i * t + nx (r - t)))) (nI i) (nI (t + 1)) := nxt
              rw [e1, e2, e3] at nxt
              exact nxt
  have k16 : ∀ (m i : Nat), i ≤ nS g → ll_X0_find_16 lk lr (nI (nS g)) be co (nI l) (nI r) Φ m (amI (amF f (4 * i))).1 (amI (amF f (4 * i))).2 (nI (enN (bsF f (4 * i)))) (nI i) := by
    intro m
    induction m with
    | zero => intros; trivial
    | succ m ih =>
      intro i hi
      show bl_X0_find_16 _ _ _ _ _ _ _ _ _ _ _ _ _
      unfold bl_X0_find_16
      rw [nI_leI (by omega) (by omega)]
      refine ⟨fun z => ?_, fun z n_ => ?_⟩
      · have e : i = nS g := by omega
        subst e
        exact h
      · have := k31 _ i (by omega) (ih (i + 1) (by omega)) n_ 1 (by decide) (by decide)
        exact this
  exact fun m => k16 m 0 (Nat.zero_le _)
/-- the class's table -/
def TB9 (g : PGr) (pk : Nat → Int32) (lr : Nat → Nat → Int32) (l0 : Nat) : Prop := ∀ l, l0 ≤ l → l ≤ nL g → ∀ r, r ≤ 64 → lr l r = nI (enN (leG g pk (nL g - l) r))
theorem leG_s {pk : Nat → Int32} {l r : Nat} (hl : l < nL g) : leG g pk (nL g - l) r = bsF (fG g (pk l) (leG g pk (nL g - (l + 1))) r) (4 * nS g) := by
  rw [show nL g - l = nL g - (l + 1) + 1 by omega]
  show bsF (fG g (pk (nL g - (nL g - (l + 1) + 1))) (leG g pk (nL g - (l + 1))) r) (4 * nS g) = _
  rw [show nL g - (nL g - (l + 1) + 1) = l by omega]
theorem sq0_make {ap : Nat → Int32} {pg lp : Nat} {u v : Int32} {Φ : Nat → Int32 → Int32 → (Nat → Int32) → (Nat → Nat → Int32) → Prop} (hS : SA9 g.1 be co) (hG : GK9 g) (h : ∀ u v lk lr, AGn 16 ap lk → TB9 g ap lr 0 → Φ pg u v lk lr) : wl_X0_make ap (nI (nS g)) (nI (nL g)) be co pg lp u v lk lr Φ := by
  have h16 : nL g ≤ 16 := hG.2.2.2.2.2.2.2.2.1
  unfold wl_X0_make
  rw [nI_clamp (n := nL g) (by omega)]
  intro _
  have hlk : AGn 16 ap (va_cpy ap lk 0 0 16) := fun j hj => by rw [pk_cpy_in (Nat.zero_le _) (by omega), show 0 + (j - 0) = j by omega]
  generalize va_cpy ap lk 0 0 16 = lk' at hlk
  refine sq_fill (rl := 65) (by decide) (fun ar h0 _ => ?_)
  have k50 : ∀ (κ : Nat → Int32 → Int32 → (Nat → Int32) → (Nat → Nat → Int32) → Int32 → Prop) (l : Nat), l < nL g → (∀ u v lr, TB9 g ap lr l → κ pg u v lk' lr (nI l + (-1))) → ∀ (m r : Nat) (u v : Int32) (lr : Nat → Nat → Int32), r ≤ 65 → TB9 g ap lr (l + 1) → (∀ q, q < r → lr l q = nI (enN (leG g ap (nL g - l) q))) → ll_X0_make_50 ap (nI (nS g)) (nI (nL g)) be co pg κ Φ m pg u v lk' lr (nI l) (nI r) := by
    intro κ l hl hκ m
    induction m with
    | zero => intros; trivial
    | succ m ih =>
      intro r u v lr hr ht hq
      show bl_X0_make_50 _ _ _ _ _ _ _ _ _ _ _ _ _ _ _ _
      unfold bl_X0_make_50
      have q64 : (64 : Int32) < nI r ↔ 64 < r := nI_ltI (a := 64) (by decide) (by omega)
      rw [q64, nI_1]
      refine ⟨fun z => hκ u v lr (fun l' a b q hq' => ?_), fun z _ _ => ?_⟩
      · by_cases e : l' = l
        · subst e; exact hq q (by omega)
        · exact ht l' (by omega) b q hq'
      · refine sq0_find (B := 3996 * (nL g - (l + 1))) hS hG (by omega) (by omega) (fun q hq' => ht (l + 1) (Nat.le_refl _) (by omega) q hq') (leG_b hG _ (by omega)) (by omega) (fun _ => ?_)
        rw [nI_clamp (n := l) (by omega), nI_clamp (n := r) (by omega), hlk l (by omega), ← leG_s hl]
        refine ih (r + 1) _ _ _ (by omega) (fun l' a b q hq' => ?_) (fun q hq' => ?_)
        · unfold updR
          rw [if_neg (by omega)]
          exact ht l' a b q hq'
        · unfold updR
          rw [if_pos rfl]
          by_cases e : q = r
          · rw [e, pk_us]
          · rw [pk_un e]; exact hq q (by omega)
  have k43 : ∀ (m l : Nat) (u v : Int32) (lr : Nat → Nat → Int32), l ≤ nL g → TB9 g ap lr l → ll_X0_make_43 ap (nI (nS g)) (nI (nL g)) be co pg Φ m pg u v lk' lr (nI l + (-1)) := by
    intro m
    induction m with
    | zero => intros; trivial
    | succ m ih =>
      intro l u v lr hl ht
      show bl_X0_make_43 _ _ _ _ _ _ _ _ _ _ _ _ _ _
      unfold bl_X0_make_43
      cases l with
      | zero => exact ⟨fun _ => h _ _ _ _ hlk ht, fun z => absurd (by decide) z⟩
      | succ l =>
        rw [pk_m1]
        exact ⟨fun z => absurd z (nI_pos (by omega)), fun _ n_ => k50 _ l (by omega) (fun u v lr ht' => ih l u v lr (by omega) ht') n_ 0 u v lr (by decide) ht (fun q hq => absurd hq (Nat.not_lt_zero _))⟩
  intro n_
  have e1 : nI (nL g) - 1 = nI (nL g) + (-1) := Int32.sub_eq_add_neg _ _
  rw [e1]
  refine k43 n_ (nL g) u v _ (Nat.le_refl _) (fun l a b r hr => ?_)
  have e : l = nL g := by omega
  subst e
  unfold updR
  rw [if_pos rfl, h0 r (by omega), Nat.sub_self]
  rfl
theorem sq0_leastCost {pk : Nat → Int32} {r : Nat} {Φ : Int32 → Prop} (hG : GK9 g) (ht : TB9 g pk lr 0) (hr : r ≤ 64) (h : Φ (if leG g pk (nL g) r < 1000000 then nI (leG g pk (nL g) r) else -1)) : wl_X0_leastCost lr (nI r) Φ := by
  have h16 : nL g ≤ 16 := hG.2.2.2.2.2.2.2.2.1
  have hb := leG_b (pk := pk) hG (nL g) h16 r
  have e := ht 0 (Nat.le_refl _) (Nat.zero_le _) r hr
  rw [Nat.sub_zero] at e
  unfold wl_X0_leastCost
  rw [nI_clamp (n := r) (by omega), e]
  have q9 : (1000000000 : Int32) ≤ nI (enN (leG g pk (nL g) r)) ↔ 1000000000 ≤ enN (leG g pk (nL g) r) := nI_leI (a := 1000000000) (by decide) (by have := enN_b (v := leG g pk (nL g) r) (by omega); omega)
  rw [q9]
  unfold enN
  by_cases z : leG g pk (nL g) r = 1000000
  · rw [if_pos z]
    rw [if_neg (by omega)] at h
    exact fun _ => ⟨fun _ => h, fun q => absurd (Nat.le_refl _) q⟩
  · rw [if_neg z]
    rw [if_pos (by omega)] at h
    exact fun _ => ⟨fun q => by omega, fun _ _ => h⟩
/-- the stuff and twins of the line, and what room is left behind it -/
def lsG (g : PGr) (pk : Nat → Int32) (room : Nat) : Nat → Nat × Option Nat
  | 0 => (room, amF (fG g (pk 0) (leG g pk (nL g - 1)) room) (4 * nS g))
  | l + 1 => ((lsG g pk room l).1 - (1 + ((lsG g pk room l).2.getD 0) % 4), amF (fG g (pk (l + 1)) (leG g pk (nL g - (l + 2))) ((lsG g pk room l).1 - (1 + ((lsG g pk room l).2.getD 0) % 4))) (4 * nS g))
theorem lsG_2 {pk : Nat → Int32} {room : Nat} : ∀ l, (lsG g pk room l).2 = amF (fG g (pk l) (leG g pk (nL g - (l + 1))) (lsG g pk room l).1) (4 * nS g)
  | 0 => rfl
  | _ + 1 => rfl
theorem lsG_s {pk : Nat → Int32} {room l : Nat} : (lsG g pk room (l + 1)).1 = (lsG g pk room l).1 - (1 + ((lsG g pk room l).2.getD 0) % 4) := rfl
/-- each line is laid, within the room -/
theorem lsG_ok {pk : Nat → Int32} {room : Nat} (hG : GK9 g) (h : leG g pk (nL g) room < 1000000) : ∀ l, l < nL g → leG g pk (nL g - l) (lsG g pk room l).1 < 1000000 ∧ (lsG g pk room l).1 ≤ room ∧ ∃ j, (lsG g pk room l).2 = some j ∧ j < 4 * nS g ∧ 1 + j % 4 ≤ (lsG g pk room l).1 ∧ leG g pk (nL g - (l + 1)) ((lsG g pk room l).1 - (1 + j % 4)) < 1000000 := by
  have one : ∀ l, l < nL g → leG g pk (nL g - l) (lsG g pk room l).1 < 1000000 → ∃ j, (lsG g pk room l).2 = some j ∧ j < 4 * nS g ∧ 1 + j % 4 ≤ (lsG g pk room l).1 ∧ leG g pk (nL g - (l + 1)) ((lsG g pk room l).1 - (1 + j % 4)) < 1000000 := by
    intro l hl hlt
    rw [leG_s hl] at hlt
    obtain ⟨j, hj⟩ := am_yes hlt
    obtain ⟨a, b, _⟩ := am_some hj
    refine ⟨j, (lsG_2 l).trans hj, a, ?_⟩
    rw [← b] at hlt
    unfold fG lbG at hlt
    split at hlt
    · rename_i q
      exact ⟨q.1, by omega⟩
    · omega
  intro l
  induction l with
  | zero =>
    intro hl
    have e : leG g pk (nL g - 0) (lsG g pk room 0).1 < 1000000 := h
    exact ⟨e, Nat.le_refl _, one 0 hl e⟩
  | succ l ih =>
    intro hl
    obtain ⟨_, hr, j, e1, e2, e3, e4⟩ := ih (by omega)
    have es : (lsG g pk room (l + 1)).1 = (lsG g pk room l).1 - (1 + j % 4) := by rw [lsG_s, e1]; rfl
    have e : leG g pk (nL g - (l + 1)) (lsG g pk room (l + 1)).1 < 1000000 := by rw [es]; exact e4
    exact ⟨e, by omega, one (l + 1) hl e⟩
theorem sq0_choose {pk : Nat → Int32} {room l : Nat} {u v : Int32} {Φ : Int32 → Int32 → Prop} (hS : SA9 g.1 be co) (hG : GK9 g) (hlk : AGn (nL g) pk lk) (ht : TB9 g pk lr 0) (hr : room ≤ 64) (hl : l < nL g) (hok : leG g pk (nL g) room < 1000000) (h : Φ (amI (lsG g pk room l).2).1 (amI (lsG g pk room l).2).2) : wl_X0_choose lk lr (nI (nS g)) be co (nI room) (nI l) u v Φ := by
  have h16 : nL g ≤ 16 := hG.2.2.2.2.2.2.2.2.1
  have key : ∀ (m i : Nat), 1 ≤ i → i ≤ l + 1 → ll_X0_choose_5 lk lr (nI (nS g)) be co (nI room) (nI l) Φ m (amI (lsG g pk room (i - 1)).2).1 (amI (lsG g pk room (i - 1)).2).2 (nI (lsG g pk room (i - 1)).1 - (amI (lsG g pk room (i - 1)).2).2) (nI i) := by
    intro m
    induction m with
    | zero => intros; trivial
    | succ m ih =>
      intro i hi1 hi
      obtain ⟨a1, a2, j, a3, a4, a5, a6⟩ := lsG_ok hG hok (i - 1) (by omega)
      have enx := ih (i + 1) (by omega)
      rw [show i + 1 - 1 = i by omega] at enx
      show bl_X0_choose_5 _ _ _ _ _ _ _ _ _ _ _ _ _
      unfold bl_X0_choose_5
      rw [nI_ltI (by omega) (by omega)]
      refine ⟨fun z => ?_, fun z => ?_⟩
      · have e : i - 1 = l := by omega
        rw [e]
        exact h
      · obtain ⟨b1, b2, j', b3, b4, b5, b6⟩ := lsG_ok hG hok i (by omega)
        have es : (lsG g pk room i).1 = (lsG g pk room (i - 1)).1 - (1 + j % 4) := by
          have := lsG_s (g := g) (pk := pk) (room := room) (l := i - 1)
          rw [show i - 1 + 1 = i by omega, a3] at this
          exact this
        have e2 : (amI (lsG g pk room (i - 1)).2).2 = nI (1 + j % 4) := by rw [a3]; rfl
        rw [e2, pk_sub a5, ← es]
        refine ⟨fun q => absurd q (nI_pos (by omega)), fun _ => ?_⟩
        refine sq0_find (B := 3996 * (nL g - (i + 1))) hS hG (by omega) (by omega) (fun q hq' => ht (i + 1) (Nat.zero_le _) (by omega) q hq') (leG_b hG _ (by omega)) (by omega) ?_
        rw [hlk i (by omega), ← lsG_2 i, nI_1]
        exact enx (by omega)
  intro m
  cases m with
  | zero => trivial
  | succ m =>
    show bl_X0_choose_5 _ _ _ _ _ _ _ _ _ _ _ _ _
    unfold bl_X0_choose_5
    refine ⟨fun z => absurd z (nI_pos (by omega)), fun _ => ⟨fun q => absurd q (nI_pos (by omega)), fun _ => ?_⟩⟩
    refine sq0_find (l := 0) (r := room) (B := 3996 * (nL g - 1)) hS hG (by decide) hr (fun q hq' => ht 1 (Nat.zero_le _) (by omega) q hq') (leG_b hG _ (by omega)) (by omega) ?_
    rw [hlk 0 (by omega)]
    have e0 : amF (fG g (pk 0) (leG g pk (nL g - 1)) room) (4 * nS g) = (lsG g pk room 0).2 := rfl
    rw [e0]
    exact key m 1 (by decide) (by omega)
end LC
