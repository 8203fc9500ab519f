/-- the registers of the reference's working: kept, keptBy, ahead, against, sum, sumBy, term, termBy, byNot -/
def rg9 (a b c d e f g h i : Nat → Int32) : Nat → Nat → Int32
  | 0 => a
  | 1 => b
  | 2 => c
  | 3 => d
  | 4 => e
  | 5 => f
  | 6 => g
  | 7 => h
  | _ => i
/-- sum, test, all: what the registers of a depth come to -/
def SU9 (R : Nat → Nat → Int32) (d : Nat) : Int32 := if R 5 d = 21 then R 4 d - R 6 d else R 4 d + R 6 d
def TV9 (R : Nat → Nat → Int32) (d : Nat) : Int32 := if R 3 d = 24 then (if R 2 d < SU9 R d then 1 else 0) else if R 3 d = 25 then (if R 2 d = SU9 R d then 1 else 0) else SU9 R d
def XV9 (R : Nat → Nat → Int32) (d : Nat) : Int32 := if R 1 d = 26 then (if ¬ R 0 d = 0 ∧ ¬ TV9 R d = 0 then 1 else 0) else if R 1 d = 27 then (if ¬ R 0 d = 0 ∨ ¬ TV9 R d = 0 then 1 else 0) else TV9 R d
def AG9 (d : Nat) (R R' : Nat → Nat → Int32) : Prop := ∀ i j, i < 9 → j < d → R' i j = R i j
def SM9r (is : List Nat) (d : Nat) (R R' : Nat → Nat → Int32) : Prop := ∀ i, i ∈ is → R' i d = R i d
def PT9 (lv d : Nat) (R0 R : Nat → Nat → Int32) (F : Int32) : Prop := AG9 d R0 R ∧ (if lv = 4 then R 6 d = (if R0 7 d = 0 then F else R0 6 d * F) ∧ SM9r [0, 1, 2, 3, 4, 5, 7, 8] d R0 R else if lv = 3 then R 6 d = F ∧ SM9r [0, 1, 2, 3, 4, 5, 8] d R0 R else if lv = 2 then SU9 R d = F ∧ SM9r [0, 1, 2, 3, 8] d R0 R else if lv = 1 then TV9 R d = F ∧ SM9r [0, 1, 8] d R0 R else XV9 R d = F ∧ SM9r [8] d R0 R)
def PE9 (lv d : Nat) (R : Nat → Nat → Int32) : Prop := (lv ≤ 3 → R 7 d = 0) ∧ (lv ≤ 2 → R 4 d = 0 ∧ R 5 d = 20) ∧ (lv ≤ 1 → R 3 d = 0) ∧ (lv = 0 → R 1 d = 0) ∧ (R 8 d = 0 ∨ d = 0)
abbrev PW9 : Type := Int32 → (Nat → Int32) → (Nat → Int32) → (Nat → Int32) → (Nat → Int32) → (Nat → Int32) → (Nat → Int32) → (Nat → Int32) → (Nat → Int32) → (Nat → Int32) → Prop
theorem sq8_opens {d : Nat} {R : Nat → Nat → Int32} {Φ : (Nat → Int32) → (Nat → Int32) → (Nat → Int32) → (Nat → Int32) → (Nat → Int32) → Prop} (hd : d < 1000) (h : Φ (upd (R 1) d 0) (upd (R 3) d 0) (upd (R 4) d 0) (upd (R 5) d 20) (upd (R 7) d 0)) : wl_X8_opens (nI d) (R 1) (R 3) (R 4) (R 5) (R 7) Φ := by
  unfold wl_X8_opens
  rw [nI_clamp (n := d) (by omega)]
  exact fun _ _ _ _ _ => h
theorem sq8_sums {d : Nat} {R : Nat → Nat → Int32} {Φ : (Nat → Int32) → (Nat → Int32) → Prop} (hd : d < 1000) (h : Φ (upd (R 4) d (SU9 R d)) (upd (R 7) d 0)) : wl_X8_sums (R 5) (R 6) (nI d) (R 4) (R 7) Φ := by
  unfold wl_X8_sums
  rw [nI_clamp (n := d) (by omega)]
  unfold SU9 at h
  refine fun _ => ⟨fun z _ _ _ _ => ?_, fun z _ _ _ _ => ?_⟩
  · rw [if_neg z] at h; exact h
  · rw [if_pos z] at h; exact h
theorem sq8_tests {d : Nat} {R : Nat → Nat → Int32} {Φ : (Nat → Int32) → (Nat → Int32) → (Nat → Int32) → (Nat → Int32) → (Nat → Int32) → Prop} (hd : d < 1000) (h : Φ (upd (R 0) d (XV9 R d)) (upd (R 3) d 0) (upd (upd (R 4) d (SU9 R d)) d 0) (upd (R 5) d 20) (upd (R 7) d 0)) : wl_X8_tests (R 1) (R 2) (R 6) (nI d) (R 0) (R 3) (R 4) (R 5) (R 7) Φ := by
  unfold wl_X8_tests
  refine sq8_sums hd ?_
  rw [nI_clamp (n := d) (by omega), pk_us]
  have k136 : ∀ v, v = XV9 R d → kl_X8_tests_136 (R 1) (R 2) (R 6) (nI d) Φ (R 0) (R 3) (upd (R 4) d (SU9 R d)) (R 5) (upd (R 7) d 0) v := by
    intro v hv
    subst hv
    unfold kl_X8_tests_136
    rw [nI_clamp (n := d) (by omega)]
    exact fun _ _ _ _ => h
  have k76 : ∀ v, v = TV9 R d → kl_X8_tests_76 (R 1) (R 2) (R 6) (nI d) Φ (R 0) (R 3) (upd (R 4) d (SU9 R d)) (R 5) (upd (R 7) d 0) v := by
    intro v hv
    have k106 : ∀ u, (R 1 d = 26 ∨ u = v) → (R 1 d = 26 → u = if ¬ R 0 d = 0 ∧ ¬ v = 0 then 1 else 0) → kl_X8_tests_106 (R 1) (R 2) (R 6) (nI d) Φ (R 0) (R 3) (upd (R 4) d (SU9 R d)) (R 5) (upd (R 7) d 0) u := by
      intro u h1 h2
      unfold kl_X8_tests_106
      rw [nI_clamp (n := d) (by omega)]
      refine fun _ => ⟨fun z => k136 u ?_, fun z => ?_⟩
      · unfold XV9
        by_cases e : R 1 d = 26
        · rw [if_pos e, h2 e, hv]
        · rw [if_neg e, if_neg z, h1.resolve_left e, hv]
      · have n26 : ¬ R 1 d = 26 := fun e => by rw [e] at z; exact absurd z (by (try dsimp only); decide)
        have eu := h1.resolve_left n26
        have ex : XV9 R d = if ¬ R 0 d = 0 ∨ ¬ v = 0 then 1 else 0 := by unfold XV9; rw [if_neg n26, if_pos z, hv]
        refine fun _ => ⟨fun y => k136 1 ?_, fun y => ⟨fun y2 => k136 0 ?_, fun y2 => k136 1 ?_⟩⟩
        · rw [ex, if_pos (Or.inl y)]
        · rw [ex, if_neg (fun q => q.elim (fun q => q y) (fun q => q (eu ▸ y2)))]
        · rw [ex, if_pos (Or.inr (eu ▸ y2))]
    unfold kl_X8_tests_76
    rw [nI_clamp (n := d) (by omega)]
    refine fun _ => ⟨fun z => k106 v (Or.inr rfl) (fun e => absurd e z), fun z _ => ⟨fun y => k106 0 (Or.inl z) (fun _ => by rw [if_neg (fun q => q.1 y)]), fun y => ⟨fun y2 => k106 0 (Or.inl z) (fun _ => by rw [if_neg (fun q => q.2 y2)]), fun y2 => k106 1 (Or.inl z) (fun _ => by rw [if_pos ⟨y, y2⟩])⟩⟩⟩
  have k44 : ∀ u, (R 3 d = 24 ∨ u = SU9 R d) → (R 3 d = 24 → u = if R 2 d < SU9 R d then 1 else 0) → kl_X8_tests_44 (R 1) (R 2) (R 6) (nI d) Φ (R 0) (R 3) (upd (R 4) d (SU9 R d)) (R 5) (upd (R 7) d 0) u := by
    intro u h1 h2
    unfold kl_X8_tests_44
    rw [nI_clamp (n := d) (by omega), pk_us]
    refine fun _ => ⟨fun z => k76 u ?_, fun z _ _ => ?_⟩
    · unfold TV9
      by_cases e : R 3 d = 24
      · rw [if_pos e, h2 e]
      · rw [if_neg e, if_neg z, h1.resolve_left e]
    · have n24 : ¬ R 3 d = 24 := fun e => by rw [e] at z; exact absurd z (by (try dsimp only); decide)
      have ex : TV9 R d = if R 2 d = SU9 R d then 1 else 0 := by unfold TV9; rw [if_neg n24, if_pos z]
      exact ⟨fun y => k76 0 (by rw [ex, if_neg y]), fun y => k76 1 (by rw [ex, if_pos y])⟩
  refine fun _ _ => ⟨fun z => k44 _ (Or.inr rfl) (fun e => absurd e z), fun z _ _ => ⟨fun y => k44 0 (Or.inl z) (fun _ => ?_), fun y => k44 1 (Or.inl z) (fun _ => ?_)⟩⟩
  · rw [if_neg (fun q => absurd (Int32.lt_iff_toInt_lt.mp q) (by have := Int32.le_iff_toInt_le.mp y; omega))]
  · rw [if_pos (Int32.lt_iff_toInt_lt.mpr (by have : ¬ (SU9 R d).toInt ≤ (R 2 d).toInt := fun q => y (Int32.le_iff_toInt_le.mpr q); omega))]
section WK9
/-- the loop of worked goes on well from here: n turns, depth d, the next code's place k -/
def LW9 (at_ way : Int32) (ln lf lt cd vo we : Nat → Int32) (x0 : Int32) (Φ : PW9) (n d k : Nat) (R : Nat → Nat → Int32) : Prop := ll_X8_worked_14 at_ way ln lf lt cd vo we x0 Φ n (R 0) (R 1) (R 2) (R 3) (R 4) (R 5) (R 6) (R 7) (R 8) (nI d) (nI k)
/-- the number v has come at depth d, by the code at k -/
def WH9 (at_ way : Int32) (ln lf lt cd vo we : Nat → Int32) (x0 : Int32) (Φ : PW9) (n d k : Nat) (R : Nat → Nat → Int32) (v : Int32) : Prop := ∀ m, ll_X8_worked_286 at_ way ln lf lt cd vo we x0 (ll_X8_worked_14 at_ way ln lf lt cd vo we x0 Φ n) Φ m (R 0) (R 1) (R 2) (R 3) (R 4) (R 5) (R 6) (R 7) (R 8) (nI d) (nI k) v
/-- the codes i lie at k, and the loop goes on over them -/
def CI9 (lt cd : Nat → Int32) (x0 : Int32) (k : Nat) (i : List Nat) : Prop := (∃ e : Nat, lt x0.toNatClampNeg = nI e ∧ k + i.length ≤ e ∧ e ≤ 6000) ∧ ∀ j c, i[j]? = some c → cd (k + j) = nI c
variable {at_ way : Int32} {ln lf lt cd vo we : Nat → Int32} {x0 : Int32} {Φ : PW9}
theorem CI9.app {k : Nat} {i i2 : List Nat} (h : CI9 lt cd x0 k (i ++ i2)) : CI9 lt cd x0 k i ∧ CI9 lt cd x0 (k + i.length) i2 := by
  obtain ⟨⟨e, h1, h2, h3⟩, h4⟩ := h
  rw [List.length_append] at h2
  refine ⟨⟨⟨e, h1, by omega, h3⟩, fun j c hj => h4 j c (by rw [List.getElem?_append_left (get_lt hj)]; exact hj)⟩, ⟨⟨e, h1, by omega, h3⟩, fun j c hj => ?_⟩⟩
  have := h4 (i.length + j) c (by rw [List.getElem?_append_right (by omega), show i.length + j - i.length = j by omega]; exact hj)
  rw [show k + i.length + j = k + (i.length + j) by omega]
  exact this
theorem CI9.cons {k c : Nat} {i : List Nat} (h : CI9 lt cd x0 k (c :: i)) : cd k = nI c ∧ k < 6000 ∧ (∃ e : Nat, lt x0.toNatClampNeg = nI e ∧ k < e ∧ e ≤ 6000) ∧ CI9 lt cd x0 (k + 1) i := by
  have h' := (CI9.app (i := [c]) (i2 := i) h).2
  obtain ⟨⟨e, h1, h2, h3⟩, h4⟩ := h
  rw [List.length_cons] at h2
  exact ⟨h4 0 c rfl, by omega, ⟨e, h1, by omega, h3⟩, h'⟩
/-- one code: what the loop does of it -/
theorem lw_step {n d k c : Nat} {R : Nat → Nat → Int32} (hk : k < 6000) (hc : cd k = nI c) (he : ∃ e : Nat, lt x0.toNatClampNeg = nI e ∧ k < e ∧ e ≤ 6000) (hc2 : c < 2 ^ 30)
    (h53 : c = 28 ∨ c = 30 ∨ c = 31 → kl_X8_worked_53 at_ way ln lf lt cd vo we x0 (ll_X8_worked_14 at_ way ln lf lt cd vo we x0 Φ n) Φ (R 0) (R 1) (R 2) (R 3) (R 4) (R 5) (R 6) (R 7) (R 8) (nI d) (nI k) (nI c))
    (h107 : c = 20 ∨ c = 21 → kl_X8_worked_107 at_ way ln lf lt cd vo we x0 (ll_X8_worked_14 at_ way ln lf lt cd vo we x0 Φ n) Φ (R 0) (R 1) (R 2) (R 3) (R 4) (R 5) (R 6) (R 7) (R 8) (nI d) (nI k) (nI c))
    (h22 : c = 22 → ll_X8_worked_14 at_ way ln lf lt cd vo we x0 Φ n (R 0) (R 1) (R 2) (R 3) (R 4) (R 5) (R 6) (upd (R 7) (nI d).toNatClampNeg (nI c)) (R 8) (nI d) (nI k + 1))
    (h155 : c = 24 ∨ c = 25 → kl_X8_worked_155 at_ way ln lf lt cd vo we x0 (ll_X8_worked_14 at_ way ln lf lt cd vo we x0 Φ n) Φ (R 0) (R 1) (R 2) (R 3) (R 4) (R 5) (R 6) (R 7) (R 8) (nI d) (nI k) (nI c))
    (h212 : c = 26 ∨ c = 27 → kl_X8_worked_212 at_ way ln lf lt cd vo we x0 (ll_X8_worked_14 at_ way ln lf lt cd vo we x0 Φ n) Φ (R 0) (R 1) (R 2) (R 3) (R 4) (R 5) (R 6) (R 7) (R 8) (nI d) (nI k) (nI c))
    (h29 : c = 29 → kl_X8_worked_261 at_ way ln lf lt cd vo we x0 (ll_X8_worked_14 at_ way ln lf lt cd vo we x0 Φ n) Φ (R 0) (R 1) (R 2) (R 3) (R 4) (R 5) (R 6) (R 7) (R 8) (nI d) (nI k) (nI c) 0)
    (hvo : c < 20 → kl_X8_worked_261 at_ way ln lf lt cd vo we x0 (ll_X8_worked_14 at_ way ln lf lt cd vo we x0 Φ n) Φ (R 0) (R 1) (R 2) (R 3) (R 4) (R 5) (R 6) (R 7) (R 8) (nI d) (nI k) (nI c) (vo c))
    (hnu : 100 ≤ c → kl_X8_worked_261 at_ way ln lf lt cd vo we x0 (ll_X8_worked_14 at_ way ln lf lt cd vo we x0 Φ n) Φ (R 0) (R 1) (R 2) (R 3) (R 4) (R 5) (R 6) (R 7) (R 8) (nI d) (nI k) (nI c) (nI (c - 100)))
    (hok : c < 20 ∨ c = 20 ∨ c = 21 ∨ c = 22 ∨ (24 ≤ c ∧ c ≤ 31) ∨ 100 ≤ c) : LW9 at_ way ln lf lt cd vo we x0 Φ (n + 1) d k R := by
  obtain ⟨e, e1, e2, e3⟩ := he
  have q : ∀ j : Nat, j < 200 → (nI c = nI j ↔ c = j) := fun j hj => nI_eq (by omega) (by omega)
  have q28 : nI c = 28 ↔ c = 28 := q 28 (by decide)
  have q30 : nI c = 30 ↔ c = 30 := q 30 (by decide)
  have q31 : nI c = 31 ↔ c = 31 := q 31 (by decide)
  have q20 : nI c = 20 ↔ c = 20 := q 20 (by decide)
  have q21 : nI c = 21 ↔ c = 21 := q 21 (by decide)
  have q22 : nI c = 22 ↔ c = 22 := q 22 (by decide)
  have q24 : nI c = 24 ↔ c = 24 := q 24 (by decide)
  have q25 : nI c = 25 ↔ c = 25 := q 25 (by decide)
  have q26 : nI c = 26 ↔ c = 26 := q 26 (by decide)
  have q27 : nI c = 27 ↔ c = 27 := q 27 (by decide)
  have l100 : nI c < 100 ↔ c < 100 := nI_ltI (b := 100) (by omega) (by decide)
  have l20 : (20 : Int32) ≤ nI c ↔ 20 ≤ c := nI_leI (a := 20) (by decide) (by omega)
  show bl_X8_worked_14 _ _ _ _ _ _ _ _ _ _ _ _ _ _ _ _ _ _ _ _ _ _
  unfold bl_X8_worked_14
  rw [nI_clamp (n := k) (by omega), hc, e1, q28, q30, q31, q20, q21, q22, q24, q25, q26, q27, l100, l20, nI_leI (by omega) (by omega)]
  refine fun _ => ⟨fun z => absurd z (by omega), fun _ _ => ⟨fun z => h53 (Or.inl z), fun n28 => ⟨fun z => h53 (Or.inr (Or.inl z)), fun n30 => ⟨fun n31 => ⟨fun z => h107 (Or.inl z), fun n20 => ⟨fun n21 => ⟨fun n22 => ⟨fun z => h155 (Or.inl z), fun n24 => ⟨fun n25 => ⟨fun z => h212 (Or.inl z), fun n26 => ⟨fun n27 => ⟨fun z => ⟨fun y => h29 (by omega), fun y _ => ?_⟩, fun z => ?_⟩, fun z => h212 (Or.inr z)⟩⟩, fun z => h155 (Or.inr z)⟩⟩, fun z _ => h22 z⟩, fun z => h107 (Or.inr z)⟩⟩, fun z => h53 (Or.inr (Or.inr z))⟩⟩⟩⟩
  · rw [nI_clamp (n := c) (by omega)]
    exact hvo (by omega)
  · have := hnu (by omega)
    rw [← pk_sub (show 100 ≤ c by omega)] at this
    exact this
end WK9
