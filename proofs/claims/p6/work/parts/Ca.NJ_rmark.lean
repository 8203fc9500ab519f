section RMK
theorem sq8_keepsRow0 {rl n b : Nat} {mk r : Nat → Int32} {Φ : Int32 → (Nat → Int32) → (Nat → Int32) → Prop} (hn : n ≤ rl) (hrl : rl ≤ 1000) (hb : b + n ≤ 1200) (h : ∀ mk' r' : Nat → Int32, (∀ i, i < n → mk' (b + i) = r i) → (∀ i, i < b ∨ b + n ≤ i → mk' i = mk i) → (∀ i, i < n → r' i = r i) → Φ (nI (b + n)) mk' r') : wl_X8_keepsRow rl (nI n) 0 (nI b) mk r Φ := by
  have key : ∀ (m l : Nat) (mk' r' : Nat → Int32), l ≤ n → (∀ i, i < l → mk' (b + i) = r i) → (∀ i, i < b ∨ b + l ≤ i → mk' i = mk i) → (∀ i, r' i = r i) → ll_X8_keepsRow_3 rl (nI n) 0 Φ m (nI (b + l)) mk' r' (nI l) := by
    intro m
    induction m with
    | zero => intros; trivial
    | succ m ih =>
      intro l mk' r' hl h1 h2 h3
      show bl_X8_keepsRow_3 _ _ _ _ _ _ _ _ _
      unfold bl_X8_keepsRow_3
      rw [nI_leI (by omega) (by omega), nI_clamp (n := l) (by omega)]
      refine ⟨fun z => ?_, fun z _ => ⟨fun _ _ => ?_, fun z2 => absurd rfl z2⟩⟩
      · have e : l = n := by omega
        subst e
        exact h mk' r' h1 h2 (fun i _ => h3 i)
      · intro _
        rw [nI_1, nI_1, nI_clamp (n := b + l) (by omega)]
        refine ih (l + 1) _ _ (by omega) (fun i hi => ?_) (fun i hi => ?_) (fun i => ?_)
        · by_cases e : i = l
          · rw [e, pk_us]; exact h3 l
          · rw [pk_un (by omega)]; exact h1 i (by omega)
        · rw [pk_un (by omega)]; exact h2 i (by omega)
        · by_cases e : i = l
          · rw [e, pk_us]; exact h3 l
          · rw [pk_un e]; exact h3 i
  exact fun m => key m 0 mk r (Nat.zero_le _) (fun i hi => absurd hi (Nat.not_lt_zero _)) (fun _ _ => rfl) (fun _ => rfl)
theorem sq8_keepsRow1 {rl n b : Nat} {y : Int32} {mk r : Nat → Int32} {Φ : Int32 → (Nat → Int32) → (Nat → Int32) → Prop} (hy : ¬ y = 0) (hn : n ≤ rl) (hrl : rl ≤ 1000) (hb : b + n ≤ 1200) (h : ∀ r' : Nat → Int32, (∀ i, i < n → r' i = mk (b + i)) → Φ (nI (b + n)) mk r') : wl_X8_keepsRow rl (nI n) y (nI b) mk r Φ := by
  have key : ∀ (m l : Nat) (r' : Nat → Int32), l ≤ n → (∀ i, i < l → r' i = mk (b + i)) → ll_X8_keepsRow_3 rl (nI n) y Φ m (nI (b + l)) mk r' (nI l) := by
    intro m
    induction m with
    | zero => intros; trivial
    | succ m ih =>
      intro l r' hl h1
      show bl_X8_keepsRow_3 _ _ _ _ _ _ _ _ _
      unfold bl_X8_keepsRow_3
      rw [nI_leI (by omega) (by omega), nI_clamp (n := l) (by omega)]
      refine ⟨fun z => ?_, fun z _ => ⟨fun z2 => absurd z2 hy, fun _ _ => ?_⟩⟩
      · have e : l = n := by omega
        subst e
        exact h r' h1
      · intro _
        rw [nI_1, nI_1, nI_clamp (n := b + l) (by omega)]
        refine ih (l + 1) _ (by omega) (fun i hi => ?_)
        by_cases e : i = l
        · rw [e, pk_us]
        · rw [pk_un e]; exact h1 i (by omega)
  exact fun m => key m 0 r (Nat.zero_le _) (fun i hi => absurd hi (Nat.not_lt_zero _))
/-- what a laid mark keeps of the machine -/
def MB (k : Nat) (mk : Nat → Int32) (g : PGr) (x : PM) : Prop := RH9 g x (mk (300 * k)) (mk (300 * k + 1)) (mk (300 * k + 2)) (mk (300 * k + 3)) (fun i => mk (300 * k + 4 + i)) (fun i => mk (300 * k + 10 + i)) (fun i => mk (300 * k + 26 + i))
theorem RH9.cpy {g : PGr} {x : PM} {s n k u : Int32} {hc wo hs hc' wo' hs' : Nat → Int32} (h : RH9 g x s n k u hc wo hs) (h6 : nC g ≤ 6) (a : ∀ i, i < 6 → hc' i = hc i) (b : ∀ i, i < 16 → wo' i = wo i) (c : ∀ i, i < 200 → hs' i = hs i) : RH9 g x s n k u hc' wo' hs' := ⟨h.1, h.2.1, fun z => ⟨(h.2.2.1 z).1, (h.2.2.1 z).2.1, fun i hi => (a i (by omega)).trans ((h.2.2.1 z).2.2.1 i hi), fun i y hy hi => (c i hi).trans ((h.2.2.1 z).2.2.2 i y hy hi)⟩, fun i hi => (b i hi).trans (h.2.2.2 i hi)⟩
theorem MB.keep {k j : Nat} {mk mk' : Nat → Int32} {g : PGr} {x : PM} (h : MB k mk g x) (hG : GK9 g) (hne : ¬ k = j) (hm : ∀ i, i < 300 * j ∨ 300 * j + 226 ≤ i → mk' i = mk i) : MB k mk' g x := by
  have h6 : nC g ≤ 6 := hG.2.2.1
  have e0 : mk' (300 * k) = mk (300 * k) := hm _ (by omega)
  have e1 : mk' (300 * k + 1) = mk (300 * k + 1) := hm _ (by omega)
  have e2 : mk' (300 * k + 2) = mk (300 * k + 2) := hm _ (by omega)
  have e3 : mk' (300 * k + 3) = mk (300 * k + 3) := hm _ (by omega)
  unfold MB at h ⊢
  rw [e0, e1, e2, e3]
  exact h.cpy h6 (fun i hi => hm _ (by omega)) (fun i hi => hm _ (by omega)) (fun i hi => hm _ (by omega))
/-- the reference's hand and marks -/
def RVm (hd : MS) (ms : Nat → MS) (s n k u : Int32) (st ce ip ln be co ca ic il im ac aC ls tw lf lt cd hc wo hs mk : Nat → Int32) : Prop := RPY 0 hd st ce ip ln be co ca ic il im ac aC ls tw lf lt cd ∧ MO9 hd ∧ RH9 hd.1 hd.2.2.2 s n k u hc wo hs ∧ ∀ j, j < 4 → RPY (2 + j) (ms j) st ce ip ln be co ca ic il im ac aC ls tw lf lt cd ∧ MO9 (ms j) ∧ MB j mk (ms j).1 (ms j).2.2.2
def updS (f : Nat → MS) (k : Nat) (x : MS) : Nat → MS := fun i => cond (Nat.beq i k) x (f i)
theorem updS_s {f : Nat → MS} {k : Nat} {x : MS} : updS f k x k = x := by unfold updS; rw [Nat.beq_refl]; rfl
theorem updS_n {f : Nat → MS} {k i : Nat} {x : MS} (h : ¬ i = k) : updS f k x i = f i := by
  unfold updS
  cases e : Nat.beq i k with
  | true => exact absurd (Nat.eq_of_beq_eq_true e) h
  | false => rfl
theorem sq8_keeps0 {b : Nat} {v : Int32} {mk : Nat → Int32} {Φ : Int32 → Int32 → (Nat → Int32) → Prop} (hb : b < 1200) (h : Φ v (nI (b + 1)) (upd mk b v)) : wl_X8_keeps v 0 (nI b) mk Φ := by
  unfold wl_X8_keeps
  rw [nI_clamp (n := b) (by omega), nI_1]
  exact ⟨fun _ _ => h, fun z => absurd rfl z⟩
theorem sq8_keeps1 {b : Nat} {v y : Int32} {mk : Nat → Int32} {Φ : Int32 → Int32 → (Nat → Int32) → Prop} (hy : ¬ y = 0) (hb : b < 1200) (h : Φ (mk b) (nI (b + 1)) mk) : wl_X8_keeps v y (nI b) mk Φ := by
  unfold wl_X8_keeps
  rw [nI_clamp (n := b) (by omega), nI_1]
  exact ⟨fun z => absurd z hy, fun _ _ => h⟩
variable {hd : MS} {ms : Nat → MS} {s n k u ma th : Int32} {st ce ip ln be co ca ic il im ac aC ls tw lf lt cd hc wo hs mk isl : Nat → Int32}
theorem sq8_mark59 {x y : Int32} {j : Nat} {Φ : PMk} (hj : j < 4) (ex : x = nI j) (h6 : nC hd.1 ≤ 6)
    (h0 : y = 0 → ∀ (ma' : Int32) (hc' wo' hs' mk' : Nat → Int32), (∀ i, i < 6 → hc' i = hc i) → (∀ i, i < 16 → wo' i = wo i) → (∀ i, i < 200 → hs' i = hs i) → (∀ (g' : PGr) (x' : PM), nC g' ≤ 6 → RH9 g' x' s n k u hc wo hs → MB j mk' g' x') → (∀ i, i < 300 * j ∨ 300 * j + 226 ≤ i → mk' i = mk i) → Φ 1 th s n k u ma' st ce ip ln be co ca ic il im ac aC ls tw lf lt cd hc' wo' hs' isl mk')
    (h1 : ¬ y = 0 → ∀ (ma' s' n' k' u' : Int32) (hc' wo' hs' : Nat → Int32), (∀ (g' : PGr) (x' : PM), nC g' ≤ 6 → MB j mk g' x' → RH9 g' x' s' n' k' u' hc' wo' hs') → Φ 1 th s' n' k' u' ma' st ce ip ln be co ca ic il im ac aC ls tw lf lt cd hc' wo' hs' isl mk) : kl_X8_mark_59 x y Φ th s n k u ma st ce ip ln be co ca ic il im ac aC ls tw lf lt cd hc wo hs isl mk := by
  unfold kl_X8_mark_59
  have e3 : (300 : Int32) * x = nI (300 * j) := by rw [ex, show (300 : Int32) = nI 300 from rfl, pk_mul]
  rw [e3]
  by_cases hy : y = 0
  · subst hy
    refine sq8_keeps0 (by omega) (sq8_keeps0 (by omega) (sq8_keeps0 (by omega) (sq8_keeps0 (by omega) ?_)))
    refine sq8_keepsRow0 (n := 6) (by decide) (by decide) (by omega) (fun m1 r1 a1 a2 a3 => ?_)
    refine sq8_keepsRow0 (n := 16) (by decide) (by decide) (by omega) (fun m2 r2 b1 b2 b3 => ?_)
    refine sq8_keepsRow0 (n := 200) (by decide) (by decide) (by omega) (fun m3 r3 c1 c2 c3 => ?_)
    have ch : ∀ i, i < 300 * j + 4 → m3 i = (upd (upd (upd (upd mk (300 * j) s) (300 * j + 1) n) (300 * j + 1 + 1) k) (300 * j + 1 + 1 + 1) u) i := fun i hi => (c2 i (by omega)).trans ((b2 i (by omega)).trans (a2 i (by omega)))
    refine h0 rfl _ r1 r2 r3 m3 a3 b3 c3 (fun g' x' g6 hr => ?_) (fun i hi => ?_)
    · have e0 : m3 (300 * j) = s := by rw [ch _ (by omega), pk_un (by omega), pk_un (by omega), pk_un (by omega), pk_us]
      have e1 : m3 (300 * j + 1) = n := by rw [ch _ (by omega), pk_un (by omega), pk_un (by omega), pk_us]
      have e2 : m3 (300 * j + 2) = k := by rw [ch _ (by omega), pk_un (by omega), pk_us]
      have e4 : m3 (300 * j + 3) = u := by rw [ch _ (by omega), pk_us]
      unfold MB
      rw [e0, e1, e2, e4]
      exact hr.cpy g6 (fun i hi => (c2 _ (by omega)).trans ((b2 _ (by omega)).trans (a1 i hi))) (fun i hi => (c2 _ (by omega)).trans (b1 i hi)) (fun i hi => c1 i hi)
    · rw [c2 i (by omega), b2 i (by omega), a2 i (by omega), pk_un (by omega), pk_un (by omega), pk_un (by omega), pk_un (by omega)]
  · refine sq8_keeps1 hy (by omega) (sq8_keeps1 hy (by omega) (sq8_keeps1 hy (by omega) (sq8_keeps1 hy (by omega) ?_)))
    refine sq8_keepsRow1 (n := 6) hy (by decide) (by decide) (by omega) (fun r1 a1 => ?_)
    refine sq8_keepsRow1 (n := 16) hy (by decide) (by decide) (by omega) (fun r2 b1 => ?_)
    refine sq8_keepsRow1 (n := 200) hy (by decide) (by decide) (by omega) (fun r3 c1 => ?_)
    exact h1 hy _ _ _ _ _ r1 r2 r3 (fun g' x' g6 hr => RH9.cpy hr g6 a1 b1 c1)
theorem sq8_mark {x y f0 : Int32} {Φ : PMk} (hV : RVm hd ms s n k u st ce ip ln be co ca ic il im ac aC ls tw lf lt cd hc wo hs mk)
    (h0 : (x < 0 ∨ 3 < x ∨ (¬ y = 0 ∧ isl x.toNatClampNeg = 0)) → Φ 0 0 s n k u ma st ce ip ln be co ca ic il im ac aC ls tw lf lt cd hc wo hs isl mk)
    (h1 : ∀ (j : Nat) (s' n' k' u' ma' : Int32) (st' ce' ip' ln' be' co' ca' ic' il' im' ac' aC' ls' tw' lf' lt' cd' hc' wo' hs' mk' : Nat → Int32), j < 4 → x = nI j → (y = 0 ∨ ¬ isl j = 0) → RVm (if y = 0 then hd else ms j) (if y = 0 then updS ms j hd else ms) s' n' k' u' st' ce' ip' ln' be' co' ca' ic' il' im' ac' aC' ls' tw' lf' lt' cd' hc' wo' hs' mk' → Φ 1 0 s' n' k' u' ma' st' ce' ip' ln' be' co' ca' ic' il' im' ac' aC' ls' tw' lf' lt' cd' hc' wo' hs' (upd isl j (vp_nar .boolean 1)) mk') : wl_X8_mark x y f0 s n k u ma st ce ip ln be co ca ic il im ac aC ls tw lf lt cd hc wo hs isl mk Φ := by
  obtain ⟨v1, v2, v3, v4⟩ := hV
  have h6 : nC hd.1 ≤ 6 := v2.1.2.2.1
  have h16 : nL hd.1 ≤ 16 := v2.1.2.2.2.2.2.2.2.2.1
  unfold wl_X8_mark
  refine sq8_wi (m := 3) (by decide) (fun e2 => ⟨fun _ => h0 ?_, fun z => absurd rfl z⟩) (fun j hj ej _ => ⟨fun z => absurd z (by decide), fun _ => ?_⟩)
  · by_cases a : x < 0
    · exact Or.inl a
    · by_cases b : 3 < x
      · exact Or.inr (Or.inl b)
      · exfalso
        obtain ⟨i, hi, ei⟩ := nI_of2 (M := 3) (n := 3) (by decide) a (Int32.not_lt.mp b)
        exact ixO_no (by decide) e2 ⟨i, by omega, ei⟩
  have ecl : x.toNatClampNeg = j := by rw [ej, nI_clamp (by omega)]
  rw [ecl] at h0 ⊢
  have e2 : (2 : Int32) + x = nI (2 + j) := by rw [ej, show (2 : Int32) = nI 2 from rfl, nI_add]
  have go : (y = 0 ∨ ¬ isl j = 0) → kl_X8_mark_29 x y Φ 0 s n k u ma st ce ip ln be co ca ic il im ac aC ls tw lf lt cd hc wo hs isl mk := by
    intro hor
    unfold kl_X8_mark_29
    rw [e2, ecl]
    refine fun _ => ⟨fun ey => ?_, fun ey => ?_⟩
    · refine sq8_lays (f := 0) (g := 2 + j) (by decide) (by omega) (by omega) (fun st' ce' ip' ln' be' co' ca' ic' il' im' ac' aC' ls' tw' lf' lt' cd' hly => ?_)
      refine sq8_mark59 (hd := hd) hj ej h6 (fun _ ma' hc' wo' hs' mk' a b c d e => ?_) (fun z => absurd ey z)
      refine h1 j s n k u ma' st' ce' ip' ln' be' co' ca' ic' il' im' ac' aC' ls' tw' lf' lt' cd' hc' wo' hs' mk' hj ej hor ?_
      rw [if_pos ey, if_pos ey]
      refine ⟨⟨hly.2.1 0 _ (by decide) (by omega) v2.1 v1.1, hly.2.2.2 0 _ _ _ (by decide) (by omega) h16 v1.2⟩, v2, v3.cpy h6 a b c, fun i hi => ?_⟩
      by_cases ei : i = j
      · subst ei
        rw [updS_s]
        exact ⟨⟨hly.1 _ v2.1 v1.1, hly.2.2.1 _ _ _ h16 v1.2⟩, v2, d _ _ h6 v3⟩
      · rw [updS_n ei]
        obtain ⟨w1, w2, w3⟩ := v4 i hi
        have hl : nL (ms i).1 ≤ 16 := w2.1.2.2.2.2.2.2.2.2.1
        exact ⟨⟨hly.2.1 _ _ (by omega) (by omega) w2.1 w1.1, hly.2.2.2 _ _ _ _ (by omega) (by omega) hl w1.2⟩, w2, w3.keep w2.1 ei e⟩
    · obtain ⟨u1, u2, u3⟩ := v4 j hj
      have g16 : nL (ms j).1 ≤ 16 := u2.1.2.2.2.2.2.2.2.2.1
      refine sq8_lays (f := 2 + j) (g := 0) (by omega) (by decide) (by omega) (fun st' ce' ip' ln' be' co' ca' ic' il' im' ac' aC' ls' tw' lf' lt' cd' hly => ?_)
      refine sq8_mark59 (hd := hd) hj ej h6 (fun z => absurd z ey) (fun _ ma' s' n' k' u' hc' wo' hs' d => ?_)
      refine h1 j s' n' k' u' ma' st' ce' ip' ln' be' co' ca' ic' il' im' ac' aC' ls' tw' lf' lt' cd' hc' wo' hs' mk hj ej hor ?_
      rw [if_neg ey, if_neg ey]
      refine ⟨⟨hly.1 _ u2.1 u1.1, hly.2.2.1 _ _ _ g16 u1.2⟩, u2, d _ _ u2.1.2.2.1 u3, fun i hi => ?_⟩
      obtain ⟨w1, w2, w3⟩ := v4 i hi
      have hl : nL (ms i).1 ≤ 16 := w2.1.2.2.2.2.2.2.2.2.1
      exact ⟨⟨hly.2.1 _ _ (by omega) (by omega) w2.1 w1.1, hly.2.2.2 _ _ _ _ (by omega) (by omega) hl w1.2⟩, w2, w3⟩
  exact ⟨fun ey => go (Or.inl ey), fun ey _ => ⟨fun eb => go (Or.inr eb), fun eb => h0 (Or.inr (Or.inr ⟨ey, eb⟩))⟩⟩
end RMK
