section SE9
/-- the reference's codes i, at depth ne, bring the number F to it -/
def IP9 (ne : Nat) (i : List Nat) (F : EF) : Prop := ∀ (at_ way : Int32) (ln lf lt cd vo we : Nat → Int32) (x0 : Int32) (Φ : PW9) (ce : Nat → Int32) (wv : Int32 → Int32), (∀ c, c < 6 → vo (1 + c) = ce c) → (∀ (x : Int32) (Ψ : Int32 → Prop), Ψ (wv x) → wl_X8_wornness at_ way ln we x Ψ) → ∀ (n k : Nat) (R : Nat → Nat → Int32), CI9 lt cd x0 k i → (∀ n' R', AG9 (ne + 1) R R' → WH9 at_ way ln lf lt cd vo we x0 Φ n' ne (k + i.length - 1) R' (F ce wv)) → LW9 at_ way ln lf lt cd vo we x0 Φ n ne k R
/-- the reference's codes i of an expression of a level, at depth ne, make F of the registers -/
def IX9 (lv ne : Nat) (i : List Nat) (F : EF) : Prop := ∀ (at_ way : Int32) (ln lf lt cd vo we : Nat → Int32) (x0 : Int32) (Φ : PW9) (ce : Nat → Int32) (wv : Int32 → Int32), (∀ c, c < 6 → vo (1 + c) = ce c) → (∀ (x : Int32) (Ψ : Int32 → Prop), Ψ (wv x) → wl_X8_wornness at_ way ln we x Ψ) → ∀ (n k : Nat) (R : Nat → Nat → Int32), CI9 lt cd x0 k i → PE9 lv ne R → (∀ n' R', PT9 lv ne R R' (F ce wv) → LW9 at_ way ln lf lt cd vo we x0 Φ n' ne (k + i.length) R') → LW9 at_ way ln lf lt cd vo we x0 Φ n ne k R
section WH
variable {at_ way : Int32} {ln lf lt cd vo we : Nat → Int32} {x0 : Int32} {Φ : PW9}
/-- a number has come where nothing waits: it is a term, or a factor -/
theorem wh_end {n d k : Nat} {R : Nat → Nat → Int32} {v : Int32} (hd : d < 1000) (h8 : R 8 d = 0 ∨ d = 0) (h : ∀ R', PT9 4 d R R' v → LW9 at_ way ln lf lt cd vo we x0 Φ n d (k + 1) R') : WH9 at_ way ln lf lt cd vo we x0 Φ n d k R v := by
  have k336 : kl_X8_worked_336 at_ way ln lf lt cd vo we x0 (ll_X8_worked_14 at_ way ln lf lt cd vo we x0 Φ n) Φ (R 0) (R 1) (R 2) (R 3) (R 4) (R 5) (R 6) (R 7) (R 8) (nI d) (nI k) v := by
    unfold kl_X8_worked_336
    rw [nI_clamp (n := d) (by omega), nI_1]
    have ag : ∀ x, AG9 d R (rg9 (R 0) (R 1) (R 2) (R 3) (R 4) (R 5) (upd (R 6) d x) (R 7) (R 8)) := by
      intro x i j hi hj
      match i, hi with
      | 0, _ => rfl
      | 1, _ => rfl
      | 2, _ => rfl
      | 3, _ => rfl
      | 4, _ => rfl
      | 5, _ => rfl
      | 6, _ => exact pk_un (by omega)
      | 7, _ => rfl
      | 8, _ => rfl
    have sm : ∀ x, SM9r [0, 1, 2, 3, 4, 5, 7, 8] d R (rg9 (R 0) (R 1) (R 2) (R 3) (R 4) (R 5) (upd (R 6) d x) (R 7) (R 8)) := by
      intro x i hi
      simp only [List.mem_cons, List.not_mem_nil, or_false] at hi
      rcases hi with rfl | rfl | rfl | rfl | rfl | rfl | rfl | rfl <;> rfl
    refine fun _ => ⟨fun z _ _ => ?_, fun z _ => ?_⟩
    · refine h (rg9 (R 0) (R 1) (R 2) (R 3) (R 4) (R 5) (upd (R 6) d (R 6 d * v)) (R 7) (R 8)) ⟨ag _, ?_⟩
      rw [if_pos rfl, if_neg z]
      exact ⟨pk_us, sm _⟩
    · refine h (rg9 (R 0) (R 1) (R 2) (R 3) (R 4) (R 5) (upd (R 6) d v) (R 7) (R 8)) ⟨ag _, ?_⟩
      rw [if_pos rfl, if_pos z]
      exact ⟨pk_us, sm _⟩
  intro m
  cases m with
  | zero => trivial
  | succ m =>
    show bl_X8_worked_286 _ _ _ _ _ _ _ _ _ _ _ _ _ _ _ _ _ _ _ _ _ _ _ _
    unfold bl_X8_worked_286
    rw [nI_clamp (n := d) (by omega)]
    refine ⟨fun _ => k336, fun z _ => ⟨fun _ => k336, fun y => ?_⟩⟩
    rcases h8 with e | e
    · rw [e] at y; exact absurd (by decide) y
    · rw [e] at z; exact absurd (by decide) z
/-- behind a not -/
theorem wh_not {n d k : Nat} {R : Nat → Nat → Int32} {v : Int32} (hd : d < 1000) (h8 : R 8 (d + 1) = 1) (h : WH9 at_ way ln lf lt cd vo we x0 Φ n d k R (nt v)) : WH9 at_ way ln lf lt cd vo we x0 Φ n (d + 1) k R v := by
  intro m
  cases m with
  | zero => trivial
  | succ m =>
    show bl_X8_worked_286 _ _ _ _ _ _ _ _ _ _ _ _ _ _ _ _ _ _ _ _ _ _ _ _
    unfold bl_X8_worked_286
    rw [nI_clamp (n := d + 1) (by omega), h8, pk_m1]
    have hm := h m
    unfold nt at hm
    refine ⟨fun z => absurd z (nI_nle (by omega) (by omega)), fun _ _ => ⟨fun z => absurd z (by (try dsimp only); decide), fun _ _ => ⟨fun _ => ⟨fun z => ?_, fun z => ?_⟩, fun z => absurd z (by (try dsimp only); decide)⟩⟩⟩
    · rw [if_neg z] at hm; exact hm
    · rw [if_pos z] at hm; exact hm
/-- behind a worn -/
theorem wh_worn {n d k : Nat} {R : Nat → Nat → Int32} {v : Int32} {wv : Int32 → Int32} (hw : ∀ (x : Int32) (Ψ : Int32 → Prop), Ψ (wv x) → wl_X8_wornness at_ way ln we x Ψ) (hd : d < 1000) (h8 : R 8 (d + 1) = 2) (h : WH9 at_ way ln lf lt cd vo we x0 Φ n d k R (wv v)) : WH9 at_ way ln lf lt cd vo we x0 Φ n (d + 1) k R v := by
  intro m
  cases m with
  | zero => trivial
  | succ m =>
    show bl_X8_worked_286 _ _ _ _ _ _ _ _ _ _ _ _ _ _ _ _ _ _ _ _ _ _ _ _
    unfold bl_X8_worked_286
    rw [nI_clamp (n := d + 1) (by omega), h8, pk_m1]
    exact ⟨fun z => absurd z (nI_nle (by omega) (by omega)), fun _ _ => ⟨fun z => absurd z (by (try dsimp only); decide), fun _ _ => ⟨fun z => absurd rfl z, fun _ => hw _ _ (h m)⟩⟩⟩
end WH
/-- a code that opens: one deeper -/
theorem lw_open {at_ way : Int32} {ln lf lt cd vo we : Nat → Int32} {x0 : Int32} {Φ : PW9} {n d k c : Nat} {R : Nat → Nat → Int32} {i : List Nat} (hd : d < 100) (hc : c = 28 ∨ c = 30 ∨ c = 31) (hi : CI9 lt cd x0 k (c :: i)) (h : ∀ n' R', AG9 (d + 1) R R' → PE9 0 (d + 1) R' ∨ ¬ c = 28 → (c = 28 → R' 8 (d + 1) = 0) → (c = 30 → R' 8 (d + 1) = 1) → (c = 31 → R' 8 (d + 1) = 2) → LW9 at_ way ln lf lt cd vo we x0 Φ n' (d + 1) (k + 1) R') : LW9 at_ way ln lf lt cd vo we x0 Φ n d k R := by
  cases n with
  | zero => trivial
  | succ n =>
    obtain ⟨h1, h2, h3, h4⟩ := hi.cons
    have fin : ∀ x : Int32, (c = 28 → x = 0) → (c = 30 → x = 1) → (c = 31 → x = 2) → wl_X8_opens (nI d + 1) (R 1) (R 3) (R 4) (R 5) (R 7) (fun a b e f g => ll_X8_worked_14 at_ way ln lf lt cd vo we x0 Φ n (R 0) a (R 2) b e f (R 6) g (upd (R 8) (nI d + 1).toNatClampNeg x) (nI d + 1) (nI k + 1)) := by
      intro x x0' x1 x2
      rw [nI_1, nI_1]
      refine sq8_opens (by omega) ?_
      rw [nI_clamp (n := d + 1) (by omega)]
      refine h n (rg9 (R 0) (upd (R 1) (d + 1) 0) (R 2) (upd (R 3) (d + 1) 0) (upd (R 4) (d + 1) 0) (upd (R 5) (d + 1) 20) (R 6) (upd (R 7) (d + 1) 0) (upd (R 8) (d + 1) x)) (fun i j hi hj => ?_) ?_ (fun e => by rw [← x0' e]; exact pk_us) (fun e => by rw [← x1 e]; exact pk_us) (fun e => by rw [← x2 e]; exact pk_us)
      · match i, hi with
        | 0, _ => rfl
        | 1, _ => exact pk_un (by omega)
        | 2, _ => rfl
        | 3, _ => exact pk_un (by omega)
        | 4, _ => exact pk_un (by omega)
        | 5, _ => exact pk_un (by omega)
        | 6, _ => rfl
        | 7, _ => exact pk_un (by omega)
        | 8, _ => exact pk_un (by omega)
      · by_cases e : c = 28
        · refine Or.inl ⟨fun _ => pk_us, fun _ => ⟨pk_us, pk_us⟩, fun _ => pk_us, fun _ => pk_us, Or.inl ?_⟩
          rw [← x0' e]
          exact pk_us
        · exact Or.inr e
    refine lw_step h2 h1 h3 (by omega) (fun _ => ⟨fun n30 => ⟨fun n31 => fun _ => fin 0 (fun _ => rfl) (fun e => by rw [e] at n30; exact absurd rfl n30) (fun e => by rw [e] at n31; exact absurd rfl n31), fun e31 => fun _ => fin 2 (fun e => by rw [e] at e31; exact absurd e31 (by (try dsimp only); decide)) (fun e => by rw [e] at e31; exact absurd e31 (by (try dsimp only); decide)) (fun _ => rfl)⟩, fun e30 => fun _ => fin 1 (fun e => by rw [e] at e30; exact absurd e30 (by (try dsimp only); decide)) (fun _ => rfl) (fun e => by rw [e] at e30; exact absurd e30 (by (try dsimp only); decide))⟩) (fun e => by omega) (fun e => by omega) (fun e => by omega) (fun e => by omega) (fun e => by omega) (fun e => by omega) (fun e => by omega) (by omega)
theorem IP9.leaf {ne c : Nat} {F : EF} (hne : ne < 100) (hc : (∃ j, j < 6 ∧ c = 1 + j ∧ F = fun ce _ => ce j) ∨ ∃ m, m ≤ 9999 ∧ c = 100 + m ∧ F = fun _ _ => nI m) : IP9 ne [c] F := by
  intro at_ way ln lf lt cd vo we x0 Φ ce wv hvo hwv n k R hi h
  cases n with
  | zero => trivial
  | succ n =>
    obtain ⟨h1, h2, h3, h4⟩ := hi.cons
    have hw := h n R (fun _ _ _ _ => rfl)
    rw [show k + [c].length - 1 = k from Nat.add_sub_cancel k 1] at hw
    have q29 : ∀ a : Nat, a < 2 ^ 30 → ¬ a = 29 → ¬ nI a = 29 := fun a ha hn e => hn ((nI_eq (a := a) (b := 29) (by omega) (by decide)).mp e)
    have k261 : ∀ v, v = F ce wv → c < 2 ^ 30 → ¬ c = 29 → kl_X8_worked_261 at_ way ln lf lt cd vo we x0 (ll_X8_worked_14 at_ way ln lf lt cd vo we x0 Φ n) Φ (R 0) (R 1) (R 2) (R 3) (R 4) (R 5) (R 6) (R 7) (R 8) (nI ne) (nI k) (nI c) v := by
      intro v hv hc1 hc2
      subst hv
      exact ⟨fun _ => hw, fun z => absurd z (q29 c hc1 hc2)⟩
    rcases hc with ⟨j, hj, ec, eF⟩ | ⟨m, hm, ec, eF⟩
    · refine lw_step h2 h1 h3 (by omega) (fun e => by omega) (fun e => by omega) (fun e => by omega) (fun e => by omega) (fun e => by omega) (fun e => by omega) (fun _ => k261 _ ?_ (by omega) (by omega)) (fun e => by omega) (by omega)
      rw [eF, ec]
      exact hvo j hj
    · refine lw_step h2 h1 h3 (by omega) (fun e => by omega) (fun e => by omega) (fun e => by omega) (fun e => by omega) (fun e => by omega) (fun e => by omega) (fun e => by omega) (fun _ => k261 _ ?_ (by omega) (by omega)) (by omega)
      rw [eF, ec]
      show nI (100 + m - 100) = nI m
      rw [Nat.add_sub_cancel_left]
theorem AG9.of {d e : Nat} {R R1 R2 : Nat → Nat → Int32} (h : AG9 (d + 1) R R1) (h2 : AG9 e R1 R2) (he : d + 1 ≤ e) : AG9 (d + 1) R R2 := fun i j hi hj => (h2 i j hi (by omega)).trans (h i j hi hj)
theorem IP9.not {ne : Nat} {i : List Nat} {F : EF} (hne : ne < 90) (hl : 1 ≤ i.length) (h : IP9 (ne + 1) i F) : IP9 ne (30 :: i) (fun ce wv => nt (F ce wv)) := by
  intro at_ way ln lf lt cd vo we x0 Φ ce wv hvo hwv n k R hi hk
  have hc := hi.cons.2.2.2
  refine lw_open (by omega) (Or.inr (Or.inl rfl)) hi (fun n' R' ha _ _ h8 _ => ?_)
  refine h at_ way ln lf lt cd vo we x0 Φ ce wv hvo hwv n' (k + 1) R' hc (fun n2 R2 ha2 => ?_)
  have e8 : R2 8 (ne + 1) = 1 := (ha2 8 (ne + 1) (by decide) (by omega)).trans (h8 rfl)
  have hw := hk n2 R2 (ha.of ha2 (by omega))
  rw [show k + (30 :: i).length - 1 = k + 1 + i.length - 1 by rw [List.length_cons]; omega] at hw
  exact wh_not (by omega) e8 hw
theorem IP9.worn {ne : Nat} {i : List Nat} {F : EF} (hne : ne < 90) (hl : 1 ≤ i.length) (h : IP9 (ne + 1) i F) : IP9 ne (31 :: i) (fun ce wv => wv (F ce wv)) := by
  intro at_ way ln lf lt cd vo we x0 Φ ce wv hvo hwv n k R hi hk
  have hc := hi.cons.2.2.2
  refine lw_open (by omega) (Or.inr (Or.inr rfl)) hi (fun n' R' ha _ _ _ h8 => ?_)
  refine h at_ way ln lf lt cd vo we x0 Φ ce wv hvo hwv n' (k + 1) R' hc (fun n2 R2 ha2 => ?_)
  have e8 : R2 8 (ne + 1) = 2 := (ha2 8 (ne + 1) (by decide) (by omega)).trans (h8 rfl)
  have hw := hk n2 R2 (ha.of ha2 (by omega))
  rw [show k + (31 :: i).length - 1 = k + 1 + i.length - 1 by rw [List.length_cons]; omega] at hw
  exact wh_worn hwv (by omega) e8 hw
theorem IP9.par {ne : Nat} {i : List Nat} {F : EF} (hne : ne < 90) (h : IX9 0 (ne + 1) i F) : IP9 ne (28 :: (i ++ [29])) F := by
  intro at_ way ln lf lt cd vo we x0 Φ ce wv hvo hwv n k R hi hk
  have hc := hi.cons.2.2.2
  obtain ⟨hc1, hc2⟩ := hc.app
  refine lw_open (by omega) (Or.inl rfl) hi (fun n' R' ha hpe h8 _ _ => ?_)
  have hpe := hpe.resolve_right (fun z => z rfl)
  refine h at_ way ln lf lt cd vo we x0 Φ ce wv hvo hwv n' (k + 1) R' hc1 hpe (fun n2 R2 hp => ?_)
  cases n2 with
  | zero => trivial
  | succ n2 =>
    obtain ⟨g1, g2, g3, g4⟩ := hc2.cons
    obtain ⟨hp1, hp2⟩ := hp
    have hp2 : XV9 R2 (ne + 1) = F ce wv ∧ SM9r [8] (ne + 1) R' R2 := hp2
    refine lw_step g2 g1 g3 (by decide) (fun e => by omega) (fun e => by omega) (fun e => by omega) (fun e => by omega) (fun e => by omega) (fun _ => ⟨fun z => absurd rfl z, fun _ => ?_⟩) (fun e => by omega) (fun e => by omega) (by omega)
    refine sq8_tests (by omega) ?_
    rw [nI_clamp (n := ne + 1) (by omega), pk_us, pk_m1, hp2.1]
    have hw := hk n2 (rg9 (upd (R2 0) (ne + 1) (XV9 R2 (ne + 1))) (R2 1) (R2 2) (upd (R2 3) (ne + 1) 0) (upd (upd (R2 4) (ne + 1) (SU9 R2 (ne + 1))) (ne + 1) 0) (upd (R2 5) (ne + 1) 20) (R2 6) (upd (R2 7) (ne + 1) 0) (R2 8)) (fun i j hi hj => ?_)
    · rw [show k + (28 :: (i ++ [29])).length - 1 = k + 1 + i.length by rw [List.length_cons, List.length_append]; show k + (i.length + 1 + 1) - 1 = _; omega] at hw
      rw [hp2.1] at hw
      exact fun _ => hw
    · have e2 : R2 i j = R i j := (hp1 i j hi (by omega)).trans (ha i j hi hj)
      match i, hi, e2 with
      | 0, _, e2 => exact (pk_un (by omega)).trans e2
      | 1, _, e2 => exact e2
      | 2, _, e2 => exact e2
      | 3, _, e2 => exact (pk_un (by omega)).trans e2
      | 4, _, e2 => exact ((pk_un (by omega)).trans (pk_un (by omega))).trans e2
      | 5, _, e2 => exact (pk_un (by omega)).trans e2
      | 6, _, e2 => exact e2
      | 7, _, e2 => exact (pk_un (by omega)).trans e2
      | 8, _, e2 => exact e2
/-- a part, where nothing waits, is an expression of the last level -/
theorem IP9.ixZ {ne : Nat} {i : List Nat} {F : EF} (hne : ne < 90) (hl : 1 ≤ i.length) (h : IP9 ne i F) : IX9 4 ne i F := by
  intro at_ way ln lf lt cd vo we x0 Φ ce wv hvo hwv n k R hi hpe hk
  refine h at_ way ln lf lt cd vo we x0 Φ ce wv hvo hwv n k R hi (fun n' R' ha => ?_)
  have hd : ∀ i, i < 9 → R' i ne = R i ne := fun i hi => ha i ne hi (by omega)
  refine wh_end (by omega) (hpe.2.2.2.2.imp (fun e => (hd 8 (by decide)).trans e) id) (fun R2 hp => ?_)
  rw [show k + i.length - 1 + 1 = k + i.length by omega]
  refine hk n' R2 ⟨fun i j hi hj => (hp.1 i j hi hj).trans (ha i j hi (by omega)), ?_⟩
  have h2 := hp.2
  rw [if_pos rfl] at h2 ⊢
  rw [hd 7 (by decide), hd 6 (by decide)] at h2
  refine ⟨h2.1, fun i hi => (h2.2 i hi).trans (hd i ?_)⟩
  simp only [List.mem_cons, List.not_mem_nil, or_false] at hi
  omega
end SE9
