def MT (k : Tok) (tok : Nat) (p : Int32) (v : Int64) : Prop := tok = ix k ∧ p = nI k.2.1 ∧ (k.1 = 1 → v = eB k.2.2) ∧ (k.1 = 2 → v = eM k.2.2)
/-- the class's rows hold the tokens P -/
def AC (P : List Tok) (tk : Nat → Nat) (pl : Nat → Int32) (vl : Nat → Int64) : Prop := ∀ j k, P[j]? = some k → MT k (tk j) (pl j) (vl j)
theorem AC.nil {tk : Nat → Nat} {pl : Nat → Int32} {vl : Nat → Int64} : AC [] tk pl vl := fun j k h => by simp at h
theorem kwI_lt (w : List Nat) : kwI w < 31 := by
  unfold kwI
  by_cases h : w ∈ KW
  · rw [if_pos h]
    have : KW.idxOf w < KW.length := List.idxOf_lt_length_of_mem h
    have e : KW.length = 19 := rfl
    omega
  · rw [if_neg h]; decide
theorem sgI_lt (c : Nat) : sgI c < 31 := by
  unfold sgI
  repeat' split
  all_goals decide
theorem ix_lt (k : Tok) : ix k < 31 := by
  unfold ix
  repeat' split
  · decide
  · exact kwI_lt _
  · decide
  · exact sgI_lt _
  · decide
section SX
variable {P : List Tok} {tk : Nat → Nat} {pl : Nat → Int32} {vl : Nat → Int64}
theorem sq_X5_add {k : Tok} {t : Nat} {p : Int32} {v : Int64} {Φ : PTk} (hk : MT k t p v) (hc : P.length < 1001) (h : AC P tk pl vl) (hΦ : ∀ tk' pl' vl', AC (P ++ [k]) tk' pl' vl' → Φ (nI (P ++ [k]).length) tk' pl' vl') : wp_X5_add t p v (nI P.length) tk pl vl Φ := by
  unfold wp_X5_add
  have ic : vp_in (nI P.length) 1001 := pk_in P.length 1001 hc
  have ht : t < 31 := by rw [hk.1]; exact ix_lt k
  rw [nI_1, nI_clamp (n := P.length) (by omega)]
  refine ⟨fun z => absurd z (nI_ge (b := 1001) hc (by decide)), fun _ => ⟨ic, ht, ic, ic, ?_⟩⟩
  have h9 := hΦ (updN tk P.length t) (upd pl P.length p) (vp_updL vl P.length v) (fun j k' hj => ?_)
  · rw [List.length_append] at h9
    exact h9
  · by_cases e : j = P.length
    · subst e
      rw [List.getElem?_append_right (Nat.le_refl _), Nat.sub_self] at hj
      have e2 : k = k' := Option.some.inj hj
      subst e2
      rw [pk_us, pk_uLs]
      have e3 : updN tk P.length t P.length = t := if_pos rfl
      rw [e3]
      exact hk
    · by_cases hlt : j < P.length
      · rw [List.getElem?_append_left hlt] at hj
        rw [pk_un e, pk_uLn e]
        have e3 : updN tk P.length t j = tk j := if_neg e
        rw [e3]
        exact h j k' hj
      · rw [List.getElem?_append_right (by omega)] at hj
        rw [show j - P.length = (j - P.length - 1) + 1 by omega] at hj
        simp at hj
theorem KW_ix : ∀ j : Fin 19, KW.idxOf (KW.getD j.val []) = j.val ∧ KW.getD j.val [] ∈ KW ∧ eB (KW.getD j.val []) = tkS (12 + j.val) := by decide +kernel
theorem tk_small : ∀ j : Fin 12, ∃ x : Fin 97, tkS j.val = lN x.val := by decide +kernel
theorem eB_big {w : List Nat} (hw : WD w) (hne : w ≠ []) : ∃ N, 97 ≤ N ∧ N < 2 ^ 63 ∧ eB w = lN N := by
  obtain ⟨a, b⟩ := eB_nat hw
  refine ⟨_, ?_, b, a⟩
  cases e : w.reverse with
  | nil => exact absurd (List.reverse_eq_nil_iff.mp e) hne
  | cons c l =>
    have := hw.2 c (List.mem_reverse.mp (by rw [e]; exact List.mem_cons_self))
    show 97 ≤ c + 256 * nBr 256 l
    omega
theorem sq_X5_spelledW {w : List Nat} {Φ : Nat → Prop} (hw : WD w) (hne : w ≠ []) (h : Φ (kwI w)) : wp_X5_spelled (eB w) 3 Φ := by
  have key : ∀ m k : Nat, m = 31 - k → k ≤ 31 → (∀ j, j < k → ¬ tkS j = eB w) → lf_X5_spelled_11 (eB w) 3 Φ (m + 1) 31 (nI k) := by
    intro m
    induction m with
    | zero =>
      intro k hm hk hj
      have e : k = 31 := by omega
      subst e
      refine ⟨fun _ => ?_, fun z => absurd (by decide) z⟩
      have hn : ¬ w ∈ KW := by
        intro hm
        obtain ⟨j, hj1, hj2⟩ := List.getElem_of_mem hm
        have hj3 : j < 19 := hj1
        have := (KW_ix ⟨j, hj3⟩).2.2
        have e2 : KW.getD j [] = w := by rw [List.getD_eq_getElem?_getD, List.getElem?_eq_getElem hj1, hj2]; rfl
        simp only [e2] at this
        exact hj (12 + j) (by omega) this.symm
      have e : kwI w = 3 := if_neg hn
      rw [e] at h
      exact h
    | succ m ih =>
      intro k hm hk hj
      show lb_X5_spelled_11 _ _ _ _ _ _
      unfold lb_X5_spelled_11
      rw [nI_1, nI_clamp (n := k) (by omega)]
      refine ⟨fun z => absurd z (nI_ge (b := 31) (by omega) (by decide)), fun _ => ⟨pk_in k 31 (by omega), by omega, fun z => ih (k + 1) (by omega) (by omega) (fun j hj2 => ?_), fun z => ?_⟩⟩
      · by_cases e : j = k
        · subst e; exact fun y => z ((lg_cmp_eq _ _).mpr y)
        · exact hj j (by omega)
      · have e := (lg_cmp_eq _ _).mp z
        obtain ⟨N, h97, hN, eN⟩ := eB_big hw hne
        have hk12 : 12 ≤ k := by
          rcases Nat.lt_or_ge k 12 with y | y
          · obtain ⟨x, hx⟩ := tk_small ⟨k, y⟩
            simp only at hx
            rw [hx, eN] at e
            have := (pk_lEQ (a := x.val) (b := N) (by omega) hN).mp e
            omega
          · exact y
        obtain ⟨a1, a2, a3⟩ := KW_ix ⟨k - 12, by omega⟩
        simp only [show 12 + (k - 12) = k by omega] at a3
        have e2 : KW.getD (k - 12) [] = w := (eB_inj (KW_wd _ a2) hw).mp (a3.trans e)
        simp only [e2] at a1 a2
        have e3 : kwI w = k := by unfold kwI; rw [if_pos a2, a1]; omega
        rw [e3] at h
        exact h
  exact ⟨31 - 0 + 1, key (31 - 0) 0 rfl (by decide) (fun j hj => absurd hj (by omega))⟩
theorem sg_a : ∀ c : Fin 127, ∀ k : Fin 31, ¬ c.val = 0 → tkS k.val = lN c.val → k.val = sgI c.val := by decide +kernel
theorem sg_b : ∀ c : Fin 127, sgI c.val = 1 ∨ tkS (sgI c.val) = lN c.val := by decide +kernel
theorem sq_X5_spelledS {c : Nat} {Φ : Nat → Prop} (hc : c < 127) (h0 : ¬ c = 0) (h : Φ (sgI c)) : wp_X5_spelled ((nI c).toInt64) 1 Φ := by
  rw [nI_l (by omega)]
  have key : ∀ m k : Nat, m = 31 - k → k ≤ 31 → (∀ j, j < k → ¬ tkS j = lN c) → lf_X5_spelled_11 (lN c) 1 Φ (m + 1) 31 (nI k) := by
    intro m
    induction m with
    | zero =>
      intro k hm hk hj
      have e : k = 31 := by omega
      subst e
      refine ⟨fun _ => ?_, fun z => absurd (by decide) z⟩
      have e : sgI c = 1 := by
        rcases sg_b ⟨c, hc⟩ with y | y
        · exact y
        · exact absurd y (hj _ (sgI_lt c))
      rw [e] at h
      exact h
    | succ m ih =>
      intro k hm hk hj
      show lb_X5_spelled_11 _ _ _ _ _ _
      unfold lb_X5_spelled_11
      rw [nI_1, nI_clamp (n := k) (by omega)]
      refine ⟨fun z => absurd z (nI_ge (b := 31) (by omega) (by decide)), fun _ => ⟨pk_in k 31 (by omega), by omega, fun z => ih (k + 1) (by omega) (by omega) (fun j hj2 => ?_), fun z => ?_⟩⟩
      · by_cases e : j = k
        · subst e; exact fun y => z ((lg_cmp_eq _ _).mpr y)
        · exact hj j (by omega)
      · have e3 : k = sgI c := sg_a ⟨c, hc⟩ ⟨k, by omega⟩ h0 ((lg_cmp_eq _ _).mp z)
        rw [e3]
        exact h
  exact ⟨31 - 0 + 1, key (31 - 0) 0 rfl (by decide) (fun j hj => absurd hj (by omega))⟩
end SX
