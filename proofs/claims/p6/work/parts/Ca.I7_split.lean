section SZ
variable {ts : List Nat} {sg : Nat → Int32} {Φ : PTk}
theorem sq_X5_split {tk : Nat → Nat} {pl : Nat → Int32} {vl : Nat → Int64} {C : Int32} (hT : TL ts sg) (hΦ : ∀ tk' pl' vl', AC (tokL ts 0) tk' pl' vl' → Φ (nI (tokL ts 0).length) tk' pl' vl') : wp_X5_split (nI ts.length) sg C tk pl vl Φ := by
  have hn := hT.1
  have out : ∀ (P : List Tok) (tk : Nat → Nat) (pl : Nat → Int32) (vl : Nat → Int64), P.length ≤ 1000 → tokL ts 0 = P ++ tokL ts ts.length → AC P tk pl vl → wp_X5_add 0 (nI ts.length) 0 (nI P.length) tk pl vl Φ := by
    intro P tk pl vl hP he h
    rw [tokL_end (Nat.le_refl _)] at he
    rw [he] at hΦ
    exact sq_X5_add (k := (0, ts.length, [])) ⟨rfl, rfl, fun z => absurd z (by (try dsimp only); decide), fun z => absurd z (by (try dsimp only); decide)⟩ (by omega) h hΦ
  have key : ∀ (m i a : Nat) (P : List Tok) (tk : Nat → Nat) (pl : Nat → Int32) (vl : Nat → Int64), m = 1000 - i → i ≤ 1000 → a ≤ ts.length → P.length ≤ i → i ≤ a → tokL ts 0 = P ++ tokL ts a → AC P tk pl vl → lf_X5_split_9 (nI ts.length) sg Φ (m + 1) (nI P.length) tk pl vl (nI a) (nI i) := by
    intro m
    induction m with
    | zero =>
      intro i a P tk pl vl hm hi ha hc hia he h
      have e : i = 1000 := by omega
      have e2 : a = ts.length := by omega
      subst e
      rw [e2] at he
      show lb_X5_split_9 _ _ _ _ _ _ _ _ _ _
      unfold lb_X5_split_9
      exact ⟨fun _ => out P tk pl vl (by omega) he h, fun z => absurd (by decide) z⟩
    | succ m ih =>
      intro i a P tk pl vl hm hi ha hc hia he h
      show lb_X5_split_9 _ _ _ _ _ _ _ _ _ _
      unfold lb_X5_split_9
      refine ⟨fun z => absurd z (nI_ge (b := 1000) (by omega) (by decide)), fun _ => pk_le ts.length a (fun z => ?_) (fun hal => ⟨pk_in a 1000 (by omega), ?_⟩)⟩
      · have e2 : a = ts.length := by omega
        rw [e2] at he
        exact out P tk pl vl (by omega) he h
      · have hk := hT.lt a
        rw [nI_clamp (n := a) (by omega), hT.at hal, nI_1, nI_1]
        have bk : cB (sgn ts a) = true → lf_X5_split_9 (nI ts.length) sg Φ (m + 1) (nI P.length) tk pl vl (nI (a + 1)) (nI (i + 1)) := fun hb => ih (i + 1) (a + 1) P tk pl vl (by omega) (by omega) (by omega) (by omega) (by omega) (by rw [he, tokL_blank hal hb]) h
        have so : ¬ cB (sgn ts a) = true → wp_X5_splitOne (nI ts.length) sg (nI a) (nI P.length) tk pl vl (fun r_24 Tcnt_20 Ttoks_21 Tplc_22 Tvals_23 => lf_X5_split_9 (nI ts.length) sg Φ (m + 1) Tcnt_20 Ttoks_21 Tplc_22 Tvals_23 r_24 (nI (i + 1))) := fun hb => by
          have hE := tkEnd_gt hal
          refine sq_X5_splitOne hT hal hb (by omega) h (fun tk' pl' vl' h' => ih (i + 1) (tkEnd ts a) (P ++ [tkAt ts a]) tk' pl' vl' (by omega) (by omega) hE.2 ?_ (by omega) ?_ h')
          · rw [List.length_append]
            show P.length + 1 ≤ i + 1
            omega
          · rw [he, tokL_tok hal hb, List.append_assoc]
            rfl
        unfold wp_X5_isBlank
        have f1 : (¬ (0 : Int32) = 0 → lf_X5_split_9 (nI ts.length) sg Φ (m + 1) (nI P.length) tk pl vl (nI (a + 1)) (nI (i + 1))) := fun z => absurd rfl z
        refine pk_eq (sgn ts a) 10 (fun e => ⟨fun z => absurd z (by (try dsimp only); decide), fun _ => bk (cB_iff.mpr (Or.inl e))⟩) (fun e => ?_) rfl rfl (by omega) (by decide)
        have h32 := pk_eq (A := ((1 : Int32) = 0 → wp_X5_splitOne (nI ts.length) sg (nI a) (nI P.length) tk pl vl (fun r_24 Tcnt_20 Ttoks_21 Tplc_22 Tvals_23 => lf_X5_split_9 (nI ts.length) sg Φ (m + 1) Tcnt_20 Ttoks_21 Tplc_22 Tvals_23 r_24 (nI (i + 1)))) ∧ (¬ (1 : Int32) = 0 → lf_X5_split_9 (nI ts.length) sg Φ (m + 1) (nI P.length) tk pl vl (nI (a + 1)) (nI (i + 1)))) (B := ((0 : Int32) = 0 → wp_X5_splitOne (nI ts.length) sg (nI a) (nI P.length) tk pl vl (fun r_24 Tcnt_20 Ttoks_21 Tplc_22 Tvals_23 => lf_X5_split_9 (nI ts.length) sg Φ (m + 1) Tcnt_20 Ttoks_21 Tplc_22 Tvals_23 r_24 (nI (i + 1)))) ∧ (¬ (0 : Int32) = 0 → lf_X5_split_9 (nI ts.length) sg Φ (m + 1) (nI P.length) tk pl vl (nI (a + 1)) (nI (i + 1)))) (sgn ts a) 32 (fun e2 => ⟨fun z => absurd z (by (try dsimp only); decide), fun _ => bk (cB_iff.mpr (Or.inr e2))⟩) (fun e2 => ⟨fun _ => so (fun y => by rw [cB_iff] at y; omega), f1⟩) rfl rfl (by omega) (by decide)
        exact ⟨h32.2, h32.1⟩
  exact ⟨_, key (1000 - 0) 0 0 [] tk pl vl rfl (by decide) (Nat.zero_le _) (Nat.le_refl _) (Nat.le_refl _) rfl AC.nil⟩
/-- what a list of tokens must be: the end is last, and nowhere else -/
def WT (L : List Tok) : Prop := ∃ (M : List Tok) (p : Nat), L = M ++ [(0, p, [])] ∧ ∀ k ∈ M, ¬ k.1 = 0
theorem tkAt_ne {p : Nat} : ¬ (tkAt ts p).1 = 0 := by
  unfold tkAt
  repeat' split
  all_goals (dsimp only; decide)
theorem tokL_WT : ∀ (k p : Nat), ts.length - p ≤ k → WT (tokL ts p) := by
  intro k
  induction k with
  | zero =>
    intro p h
    rw [tokL_end (by omega)]
    exact ⟨[], p, rfl, fun k hk => by cases hk⟩
  | succ k ih =>
    intro p h
    by_cases hp : p < ts.length
    · by_cases hb : cB (sgn ts p) = true
      · rw [tokL_blank hp hb]
        exact ih (p + 1) (by omega)
      · rw [tokL_tok hp hb]
        have := tkEnd_gt hp
        obtain ⟨M, q, e, hM⟩ := ih (tkEnd ts p) (by omega)
        refine ⟨tkAt ts p :: M, q, by rw [e]; rfl, fun k hk => ?_⟩
        rcases List.mem_cons.mp hk with e | hk
        · rw [e]; exact tkAt_ne
        · exact hM k hk
    · rw [tokL_end (by omega)]
      exact ⟨[], p, rfl, fun k hk => by cases hk⟩
end SZ
