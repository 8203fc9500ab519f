/-- an expression that was read, with so many cells told -/
def OKE (nc : Nat) (e : EC) : Prop := ∃ (cn : List (List Nat)) (L L' : List Tok), cn.length ≤ nc ∧ (pEP cn 40).1 0 0 L = .inr (e, L')
def OKL (ns nc : Nat) (y : LN9) : Prop := y.1 ≤ 6 ∧ y.2.1 < ns ∧ ((y.1 = 0 ∨ y.1 = 4) → y.2.2.1 < nc) ∧ (y.1 ≠ 6 → OKE nc y.2.2.2.1) ∧ ((y.1 = 3 ∨ y.1 = 5) → OKE nc y.2.2.2.2) ∧ (y.1 = 6 → y.2.2.2.1 = ([], [])) ∧ (¬ (y.1 = 3 ∨ y.1 = 5) → y.2.2.2.2 = ([], []))
/-- a programme that was read -/
def GK9 (g : PGr) : Prop := g.1.length ≤ 4 ∧ (∀ y ∈ g.1, 1 ≤ y.2.1 ∧ y.2.1 ≤ 9999 ∧ y.2.2 ≤ 999) ∧ g.2.1.length ≤ 6 ∧ (∀ y ∈ g.2.1, y.2 ≤ 9999) ∧ g.2.2.1.length ≤ 2 ∧ (∀ y ∈ g.2.2.1, y.1 < g.2.1.length ∧ y.2.1 ≤ y.2.2 ∧ y.2.2 ≤ 9999) ∧ many g.2.2.1 ≤ 64 ∧ (g.2.2.1.map (fun y => y.1)).Nodup ∧ g.2.2.2.length ≤ 16 ∧ ∀ y ∈ g.2.2.2, OKL g.1.length g.2.1.length y
theorem GK9.nil : GK9 ([], [], [], []) := ⟨by decide, fun y h => (by cases h), by decide, fun y h => (by cases h), by decide, fun y h => (by cases h), by decide, List.nodup_nil, by decide, fun y h => by cases h⟩
section IN9
variable {α β : Type} {x : PRs α}
theorem sq0_inv {g : α → List Tok → Nat ⊕ List Tok} {a : α} {L' : List Tok} (h : sq0 x g = .inr (a, L')) : ∃ L0, x = .inr (a, L0) ∧ g a L0 = .inr L' := by
  cases x with
  | inl e => cases h
  | inr y =>
    obtain ⟨b, L⟩ := y
    rw [sq0_r] at h
    cases hq : g b L with
    | inl e => rw [hq] at h; cases h
    | inr M =>
      rw [hq] at h
      have h := Prod.mk.inj (Sum.inr.inj h)
      have h1 : b = a := h.1
      have h2 : M = L' := h.2
      subst h1
      subst h2
      exact ⟨L, rfl, hq⟩
theorem sq1_inv {g : α → List Tok → PRs β} {b : α × β} {L' : List Tok} (h : sq1 x g = .inr (b, L')) : ∃ L0, x = .inr (b.1, L0) ∧ g b.1 L0 = .inr (b.2, L') := by
  cases x with
  | inl e => cases h
  | inr y =>
    obtain ⟨a, L⟩ := y
    rw [sq1_r] at h
    cases hq : g a L with
    | inl e => rw [hq] at h; cases h
    | inr z =>
      rw [hq] at h
      have h := Prod.mk.inj (Sum.inr.inj h)
      have h1 : (a, z.1) = b := h.1
      have h2 : z.2 = L' := h.2
      subst h1
      subst h2
      exact ⟨L, rfl, hq⟩
theorem bnd_inv {f : α × List Tok → PRs β} {b : β} {L' : List Tok} (h : bnd x f = .inr (b, L')) : ∃ y, x = .inr y ∧ f y = .inr (b, L') := by
  cases x with
  | inl e => cases h
  | inr y => exact ⟨y, rfl, h⟩
theorem pNum_inv {lo hi n : Nat} {L L' : List Tok} (h : pNum lo hi L = .inr (n, L')) : lo ≤ n ∧ n ≤ hi := by
  unfold pNum at h
  split at h
  · split at h
    · rename_i h2
      rw [← (Prod.mk.inj (Sum.inr.inj h)).1]
      exact h2
    · cases h
  · cases h
theorem pTold_inv {ns : List (List Nat)} {c : Nat} {L L' : List Tok} (h : pTold ns L = .inr (c, L')) : c < ns.length := by
  unfold pTold at h
  split at h
  · split at h
    · cases h
    · rename_i c' hc
      rw [← (Prod.mk.inj (Sum.inr.inj h)).1]
      exact fnd_lt hc
  · cases h
theorem tN_inv {lo hi : α → Nat} {b : α × Nat} {L' : List Tok} (h : tN x lo hi = .inr (b, L')) : ∃ L0, x = .inr (b.1, L0) ∧ lo b.1 ≤ b.2 ∧ b.2 ≤ hi b.1 := by
  obtain ⟨L1, h1, _⟩ := sq0_inv h
  obtain ⟨L0, h2, h3⟩ := sq1_inv h1
  exact ⟨L0, h2, pNum_inv h3⟩
theorem tX_inv {w : Nat} {a : α} {L' : List Tok} (h : tX x w = .inr (a, L')) : ∃ L0, x = .inr (a, L0) := by
  obtain ⟨L1, h1, _⟩ := sq0_inv h
  obtain ⟨L0, h2, _⟩ := sq0_inv h1
  exact ⟨L0, h2⟩
theorem tW_inv {sn cn : List (List Nat)} {b : α × List Nat} {L' : List Tok} (h : tW x sn cn = .inr (b, L')) : ∃ L0, x = .inr (b.1, L0) := by
  obtain ⟨L1, h1, _⟩ := sq0_inv h
  obtain ⟨L0, h2, _⟩ := sq1_inv h1
  exact ⟨L0, h2⟩
theorem tO_inv2 {ns : List (List Nat)} {b : α × Nat} {L' : List Tok} (h : tO x ns = .inr (b, L')) : ∃ L0, x = .inr (b.1, L0) ∧ b.2 < ns.length := by
  obtain ⟨L1, h1, _⟩ := sq0_inv h
  obtain ⟨L0, h2, h3⟩ := sq1_inv h1
  exact ⟨L0, h2, pTold_inv h3⟩
theorem tE_inv {cn : List (List Nat)} {b : α × EC} {L' : List Tok} (h : tE x cn = .inr (b, L')) : ∃ L0, x = .inr (b.1, L0) ∧ OKE cn.length b.2 := by
  obtain ⟨L0, h2, h3⟩ := sq1_inv h
  exact ⟨L0, h2, cn, L0, L', Nat.le_refl _, h3⟩
theorem pAct_inv {cn : List (List Nat)} {a : Nat} {b : α × Nat × EC × EC} {L' : List Tok} (ha : a ≤ 6) (h : pAct cn a x = .inr (b, L')) : ((a = 0 ∨ a = 4) → b.2.1 < cn.length) ∧ (a ≠ 6 → OKE cn.length b.2.2.1) ∧ ((a = 3 ∨ a = 5) → OKE cn.length b.2.2.2) ∧ (a = 6 → b.2.2.1 = ([], [])) ∧ (¬ (a = 3 ∨ a = 5) → b.2.2.2 = ([], [])) := by
  unfold pAct at h
  by_cases h0 : a = 0
  · rw [if_pos h0] at h
    obtain ⟨y, hy, hb⟩ := bnd_inv h
    obtain ⟨L0, h1, h2⟩ := tE_inv (b := y.1) (L' := y.2) hy
    obtain ⟨L1, h3, h4⟩ := tO_inv2 h1
    rw [← (Prod.mk.inj (Sum.inr.inj hb)).1]
    exact ⟨fun _ => h4, fun _ => h2, fun z => by omega, fun z => by omega, fun _ => rfl⟩
  rw [if_neg h0] at h
  by_cases h35 : a = 3 ∨ a = 5
  · rw [if_pos h35] at h
    obtain ⟨y, hy, hb⟩ := bnd_inv h
    obtain ⟨L0, h1, h2⟩ := tE_inv (b := y.1) (L' := y.2) hy
    obtain ⟨L1, h3⟩ := tX_inv h1
    obtain ⟨L2, h4, h5⟩ := tE_inv h3
    rw [← (Prod.mk.inj (Sum.inr.inj hb)).1]
    exact ⟨fun z => by omega, fun _ => h5, fun _ => h2, fun z => by omega, fun z => absurd h35 z⟩
  rw [if_neg h35] at h
  by_cases h4 : a = 4
  · rw [if_pos h4] at h
    obtain ⟨y, hy, hb⟩ := bnd_inv h
    obtain ⟨L0, h1, h2⟩ := tO_inv2 (b := y.1) (L' := y.2) hy
    obtain ⟨L1, h3⟩ := tX_inv h1
    obtain ⟨L2, h5, h6⟩ := tE_inv h3
    rw [← (Prod.mk.inj (Sum.inr.inj hb)).1]
    exact ⟨fun _ => h2, fun _ => h6, fun z => absurd z h35, fun z => by omega, fun _ => rfl⟩
  rw [if_neg h4] at h
  by_cases h6 : a = 6
  · rw [if_pos h6] at h
    obtain ⟨y, hy, hb⟩ := bnd_inv h
    rw [← (Prod.mk.inj (Sum.inr.inj hb)).1]
    exact ⟨fun z => by omega, fun z => absurd h6 z, fun z => absurd z h35, fun _ => rfl, fun _ => rfl⟩
  · rw [if_neg h6] at h
    obtain ⟨y, hy, hb⟩ := bnd_inv h
    obtain ⟨L2, h7, h8⟩ := tE_inv (b := y.1) (L' := y.2) hy
    rw [← (Prod.mk.inj (Sum.inr.inj hb)).1]
    exact ⟨fun z => by omega, fun _ => h8, fun z => absurd z h35, fun z => absurd z h6, fun _ => rfl⟩
theorem tA_inv {cn : List (List Nat)} {b : α × Nat × Nat × EC × EC} {L' : List Tok} (h : tA x cn = .inr (b, L')) : ∃ L0, x = .inr (b.1, L0) ∧ b.2.1 ≤ 6 ∧ ((b.2.1 = 0 ∨ b.2.1 = 4) → b.2.2.1 < cn.length) ∧ (b.2.1 ≠ 6 → OKE cn.length b.2.2.2.1) ∧ ((b.2.1 = 3 ∨ b.2.1 = 5) → OKE cn.length b.2.2.2.2) ∧ (b.2.1 = 6 → b.2.2.2.1 = ([], [])) ∧ (¬ (b.2.1 = 3 ∨ b.2.1 = 5) → b.2.2.2.2 = ([], [])) := by
  unfold tA at h
  obtain ⟨w, hw, h⟩ := bnd_inv h
  by_cases hx : 20 ≤ ix (hdt w.2) ∧ ix (hdt w.2) ≤ 26
  · rw [if_pos hx] at h
    obtain ⟨y, hy, hb⟩ := bnd_inv h
    have e := (Prod.mk.inj (Sum.inr.inj hb)).1
    have := pAct_inv (b := y.1) (L' := y.2) (by omega) hy
    rw [← e]
    exact ⟨w.2, hw, by show ix (hdt w.2) - 20 ≤ 6; omega, this⟩
  · rw [if_neg hx] at h
    cases h
end IN9
theorem OKE.mono {a b : Nat} {e : EC} (h : OKE a e) (hab : a ≤ b) : OKE b e := by
  obtain ⟨cn, L, L', h1, h2⟩ := h
  exact ⟨cn, L, L', by omega, h2⟩
theorem OKL.mono {a b c d : Nat} {y : LN9} (h : OKL a c y) (hab : a ≤ b) (hcd : c ≤ d) : OKL b d y := by
  obtain ⟨h1, h2, h3, h4, h5, h6, h7⟩ := h
  exact ⟨h1, by omega, fun z => by have := h3 z; omega, fun z => (h4 z).mono hcd, fun z => (h5 z).mono hcd, h6, h7⟩
theorem mem_push {β : Type} {l : List β} {z y : β} (h : y ∈ l ++ [z]) : y ∈ l ∨ y = z := (List.mem_append.mp h).elim Or.inl (fun h => Or.inr (List.mem_singleton.mp h))
theorem GK9.tell {g g' : PGr} {L L' : List Tok} (h : GK9 g) (ht : pTell g L = .inr (g', L')) : GK9 g' := by
  obtain ⟨a1, a2, a3, a4, a5, a6, a7, a8, a9, a10⟩ := h
  have es : (snm g).length = g.1.length := List.length_map _
  have ec : (cnm g).length = g.2.1.length := List.length_map _
  unfold pTell at ht
  by_cases e12 : ix (hdt L) = 12
  · rw [if_pos e12] at ht
    unfold pStuff at ht
    by_cases h4 : 4 ≤ g.1.length
    · rw [if_pos h4] at ht; cases ht
    rw [if_neg h4] at ht
    obtain ⟨y, hy, hb⟩ := bnd_inv ht
    obtain ⟨L0, h1, h2⟩ := tN_inv (b := y.1) (L' := y.2) hy
    obtain ⟨L1, h3⟩ := tX_inv h1
    obtain ⟨L2, h5, h6⟩ := tN_inv h3
    rw [← (Prod.mk.inj (Sum.inr.inj hb)).1]
    have hl : (g.1 ++ [(y.1.1.1.2, y.1.1.2, y.1.2)]).length = g.1.length + 1 := by rw [List.length_append]; rfl
    refine ⟨by rw [hl]; omega, fun z hz => ?_, a3, a4, a5, a6, a7, a8, a9, fun z hz => (a10 z hz).mono (by rw [hl]; omega) (Nat.le_refl _)⟩
    rcases mem_push hz with hz | rfl
    · exact a2 z hz
    · exact ⟨h6.1, h6.2, h2.2⟩
  rw [if_neg e12] at ht
  by_cases e15 : ix (hdt L) = 15
  · rw [if_pos e15] at ht
    unfold pCell at ht
    by_cases h4 : 6 ≤ g.2.1.length
    · rw [if_pos h4] at ht; cases ht
    rw [if_neg h4] at ht
    obtain ⟨y, hy, hb⟩ := bnd_inv ht
    obtain ⟨L0, h1, h2⟩ := tN_inv (b := y.1) (L' := y.2) hy
    rw [← (Prod.mk.inj (Sum.inr.inj hb)).1]
    have hl : (g.2.1 ++ [(y.1.1.2, y.1.2)]).length = g.2.1.length + 1 := by rw [List.length_append]; rfl
    refine ⟨a1, a2, by rw [hl]; omega, fun z hz => ?_, a5, fun z hz => ⟨by rw [hl]; have := (a6 z hz).1; omega, (a6 z hz).2⟩, a7, a8, a9, fun z hz => (a10 z hz).mono (Nat.le_refl _) (by rw [hl]; omega)⟩
    rcases mem_push hz with hz | rfl
    · exact a4 z hz
    · exact h2.2
  rw [if_neg e15] at ht
  by_cases e16 : ix (hdt L) = 16
  · rw [if_pos e16] at ht
    unfold pInput at ht
    by_cases h4 : 2 ≤ g.2.2.1.length
    · rw [if_pos h4] at ht; cases ht
    rw [if_neg h4] at ht
    obtain ⟨y, hy, hb⟩ := bnd_inv ht
    obtain ⟨L0, h1, _⟩ := sq0_inv (a := y.1) (L' := y.2) hy
    obtain ⟨L1, h2, h3⟩ := sq0_inv h1
    obtain ⟨L2, h5, h6⟩ := sq1_inv h2
    obtain ⟨L3, h7, h8⟩ := tN_inv h5
    obtain ⟨L4, h9, _⟩ := sq0_inv h7
    obtain ⟨L5, h10, h11⟩ := sq0_inv h9
    obtain ⟨L6, h12, h13⟩ := sq1_inv h10
    have n6 := pNum_inv h6
    have hc := pTold_inv h13
    rw [ec] at hc
    have d3 : ¬ 64 < (y.1.2 - y.1.1.2 + 1) * many g.2.2.1 := fun z => by
      unfold pIf at h3
      rw [decide_eq_true z] at h3
      cases h3
    have d11 : ¬ y.1.1.1.2 ∈ g.2.2.1.map (fun y => y.1) := fun z => by
      unfold pIf at h11
      rw [decide_eq_true z] at h11
      cases h11
    rw [← (Prod.mk.inj (Sum.inr.inj hb)).1]
    refine ⟨a1, a2, a3, a4, by show (g.2.2.1 ++ [_]).length ≤ 2; rw [List.length_append]; show g.2.2.1.length + 1 ≤ 2; omega, fun z hz => ?_, ?_, ?_, a9, a10⟩
    · rcases mem_push hz with hz | rfl
      · exact a6 z hz
      · exact ⟨hc, n6.1, n6.2⟩
    · show many (g.2.2.1 ++ [_]) ≤ 64
      rw [many_push, Nat.mul_comm]
      show (y.1.2 - y.1.1.2 + 1) * many g.2.2.1 ≤ 64
      omega
    · show ((g.2.2.1 ++ [(y.1.1.1.2, y.1.1.2, y.1.2)]).map (fun y => y.1)).Nodup
      rw [List.map_append, List.nodup_append]
      refine ⟨a8, (List.nodup_cons.mpr ⟨List.not_mem_nil, List.nodup_nil⟩), fun p hp q hq e => ?_⟩
      rw [List.mem_singleton.mp hq] at e
      rw [e] at hp
      exact d11 hp
  rw [if_neg e16] at ht
  by_cases e17 : ix (hdt L) = 17
  · rw [if_pos e17] at ht
    unfold pLine at ht
    by_cases h4 : 16 ≤ g.2.2.2.length
    · rw [if_pos h4] at ht; cases ht
    rw [if_neg h4] at ht
    obtain ⟨y, hy, hb⟩ := bnd_inv ht
    obtain ⟨L0, h1, h2⟩ := tA_inv (b := y.1) (L' := y.2) hy
    obtain ⟨L1, h3, h5⟩ := tO_inv2 h1
    rw [es] at h5
    rw [ec] at h2
    rw [← (Prod.mk.inj (Sum.inr.inj hb)).1]
    refine ⟨a1, a2, a3, a4, a5, a6, a7, a8, by show (g.2.2.2 ++ [_]).length ≤ 16; rw [List.length_append]; show g.2.2.2.length + 1 ≤ 16; omega, fun z hz => ?_⟩
    rcases mem_push hz with hz | rfl
    · exact a10 z hz
    · exact ⟨h2.1, h5, h2.2⟩
  · rw [if_neg e17] at ht
    cases ht
theorem pAll_good : ∀ (n : Nat) (g g' : PGr) (L : List Tok), GK9 g → pAll n g L = .inr g' → GK9 g' := by
  intro n
  induction n with
  | zero => intro g g' L h e; rw [← Sum.inr.inj e]; exact h
  | succ n ih =>
    intro g g' L h e
    have e : (if ix (hdt L) = 0 then .inr g else bnd (tX (pTell g L) 6) fun x => pAll n x.1 x.2) = Sum.inr g' := e
    by_cases h0 : ix (hdt L) = 0
    · rw [if_pos h0] at e
      rw [← Sum.inr.inj e]
      exact h
    · rw [if_neg h0] at e
      cases hx : tX (pTell g L) 6 with
      | inl e2 => rw [hx] at e; cases e
      | inr y =>
        rw [hx] at e
        obtain ⟨L0, h1⟩ := tX_inv (a := y.1) (L' := y.2) hx
        exact ih y.1 g' y.2 (h.tell h1) e
theorem parse_good {ts : List Nat} {g : PGr} (h : parse ts = .inr g) : GK9 g := pAll_good _ _ _ _ GK9.nil h
