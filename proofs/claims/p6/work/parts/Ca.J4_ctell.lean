theorem app_get {β : Type} {l : List β} {z y : β} {i : Nat} (h : (l ++ [z])[i]? = some y) : l[i]? = some y ∨ (i = l.length ∧ y = z) := by
  by_cases hlt : i < l.length
  · rw [List.getElem?_append_left hlt] at h
    exact Or.inl h
  · rw [List.getElem?_append_right (by omega)] at h
    by_cases e : i = l.length
    · subst e
      rw [Nat.sub_self] at h
      exact Or.inr ⟨rfl, (Option.some.inj h).symm⟩
    · rw [show i - l.length = (i - l.length - 1) + 1 by omega] at h
      simp at h
theorem get_lt {β : Type} {l : List β} {y : β} {i : Nat} (h : l[i]? = some y) : i < l.length := by
  obtain ⟨h1, _⟩ := List.getElem?_eq_some_iff.mp h
  exact h1
/-- stuffs, cells, inputs, lines told, and the class's rows -/
def SA9 (l : List (List Nat × Nat × Nat)) (be co : Nat → Int32) : Prop := ∀ (i : Nat) (y : List Nat × Nat × Nat), l[i]? = some y → be i = nI y.2.1 ∧ co i = nI y.2.2
def CA9 (l : List (List Nat × Nat)) (to : Nat → Int32) : Prop := ∀ (i : Nat) (y : List Nat × Nat), l[i]? = some y → to i = nI y.2
def GA9 (l : List (Nat × Nat × Nat)) (gc le gr : Nat → Int32) : Prop := IA l le gr ∧ many l ≤ 64 ∧ (∀ y ∈ l, y.1 < 6) ∧ ∀ (i : Nat) (y : Nat × Nat × Nat), l[i]? = some y → gc i = nI y.1
/-- all codes of the lines, one behind the other -/
def cdl (l : List LN9) : List Nat := (l.map fun y => y.2.2.2.1.2 ++ y.2.2.2.2.2).flatten
def cds (g : PGr) : List Nat := cdl g.2.2.2
def LR9 (K : List Nat) (y : LN9) (ac sq tg fr mi en : Int32) : Prop := ac = nI y.1 ∧ sq = nI y.2.1 ∧ ((y.1 = 0 ∨ y.1 = 4) → tg = nI y.2.2.1) ∧ ∃ o : Nat, fr = nI o ∧ mi = nI (o + y.2.2.2.1.2.length) ∧ en = nI (o + (y.2.2.2.1.2 ++ y.2.2.2.2.2).length) ∧ ∀ j c, (y.2.2.2.1.2 ++ y.2.2.2.2.2)[j]? = some c → K[o + j]? = some c
def LA9 (l : List LN9) (ac sq tg fr mi en : Nat → Int32) : Prop := ∀ i y, l[i]? = some y → LR9 (cdl l) y (ac i) (sq i) (tg i) (fr i) (mi i) (en i)
theorem cdl_push (l : List LN9) (y : LN9) : cdl (l ++ [y]) = cdl l ++ (y.2.2.2.1.2 ++ y.2.2.2.2.2) := by
  unfold cdl
  rw [List.map_append, List.flatten_append]
  show _ ++ [y.2.2.2.1.2 ++ y.2.2.2.2.2].flatten = _
  rw [List.flatten_singleton]
theorem LR9.app {K M : List Nat} {y : LN9} {ac sq tg fr mi en : Int32} (h : LR9 K y ac sq tg fr mi en) : LR9 (K ++ M) y ac sq tg fr mi en := by
  obtain ⟨h1, h2, h3, o, h4, h5, h6, h7⟩ := h
  refine ⟨h1, h2, h3, o, h4, h5, h6, fun j c hj => ?_⟩
  have := h7 j c hj
  rw [List.getElem?_append_left (get_lt this)]
  exact this
theorem NA.push {ns : List (List Nat)} {an : Nat → Int64} {w : List Nat} {r : Int64} (h : NA ns an) (hn : ns.length < 6) (hw : WD w) (hr : r = eB w) : NA (ns ++ [w]) (vp_updL an ns.length r) := by
  refine ⟨by rw [List.length_append]; exact hn, fun z hz => ?_, fun i z hi => ?_⟩
  · rcases List.mem_append.mp hz with hz | hz
    · exact h.2.1 z hz
    · rw [List.mem_singleton.mp hz]; exact hw
  · rcases app_get hi with h9 | ⟨e, e2⟩
    · have := get_lt h9
      rw [pk_uLn (by omega)]
      exact h.2.2 i z h9
    · rw [e, pk_uLs, e2]
      exact hr
theorem NA.upd {ns : List (List Nat)} {an : Nat → Int64} {r : Int64} (h : NA ns an) : NA ns (vp_updL an ns.length r) := ⟨h.1, h.2.1, fun i z hi => by
  have := get_lt hi
  rw [pk_uLn (by omega)]
  exact h.2.2 i z hi⟩
theorem adv_le (L : List Tok) : (adv L).length ≤ L.length := by
  cases L with
  | nil => exact Nat.le_refl _
  | cons a r =>
    cases r with
    | nil => exact Nat.le_refl _
    | cons b r => exact Nat.le_succ _
section TL9
variable {α : Type} {P : List Tok} {L : List Tok} {x : PRs α} {V : α → Prop} {t p f : Int32} {tok : Nat} {v : Int64} {tk : Nat → Nat} {pl : Nat → Int32} {vl : Nat → Int64} {g : PGr} {sn cn : Nat → Int64}
theorem RX.map {β : Type} {V2 : β → Prop} (h : RX P x V t tok p v f) (k : α → β) (hk : ∀ a, V a → V2 (k a)) : RX P (bnd x fun y => .inr (k y.1, y.2)) V2 t tok p v f := by
  cases x with
  | inl e => exact h
  | inr y => exact ⟨h.1, h.2.1, hk _ h.2.2⟩
theorem RX.and {W : α → Prop} (h : RX P x V t tok p v f) (hw : ∀ a L, x = .inr (a, L) → V a → W a) : RX P x (fun a => V a ∧ W a) t tok p v f := by
  cases x with
  | inl e => exact h
  | inr y => exact ⟨h.1, h.2.1, h.2.2, hw y.1 y.2 rfl h.2.2⟩
theorem RX.imp {W : α → Prop} (h : RX P x V t tok p v f) (hw : ∀ a, V a → W a) : RX P x W t tok p v f := by
  cases x with
  | inl e => exact h
  | inr y => exact ⟨h.1, h.2.1, hw _ h.2.2⟩
theorem tO_inv {ns : List (List Nat)} {b : α × Nat} {L' : List Tok} (h : tO x ns = .inr (b, L')) : ∃ L0, x = .inr (b.1, L0) ∧ pTold ns L0 = .inr (b.2, L0) ∧ L' = adv L0 := by
  cases x with
  | inl e => cases h
  | inr y =>
    obtain ⟨a, L⟩ := y
    have h : sq0 (sq1 (.inr (a, L)) fun _ => pTold ns) (fun _ => pAdv) = .inr (b, L') := h
    rw [sq1_r] at h
    cases hq : pTold ns L with
    | inl e => rw [hq] at h; cases h
    | inr s =>
      rw [hq] at h
      have hs : s.2 = L := by
        unfold pTold at hq
        by_cases e : ix (hdt L) = 3
        · rw [if_pos e] at hq
          cases hf : fnd ns (hdt L).2.2 with
          | none => rw [hf] at hq; cases hq
          | some c => rw [hf] at hq; rw [← Sum.inr.inj hq]
        · rw [if_neg e] at hq; cases hq
      have h := Prod.mk.inj (Sum.inr.inj h)
      refine ⟨L, ?_, ?_, ?_⟩
      · rw [← h.1]
      · have hb : b.2 = s.1 := by rw [← h.1]
        rw [hq, hb, ← hs]
      · rw [← h.2, hs]
theorem sq_tellStuff {be co : Nat → Int32} {Φ : Int32 → Nat → Int32 → Int64 → Int32 → (Nat → Int64) → Int32 → (Nat → Int32) → (Nat → Int32) → Prop} (hP : HP P tk pl vl) (hR : RX P (.inr ((), L) : PRs Unit) (fun _ => True) t tok p v f) (hs : NA (snm g) sn) (hs4 : (snm g).length ≤ 4) (hc : NA (cnm g) cn) (hA : SA9 g.1 be co) (hΦ : ∀ t' tok' p' v' f' sn' st' be' co', RX P (pStuff g L) (fun g' => g'.2 = g.2 ∧ NA (snm g') sn' ∧ (snm g').length ≤ 4 ∧ st' = nI (snm g').length ∧ SA9 g'.1 be' co') t' tok' p' v' f' → Φ t' tok' p' v' f' sn' st' be' co') : wl_X3_tellStuff cn (nI P.length) tk pl vl (nI (cnm g).length) t tok p v f sn (nI (snm g).length) be co Φ := by
  have hlen : (snm g).length = g.1.length := List.length_map _
  unfold wl_X3_tellStuff
  refine ⟨fun h4 => ?_, fun h4 => ?_⟩
  · rw [show (4 : Int32) = nI 4 from rfl, nI_ltI (a := (snm g).length) (b := 4) (by omega) (by decide)] at h4
    have hlt4 : (snm g).length + 1 ≤ 4 := h4
    have hp : pStuff g L = bnd (tN (tX (tN (tX (tW (.inr ((), adv L)) (snm g) (cnm g)) 13) (fun _ => 1) (fun _ => 9999)) 14) (fun _ => 0) (fun _ => 999)) fun y => .inr ((g.1 ++ [(y.1.1.1.2, y.1.1.2, y.1.2)], g.2), y.2) := if_neg (by omega)
    rw [hp] at hΦ
    refine sq_adv hP hR (fun t1 tok1 p1 v1 h1 => ?_)
    refine sq_new (x := (.inr ((), adv L) : PRs Unit)) hP h1 hs hs4 hc (fun r2 t2 tok2 p2 v2 f2 h2 _ => ?_)
    refine sq_expect (w := 13) hP h2 (fun t3 tok3 p3 v3 f3 h3 => ?_)
    refine sq_takeNumber (lo := fun _ => 1) (hi := fun _ => 9999) hP h3 (fun _ _ _ _ => ⟨rfl, rfl, by decide, by decide⟩) (fun r4 t4 tok4 p4 v4 f4 h4 _ => ?_)
    refine sq_expect (w := 14) hP h4 (fun t5 tok5 p5 v5 f5 h5 => ?_)
    refine sq_takeNumber (lo := fun _ => 0) (hi := fun _ => 999) hP h5 (fun _ _ _ _ => ⟨rfl, rfl, by decide, by decide⟩) (fun r6 t6 tok6 p6 v6 f6 h6 _ => ?_)
    refine hΦ _ _ _ _ _ _ _ _ _ (h6.map (fun a => (g.1 ++ [(a.1.1.2, a.1.2, a.2)], g.2)) (fun a hV => ?_))
    obtain ⟨⟨⟨_, hr2, hw2⟩, hr4, _⟩, hr6, _⟩ := hV
    rw [nI_clamp (by omega)]
    have em : snm (g.1 ++ [(a.1.1.2, a.1.2, a.2)], g.2) = snm g ++ [a.1.1.2] := by
      unfold snm
      rw [List.map_append]
      rfl
    refine ⟨rfl, ?_, ?_, ?_, fun i y hi => ?_⟩
    · rw [em]; exact hs.push (by omega) hw2 hr2
    · rw [em, List.length_append]; exact hlt4
    · rw [em, List.length_append, nI_1]; rfl
    · rcases app_get hi with h9 | ⟨e, e2⟩
      · have := get_lt h9
        rw [pk_un (by omega), pk_un (by omega)]
        exact hA i y h9
      · rw [e, hlen, pk_us, pk_us, e2]
        exact ⟨hr4, hr6⟩
  · rw [show (4 : Int32) = nI 4 from rfl, nI_ltI (a := (snm g).length) (b := 4) (by omega) (by decide)] at h4
    have hp : pStuff g L = .inl (flt 5 L) := if_pos (by omega)
    rw [hp] at hΦ
    exact bad0 (k := 5) (g := fun _ _ => .inl (flt 5 L)) (by decide) (by decide) hP hR (fun a L' e _ _ => by rw [(Prod.mk.inj (Sum.inr.inj e)).2]) (fun f' h' => hΦ _ _ _ _ _ _ _ _ _ h')
theorem sq_tellCell {to : Nat → Int32} {Φ : Int32 → Nat → Int32 → Int64 → Int32 → (Nat → Int64) → Int32 → (Nat → Int32) → Prop} (hP : HP P tk pl vl) (hR : RX P (.inr ((), L) : PRs Unit) (fun _ => True) t tok p v f) (hs : NA (snm g) sn) (hs4 : (snm g).length ≤ 4) (hc : NA (cnm g) cn) (hA : CA9 g.2.1 to) (hΦ : ∀ t' tok' p' v' f' cn' ce' to', RX P (pCell g L) (fun g' => g'.1 = g.1 ∧ g'.2.2 = g.2.2 ∧ NA (cnm g') cn' ∧ ce' = nI (cnm g').length ∧ CA9 g'.2.1 to') t' tok' p' v' f' → Φ t' tok' p' v' f' cn' ce' to') : wl_X3_tellCell sn (nI P.length) tk pl vl (nI (snm g).length) t tok p v f cn (nI (cnm g).length) to Φ := by
  have hlen : (cnm g).length = g.2.1.length := List.length_map _
  have hc6 := hc.1
  unfold wl_X3_tellCell
  refine ⟨fun h4 => ?_, fun h4 => ?_⟩
  · rw [show (6 : Int32) = nI 6 from rfl, nI_ltI (a := (cnm g).length) (b := 6) (by omega) (by decide)] at h4
    have hp : pCell g L = bnd (tN (tW (.inr ((), adv L)) (snm g) (cnm g)) (fun _ => 0) (fun _ => 9999)) fun y => .inr ((g.1, g.2.1 ++ [(y.1.1.2, y.1.2)], g.2.2), y.2) := if_neg (by omega)
    rw [hp] at hΦ
    refine sq_adv hP hR (fun t1 tok1 p1 v1 h1 => ?_)
    refine sq_new (x := (.inr ((), adv L) : PRs Unit)) hP h1 hs hs4 hc (fun r2 t2 tok2 p2 v2 f2 h2 _ => ?_)
    refine sq_takeNumber (lo := fun _ => 0) (hi := fun _ => 9999) hP h2 (fun _ _ _ _ => ⟨rfl, rfl, by decide, by decide⟩) (fun r4 t4 tok4 p4 v4 f4 h4 _ => ?_)
    refine hΦ _ _ _ _ _ _ _ _ (h4.map (fun a => (g.1, g.2.1 ++ [(a.1.2, a.2)], g.2.2)) (fun a hV => ?_))
    obtain ⟨⟨_, hr2, hw2⟩, hr4, _⟩ := hV
    rw [nI_clamp (by omega)]
    have em : cnm (g.1, g.2.1 ++ [(a.1.2, a.2)], g.2.2) = cnm g ++ [a.1.2] := by
      unfold cnm
      rw [List.map_append]
      rfl
    refine ⟨rfl, rfl, ?_, ?_, fun i y hi => ?_⟩
    · rw [em]; exact hc.push (by omega) hw2 hr2
    · rw [em, List.length_append, nI_1]; rfl
    · rcases app_get hi with h9 | ⟨e, e2⟩
      · have := get_lt h9
        rw [pk_un (by omega)]
        exact hA i y h9
      · rw [e, hlen, pk_us, e2]
        exact hr4
  · rw [show (6 : Int32) = nI 6 from rfl, nI_ltI (a := (cnm g).length) (b := 6) (by omega) (by decide)] at h4
    have hp : pCell g L = .inl (flt 5 L) := if_pos (by omega)
    rw [hp] at hΦ
    exact bad0 (k := 5) (g := fun _ _ => .inl (flt 5 L)) (by decide) (by decide) hP hR (fun a L' e _ _ => by rw [(Prod.mk.inj (Sum.inr.inj e)).2]) (fun f' h' => hΦ _ _ _ _ _ _ _ _ h')
theorem many_push (l : List (Nat × Nat × Nat)) (y : Nat × Nat × Nat) : many (l ++ [y]) = many l * (y.2.2 - y.2.1 + 1) := by unfold many; rw [List.foldl_append]; rfl
theorem sq_tellInput {gc le gr : Nat → Int32} {Φ : Int32 → Nat → Int32 → Int64 → Int32 → Int32 → (Nat → Int32) → (Nat → Int32) → (Nat → Int32) → Prop} (hP : HP P tk pl vl) (hR : RX P (.inr ((), L) : PRs Unit) (fun _ => True) t tok p v f) (hc : NA (cnm g) cn) (hA : GA9 g.2.2.1 gc le gr) (hΦ : ∀ t' tok' p' v' f' gi' gc' le' gr', RX P (pInput g L) (fun g' => g'.1 = g.1 ∧ g'.2.1 = g.2.1 ∧ g'.2.2.2 = g.2.2.2 ∧ gi' = nI g'.2.2.1.length ∧ GA9 g'.2.2.1 gc' le' gr') t' tok' p' v' f' → Φ t' tok' p' v' f' gi' gc' le' gr') : wl_X3_tellInput cn (nI P.length) tk pl vl (nI (cnm g).length) t tok p v f (nI g.2.2.1.length) gc le gr Φ := by
  obtain ⟨hI, hm, hg6, hgc⟩ := hA
  have hi2 := hI.1
  have hc6 := hc.1
  have hlm : (g.2.2.1.map (fun y => y.1)).length = g.2.2.1.length := List.length_map _
  unfold wl_X3_tellInput
  refine ⟨fun h4 => ?_, fun h4 => ?_⟩
  · rw [show (2 : Int32) = nI 2 from rfl, nI_ltI (a := g.2.2.1.length) (b := 2) (by omega) (by decide)] at h4
    have hlt2 : g.2.2.1.length + 1 ≤ 2 := h4
    have hp : pInput g L = bnd (sq0 (sq0 (sq1 (tN (sq0 (sq0 (sq1 (.inr ((), adv L)) fun _ => pTold (cnm g)) fun a => pIf (decide (a.2 ∈ g.2.2.1.map (fun y => y.1))) 3) fun _ => pAdv) (fun _ => 0) (fun _ => 9999)) fun a => pNum a.2 9999) fun a => pIf (decide (64 < (a.2 - a.1.2 + 1) * many g.2.2.1)) 5) fun _ => pAdv) fun y => .inr ((g.1, g.2.1, g.2.2.1 ++ [(y.1.1.1.2, y.1.1.2, y.1.2)], g.2.2.2), y.2) := if_neg (by omega)
    rw [hp] at hΦ
    refine sq_adv hP hR (fun t1 tok1 p1 v1 h1 => ?_)
    refine sq_told (x := (.inr ((), adv L) : PRs Unit)) hP h1 hc hc6 (by decide) (fun r2 f2 h2 => ?_)
    -- behind the cell
    have h52 : ∀ f3, RX P (sq0 (sq1 (.inr ((), adv L) : PRs Unit) fun _ => pTold (cnm g)) fun a => pIf (decide (a.2 ∈ g.2.2.1.map (fun y => y.1))) 3) (fun ab => True ∧ r2 = nI ab.2 ∧ ab.2 < (cnm g).length) t1 tok1 p1 v1 f3 → kl_X3_tellInput_52 cn (nI P.length) tk pl vl (nI (cnm g).length) Φ t1 tok1 p1 v1 f3 (nI g.2.2.1.length) gc le gr (nI g.2.2.1.length) r2 := by
      intro f3 h3
      refine sq_adv hP h3 (fun t4 tok4 p4 v4 h4 => ?_)
      refine sq_takeNumber (lo := fun _ => 0) (hi := fun _ => 9999) hP h4 (fun _ _ _ _ => ⟨rfl, rfl, by decide, by decide⟩) (fun r5 t5 tok5 p5 v5 f5 h5 => ?_)
      refine sq_num (lo := fun a => a.2) (hi := fun _ => 9999) hP h5 (fun a L' _ hV => ⟨hV.2.1, rfl, by have := hV.2.2; omega, by decide⟩) (fun r6 f6 h6 => ?_)
      have h99 : ∀ f7, RX P (sq0 (sq1 (tN (sq0 (sq0 (sq1 (.inr ((), adv L)) fun _ => pTold (cnm g)) fun a => pIf (decide (a.2 ∈ g.2.2.1.map (fun y => y.1))) 3) fun _ => pAdv) (fun _ => 0) (fun _ => 9999)) fun a => pNum a.2 9999) fun a => pIf (decide (64 < (a.2 - a.1.2 + 1) * many g.2.2.1)) 5) (fun ab => ((((True ∧ r2 = nI ab.1.1.2 ∧ ab.1.1.2 < (cnm g).length) ∧ r5 = nI ab.1.2 ∧ ab.1.2 ≤ 9999) ∧ r6 = nI ab.2 ∧ ab.2 ≤ 9999) ∧ ab.1.2 ≤ ab.2) ∧ (ab.2 - ab.1.2 + 1) * many g.2.2.1 ≤ 64) t5 tok5 p5 v5 f7 → kl_X3_tellInput_99 cn (nI P.length) tk pl vl (nI (cnm g).length) Φ t5 tok5 p5 v5 f7 (nI g.2.2.1.length) gc le gr (nI g.2.2.1.length) r2 r5 r6 := by
        intro f7 h7
        refine sq_adv hP h7 (fun t8 tok8 p8 v8 h8 => ?_)
        refine fun _ _ _ => hΦ _ _ _ _ _ _ _ _ _ (h8.map (fun a => (g.1, g.2.1, g.2.2.1 ++ [(a.1.1.2, a.1.2, a.2)], g.2.2.2)) (fun a hV => ?_))
        obtain ⟨⟨⟨⟨⟨_, hr2, hc2⟩, hr5, _⟩, hr6, h9999⟩, hle⟩, h64⟩ := hV
        rw [nI_clamp (n := g.2.2.1.length) (by omega), nI_1]
        refine ⟨rfl, rfl, rfl, ?_, ⟨?_, fun y hy => ?_, fun i y hi => ?_⟩, ?_, fun y hy => ?_, fun i y hi => ?_⟩
        · show _ = nI (g.2.2.1 ++ [_]).length
          rw [List.length_append]; rfl
        · show (g.2.2.1 ++ [_]).length ≤ 2
          rw [List.length_append]; exact hlt2
        · rcases List.mem_append.mp hy with hy | hy
          · exact hI.2.1 y hy
          · rw [List.mem_singleton.mp hy]; exact ⟨hle, h9999⟩
        · rcases app_get hi with h9 | ⟨e, e2⟩
          · have := get_lt h9
            rw [pk_un (by omega), pk_un (by omega)]
            exact hI.2.2 i y h9
          · rw [e, pk_us, pk_us, e2]
            exact ⟨hr5, hr6⟩
        · show many (g.2.2.1 ++ [_]) ≤ 64
          rw [many_push, Nat.mul_comm]
          exact h64
        · rcases List.mem_append.mp hy with hy | hy
          · exact hg6 y hy
          · rw [List.mem_singleton.mp hy]
            show a.1.1.2 < 6
            omega
        · rcases app_get hi with h9 | ⟨e, e2⟩
          · have := get_lt h9
            rw [pk_un (by omega)]
            exact hgc i y h9
          · rw [e, pk_us, e2]
            exact hr2
      have h6' := h6.and (W := fun a => a.1.2 ≤ a.2) (fun a L' e hV => by
        cases hx : tN (sq0 (sq0 (sq1 (.inr ((), adv L) : PRs Unit) fun _ => pTold (cnm g)) fun a => pIf (decide (a.2 ∈ g.2.2.1.map (fun y => y.1))) 3) fun _ => pAdv) (fun _ => 0) (fun _ => 9999) with
        | inl e2 => rw [hx] at e; cases e
        | inr z =>
          rw [hx, sq1_r] at e
          unfold pNum at e
          by_cases c1 : ix (hdt z.2) = 2
          · rw [if_pos c1] at e
            by_cases c2 : z.1.2 ≤ num (hdt z.2) ∧ num (hdt z.2) ≤ 9999
            · rw [if_pos c2] at e
              have e := (Prod.mk.inj (Sum.inr.inj e)).1
              rw [← e]
              exact c2.1
            · rw [if_neg c2] at e; cases e
          · rw [if_neg c1] at e; cases e)
      -- the product, where there is no fault
      have prod : ∀ a : ((Unit × Nat) × Nat) × Nat, ((((True ∧ r2 = nI a.1.1.2 ∧ a.1.1.2 < (cnm g).length) ∧ r5 = nI a.1.2 ∧ a.1.2 ≤ 9999) ∧ r6 = nI a.2 ∧ a.2 ≤ 9999) ∧ a.1.2 ≤ a.2) → ((((r6 - r5) + 1) * nI (many g.2.2.1) ≤ 64) ↔ (a.2 - a.1.2 + 1) * many g.2.2.1 ≤ 64) := by
        intro a hV
        obtain ⟨⟨⟨_, hr5, _⟩, hr6, h9999⟩, hle⟩ := hV
        rw [hr5, hr6, pk_sub hle, nI_1, pk_mul]
        have hb : (a.2 - a.1.2 + 1) * many g.2.2.1 ≤ 10000 * 64 := Nat.mul_le_mul (by omega) hm
        exact nI_leI (b := 64) (by omega) (by decide)
      refine sq_icount hI ⟨fun z => h99 f6 ?_, fun z => ?_⟩
      · refine (good0 (g := fun a => pIf (decide (64 < (a.2 - a.1.2 + 1) * many g.2.2.1)) 5) (h6'.and (W := fun a => (a.2 - a.1.2 + 1) * many g.2.2.1 ≤ 64) (fun a L' _ hV => (prod a hV).mp z)) (fun a L' _ hV _ => ?_))
        have : decide (64 < (a.2 - a.1.2 + 1) * many g.2.2.1) = false := decide_eq_false (by have := hV.2; omega)
        unfold pIf
        rw [this]
        rfl
      · refine bad0 (k := 5) (g := fun a => pIf (decide (64 < (a.2 - a.1.2 + 1) * many g.2.2.1)) 5) (by decide) (by decide) hP h6' (fun a L' _ hV _ => ?_) (fun f7 h7 => h99 f7 ?_)
        · have : decide (64 < (a.2 - a.1.2 + 1) * many g.2.2.1) = true := decide_eq_true (by have := mt (prod a hV).mpr z; omega)
          unfold pIf
          rw [this]
          rfl
        · refine h7.and (W := fun a => (a.2 - a.1.2 + 1) * many g.2.2.1 ≤ 64) (fun a L' e hV => ?_)
          cases hx : sq1 (tN (sq0 (sq0 (sq1 (.inr ((), adv L) : PRs Unit) fun _ => pTold (cnm g)) fun a => pIf (decide (a.2 ∈ g.2.2.1.map (fun y => y.1))) 3) fun _ => pAdv) (fun _ => 0) (fun _ => 9999)) fun a => pNum a.2 9999 with
          | inl e2 => rw [hx] at e; cases e
          | inr y =>
            rw [hx, sq0_r] at e
            by_cases c : 64 < (y.1.2 - y.1.1.2 + 1) * many g.2.2.1
            · unfold pIf at e
              rw [decide_eq_true c] at e
              cases e
            · unfold pIf at e
              rw [decide_eq_false c] at e
              have e := (Prod.mk.inj (Sum.inr.inj e)).1
              rw [← e]
              omega
    -- whether it has its input
    cases hq : pTold (cnm g) (adv L) with
    | inl e =>
      have h2' : RX P (.inl e : PRs Unit) (fun _ => True) t1 tok1 p1 v1 f2 := by
        rw [sq1_r, hq] at h2
        exact h2
      have h3 : RX P (sq0 (sq1 (.inr ((), adv L) : PRs Unit) fun _ => pTold (cnm g)) fun a => pIf (decide (a.2 ∈ g.2.2.1.map (fun y => y.1))) 3) (fun ab => True ∧ r2 = nI ab.2 ∧ ab.2 < (cnm g).length) t1 tok1 p1 v1 f2 := by
        rw [sq1_r, hq]
        exact h2'
      exact given_any (fun b => ⟨fun _ => h52 f2 h3, fun _ => fail_n h2'.ne (h52 f2 h3)⟩)
    | inr c =>
      have h2' := h2
      rw [sq1_r, hq] at h2'
      obtain ⟨_, _, _, hr2, hc2⟩ := h2'
      have hr2' : r2 = nI c.1 := hr2
      have hc2' : c.1 < (cnm g).length := hc2
      rw [hr2'] at h52 ⊢
      rw [hr2'] at h2
      rw [← hlm]
      refine sq_given (by omega) (fun y hy => ?_) (by omega) (fun i y hi => ?_) (fun hn => ⟨fun _ => ?_, fun z => absurd rfl z⟩) (fun hy => ⟨fun z => absurd z (by (try dsimp only); decide), fun _ => ?_⟩)
      · obtain ⟨z, hz, rfl⟩ := List.mem_map.mp hy
        exact hg6 z hz
      · rw [List.getElem?_map] at hi
        cases hz : g.2.2.1[i]? with
        | none => rw [hz] at hi; cases hi
        | some z =>
          rw [hz] at hi
          rw [← Option.some.inj hi]
          exact hgc i z hz
      · rw [hlm]
        refine h52 f2 (good0 h2 (fun a L' e hV _ => ?_))
        have ea : a.2 = c.1 := by
          rw [sq1_r, hq] at e
          rw [← (Prod.mk.inj (Sum.inr.inj e)).1]
        unfold pIf
        rw [ea, decide_eq_false hn]
        rfl
      · rw [hlm]
        refine bad0 (k := 3) (by decide) (by decide) hP h2 (fun a L' e hV _ => ?_) (fun f3 h3 => h52 f3 h3)
        have ea : a.2 = c.1 := by
          rw [sq1_r, hq] at e
          rw [← (Prod.mk.inj (Sum.inr.inj e)).1]
        unfold pIf
        rw [ea, decide_eq_true hy]
        rfl
  · rw [show (2 : Int32) = nI 2 from rfl, nI_ltI (a := g.2.2.1.length) (b := 2) (by omega) (by decide)] at h4
    have hp : pInput g L = .inl (flt 5 L) := if_pos (by omega)
    rw [hp] at hΦ
    exact bad0 (k := 5) (g := fun _ _ => .inl (flt 5 L)) (by decide) (by decide) hP hR (fun a L' e _ _ => by rw [(Prod.mk.inj (Sum.inr.inj e)).2]) (fun f' h' => hΦ _ _ _ _ _ _ _ _ _ h')
end TL9
