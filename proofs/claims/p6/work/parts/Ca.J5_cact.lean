theorem tkA_31 : ∀ i : Fin 31, tkA i.val = if 20 ≤ i.val ∧ i.val ≤ 26 then nI (i.val - 20) else -1 := by decide
theorem tkA_ix (k : Tok) : tkA (ix k) = if 20 ≤ ix k ∧ ix k ≤ 26 then nI (ix k - 20) else -1 := tkA_31 ⟨ix k, ix_lt k⟩
section TA9
variable {α : Type} {P : List Tok} {L : List Tok} {x : PRs α} {V : α → Prop} {C : α → List Nat} {B li : Nat} {t p f d : Int32} {tok : Nat} {v : Int64} {code : Nat → Int32} {tk : Nat → Nat} {pl : Nat → Int32} {vl : Nat → Int64} {cn : List (List Nat)} {an : Nat → Int64} {ac tg mi : Nat → Int32}
theorem CX.map {β : Type} {C2 : β → List Nat} (h : CX B x C d code) (k : α → β) (hk : ∀ a, C2 (k a) = C a) : CX B (bnd x fun y => .inr (k y.1, y.2)) C2 d code := by
  cases x with
  | inl e => exact fun a L z => by cases z
  | inr y =>
    intro a L e
    have e := Prod.mk.inj (Sum.inr.inj e)
    rw [← e.1, ← e.2, hk]
    exact h y.1 y.2 rfl
theorem CX.tOZ {ns : List (List Nat)} (h : CX B x C d code) : CX B (tO x ns) (fun ab => C ab.1) d code := by
  intro a L e
  obtain ⟨L0, e1, _, e3⟩ := tO_inv e
  obtain ⟨h1, h2⟩ := h _ _ e1
  refine ⟨h1, ?_⟩
  have := adv_le L0
  rw [e3]
  dsimp only
  omega
theorem CX.tXZ {w : Nat} (h : CX B x C d code) : CX B (tX x w) C d code := by
  cases x with
  | inl e => exact fun a L z => by cases z
  | inr y =>
    obtain ⟨a, L⟩ := y
    intro a' L' e
    have e : sq0 (sq0 (.inr (a, L)) fun _ => pSay w) (fun _ => pAdv) = .inr (a', L') := e
    rw [sq0_r] at e
    by_cases hs : ix (hdt L) = w
    · have hq : pSay w L = .inr L := if_pos hs
      rw [hq] at e
      have e := Prod.mk.inj (Sum.inr.inj e)
      obtain ⟨h1, h2⟩ := h _ _ rfl
      rw [← e.1, ← e.2]
      have := adv_le L
      exact ⟨h1, by (try dsimp only); omega⟩
    · have hq : pSay w L = .inl (flt 1 L) := if_neg hs
      rw [hq] at e
      cases e
abbrev PA3 : Type := Int32 → Int32 → Nat → Int32 → Int64 → Int32 → (Nat → Int32) → (Nat → Int32) → (Nat → Int32) → (Nat → Int32) → Prop
/-- the rows of the lines but one are as they were -/
def KB (li : Nat) (ac tg mi ac' tg' mi' : Nat → Int32) : Prop := ∀ j, j ≠ li → ac' j = ac j ∧ tg' j = tg j ∧ mi' j = mi j
theorem act_stuck {e : Nat} {Φ : PA3} (hP : HP P tk pl vl) (hN : NA cn an) (hl : li < 16) (h : RX P (.inl e : PRs Unit) (fun _ => True) t tok p v f) (hΦ : ∀ d' t' tok' p' v' f' code' ac' tg' mi', RX P (.inl e : PRs Unit) (fun _ => True) t' tok' p' v' f' → KB li ac tg mi ac' tg' mi' → Φ d' t' tok' p' v' f' code' ac' tg' mi') : wl_X3_tellAct an (nI P.length) tk pl vl (nI cn.length) (nI li) d t tok p v f code ac tg mi Φ := by
  have ku : ∀ (g : Nat → Int32) (r : Int32) (j : Nat), j ≠ li → upd g (nI li).toNatClampNeg r j = g j := fun g r j hj => by rw [nI_clamp (by omega)]; exact pk_un hj
  have nc : ∀ (d : Int32) (code : Nat → Int32), CX 1000 (.inl e : PRs Unit) (fun _ => []) d code := fun _ _ a L z => by cases z
  have k62 : ∀ (d t : Int32) (tok : Nat) (p : Int32) (v : Int64) (f : Int32) (code ac' tg' : Nat → Int32) (a : Int32), RX P (.inl e : PRs Unit) (fun _ => True) t tok p v f → (∀ j, j ≠ li → ac' j = ac j ∧ tg' j = tg j) → kl_X3_tellAct_62 an (nI P.length) tk pl vl (nI cn.length) (nI li) Φ d t tok p v f code ac' tg' mi a := by
    intro d t tok p v f code ac' tg' a h hk
    refine fun _ => ⟨fun n3 => ⟨fun n5 => ⟨fun n4 => hΦ _ _ _ _ _ _ _ _ _ _ h (fun j hj => ⟨(hk j hj).1, (hk j hj).2, ku _ _ _ hj⟩), fun e4 => ?_⟩, fun e5 => ?_⟩, fun e3 => ?_⟩
    · exact sq_expect (x := (.inl e : PRs Unit)) (w := 18) hP h (fun _ _ _ _ _ h' => sq_takeCell (x := (.inl e : PRs Unit)) hP h' hN (fun _ _ _ _ _ _ h'' _ => hΦ _ _ _ _ _ _ _ _ _ _ h'' (fun j hj => ⟨(hk j hj).1, (ku _ _ _ hj).trans (hk j hj).2, ku _ _ _ hj⟩)))
    · exact sq_expect (x := (.inl e : PRs Unit)) (w := 19) hP h (fun _ _ _ _ _ h' => sq_expr (x := (.inl e : PRs Unit)) (B := 1000) hP hN (by decide) h' (nc _ _) (fun _ _ _ _ _ _ _ h'' _ => hΦ _ _ _ _ _ _ _ _ _ _ h'' (fun j hj => ⟨(hk j hj).1, (hk j hj).2, ku _ _ _ hj⟩)))
    · exact sq_expect (x := (.inl e : PRs Unit)) (w := 22) hP h (fun _ _ _ _ _ h' => sq_expr (x := (.inl e : PRs Unit)) (B := 1000) hP hN (by decide) h' (nc _ _) (fun _ _ _ _ _ _ _ h'' _ => hΦ _ _ _ _ _ _ _ _ _ _ h'' (fun j hj => ⟨(hk j hj).1, (hk j hj).2, ku _ _ _ hj⟩)))
  have k50 : ∀ (d t : Int32) (tok : Nat) (p : Int32) (v : Int64) (f : Int32) (code ac' tg' : Nat → Int32) (a : Int32), RX P (.inl e : PRs Unit) (fun _ => True) t tok p v f → (∀ j, j ≠ li → ac' j = ac j ∧ tg' j = tg j) → kl_X3_tellAct_50 an (nI P.length) tk pl vl (nI cn.length) (nI li) Φ d t tok p v f code ac' tg' mi a := by
    intro d t tok p v f code ac' tg' a h hk
    exact ⟨fun _ => k62 _ _ _ _ _ _ _ _ _ _ h hk, fun _ => sq_expr (x := (.inl e : PRs Unit)) (B := 1000) hP hN (by decide) h (nc _ _) (fun _ _ _ _ _ _ _ h'' _ => k62 _ _ _ _ _ _ _ _ _ _ h'' hk)⟩
  unfold wl_X3_tellAct
  refine fun _ => ⟨fun n1 _ => ?_, fun e1 => fail_n h.ne (hΦ _ _ _ _ _ _ _ _ _ _ h (fun j _ => ⟨rfl, rfl, rfl⟩))⟩
  refine sq_adv (x := (.inl e : PRs Unit)) hP h (fun t1 tok1 p1 v1 h1 => ⟨fun n0 => k50 _ _ _ _ _ _ _ _ _ _ h1 (fun j hj => ⟨ku _ _ _ hj, rfl⟩), fun e0 => ?_⟩)
  exact sq_takeCell (x := (.inl e : PRs Unit)) hP h1 hN (fun _ _ _ _ _ _ h'' _ => k50 _ _ _ _ _ _ _ _ _ _ h'' (fun j hj => ⟨ku _ _ _ hj, ku _ _ _ hj⟩))
/-- what tellAct leaves of the line -/
def AF9 {α : Type} (V : α → Prop) (C : α → List Nat) (nc li : Nat) (ac' tg' mi' : Nat → Int32) (ab : α × Nat × Nat × EC × EC) : Prop := V ab.1 ∧ ac' li = nI ab.2.1 ∧ ((ab.2.1 = 0 ∨ ab.2.1 = 4) → tg' li = nI ab.2.2.1) ∧ mi' li = nI ((C ab.1).length + ab.2.2.2.1.2.length)
theorem sq_tellAct {Φ : PA3} (hP : HP P tk pl vl) (hN : NA cn an) (hB : B ≤ 1000) (hl : li < 16) (hR : RX P x V t tok p v f) (hC : CX B x C d code) (hΦ : ∀ d' t' tok' p' v' f' code' ac' tg' mi', RX P (tA x cn) (AF9 V C cn.length li ac' tg' mi') t' tok' p' v' f' → CX B (tA x cn) (fun ab => C ab.1 ++ (ab.2.2.2.1.2 ++ ab.2.2.2.2.2)) d' code' → KB li ac tg mi ac' tg' mi' → Φ d' t' tok' p' v' f' code' ac' tg' mi') : wl_X3_tellAct an (nI P.length) tk pl vl (nI cn.length) (nI li) d t tok p v f code ac tg mi Φ := by
  cases x with
  | inl e => exact act_stuck (e := e) hP hN hl hR (fun d' t' tok' p' v' f' code' ac' tg' mi' h hk => hΦ _ _ _ _ _ _ _ _ _ _ h (fun a L z => by cases z) hk)
  | inr y =>
    obtain ⟨a, L⟩ := y
    obtain ⟨hf, hA, hV⟩ := id hR
    have hix : tok = ix (hdt L) := hA.ixZ
    have htk := tkA_ix (hdt L)
    rw [← hix] at htk
    by_cases hb : 20 ≤ ix (hdt L) ∧ ix (hdt L) ≤ 26
    · rw [← hix] at hb
      rw [if_pos hb] at htk
      have hq : tA (.inr (a, L)) cn = bnd (pAct cn (tok - 20) (.inr ((), adv L))) fun y => .inr ((a, tok - 20, y.1.2), y.2) := by
        rw [hix] at hb ⊢
        exact if_pos hb
      have ebq : ∃ b, b = tok - 20 ∧ b ≤ 6 := ⟨_, rfl, by omega⟩
      obtain ⟨b, eb, hb6⟩ := ebq
      rw [← eb] at hq htk
      have hlen : (C a).length + L.length ≤ B := (hC _ _ rfl).2
      have c0 : CX B (.inr ((), adv L) : PRs Unit) (fun _ => C a) d code := fun u L' e => by
        have e := Prod.mk.inj (Sum.inr.inj e)
        rw [← e.2]
        have := adv_le L
        exact ⟨(hC _ _ rfl).1, by (try dsimp only); omega⟩
      -- what is left to show once all is read
      have fin : ∀ {β : Type} (Z : PRs β) (k : β → Nat × EC × EC) (W : β → Prop) (d' t' : Int32) (tok' : Nat) (p' : Int32) (v' : Int64) (f' : Int32) (code' ac' tg' mi' : Nat → Int32), pAct cn b (.inr ((), adv L) : PRs Unit) = bnd Z (fun y => .inr (((), k y.1), y.2)) → RX P Z W t' tok' p' v' f' → CX B Z (fun z => C a ++ ((k z).2.1.2 ++ (k z).2.2.2)) d' code' → ac' li = nI b → (∀ z, W z → ((b = 0 ∨ b = 4) → tg' li = nI (k z).1) ∧ mi' li = nI ((C a).length + (k z).2.1.2.length)) → KB li ac tg mi ac' tg' mi' → Φ d' t' tok' p' v' f' code' ac' tg' mi' := by
        intro β Z k W d' t' tok' p' v' f' code' ac' tg' mi' hp hZ hCZ hac hW hk
        rw [hq, hp] at hΦ
        refine hΦ _ _ _ _ _ _ _ _ _ _ ((hZ.map (V2 := fun u => ((b = 0 ∨ b = 4) → tg' li = nI u.2.1) ∧ mi' li = nI ((C a).length + u.2.2.1.2.length)) (fun z => ((), k z)) hW).map (fun u => (a, b, u.2)) (fun u hu => ⟨hV, hac, hu.1, hu.2⟩)) ?_ hk
        exact ((hCZ.map (C2 := fun u => C a ++ (u.2.2.1.2 ++ u.2.2.2.2)) (fun z => ((), k z)) (fun z => rfl)).map (fun u => (a, b, u.2)) (fun u => rfl))
      have us : ∀ (g : Nat → Int32) (r : Int32), upd g (nI li).toNatClampNeg r li = r := fun g r => by rw [nI_clamp (by omega)]; exact pk_us
      have un : ∀ (g : Nat → Int32) (r : Int32) (j : Nat), j ≠ li → upd g (nI li).toNatClampNeg r j = g j := fun g r j hj => by rw [nI_clamp (by omega)]; exact pk_un hj
      have bI : ∀ j : Nat, j < 100 → (nI b = nI j ↔ b = j) := fun j hj => nI_eq (by omega) (by omega)
      have b0 : nI b = 0 ↔ b = 0 := bI 0 (by decide)
      have b3 : nI b = 3 ↔ b = 3 := bI 3 (by decide)
      have b4 : nI b = 4 ↔ b = 4 := bI 4 (by decide)
      have b5 : nI b = 5 ↔ b = 5 := bI 5 (by decide)
      have b6 : nI b = 6 ↔ b = 6 := bI 6 (by decide)
      unfold wl_X3_tellAct
      rw [htk]
      refine fun _ => ⟨fun n1 _ => ?_, fun e1 => absurd e1 (fun z => nI_pos (n := b) (by omega) (by rw [z]; decide))⟩
      refine sq_adv hP hR (fun t1 tok1 p1 v1 h1 => ?_)
      have h1 : RX P (.inr ((), adv L) : PRs Unit) (fun _ => True) t1 tok1 p1 v1 f := ⟨h1.1, h1.2.1, trivial⟩
      refine ⟨fun n0 => ?_, fun e0 => ?_⟩
      · rw [b0] at n0
        by_cases e6 : b = 6
        · have hp : pAct cn b (.inr ((), adv L) : PRs Unit) = bnd (.inr ((), adv L) : PRs Unit) fun y => .inr (((), 0, ([], []), ([], [])), y.2) := by
            unfold pAct
            rw [if_neg n0, if_neg (by omega), if_neg (by omega), if_pos e6]
          refine ⟨fun _ => fun _ => ⟨fun n3 => ⟨fun n5 => ⟨fun n4 => ?_, fun z => absurd (b4.mp z) (by omega)⟩, fun z => absurd (b5.mp z) (by omega)⟩, fun z => absurd (b3.mp z) (by omega)⟩, fun z => absurd (b6.mpr e6) z⟩
          refine fin (.inr ((), adv L) : PRs Unit) (fun _ => (0, ([], []), ([], []))) (fun _ => True) _ _ _ _ _ _ _ _ _ _ hp h1 (fun u L' e => ?_) (us _ _) (fun z _ => ⟨fun y => absurd y (by omega), ?_⟩) (fun j hj => ⟨un _ _ _ hj, rfl, un _ _ _ hj⟩)
          · have := c0 u L' e
            show CC (C a ++ ([] ++ [])) _ _ ∧ (C a ++ ([] ++ [])).length + _ ≤ B
            rw [List.append_nil, List.append_nil]
            exact this
          · rw [us]
            exact (hC _ _ rfl).1.1
        · refine ⟨fun z => absurd (b6.mp z) e6, fun _ => ?_⟩
          refine sq_expr hP hN hB h1 c0 (fun d2 t2 tok2 p2 v2 f2 code2 h2 c2 => ?_)
          have h2 := h2.and (W := fun u => d2 = nI ((C a).length + u.2.2.length)) (fun u L' e _ => by rw [(c2 u L' e).1.1, List.length_append])
          refine fun _ => ⟨fun n3 => ⟨fun n5 => ⟨fun n4 => ?_, fun e4 => ?_⟩, fun e5 => ?_⟩, fun e3 => ?_⟩
          · rw [b3] at n3
            rw [b4] at n4
            rw [b5] at n5
            have hp : pAct cn b (.inr ((), adv L) : PRs Unit) = bnd (tE (.inr ((), adv L) : PRs Unit) cn) fun y => .inr (((), 0, y.1.2, ([], [])), y.2) := by
              unfold pAct
              rw [if_neg n0, if_neg (by omega), if_neg n4, if_neg e6]
            refine fin _ (fun z => (0, z.2, ([], []))) _ _ _ _ _ _ _ _ _ _ _ hp h2 (fun u L' e => ?_) (us _ _) (fun z hz => ⟨fun y => absurd y (by omega), ?_⟩) (fun j hj => ⟨un _ _ _ hj, rfl, un _ _ _ hj⟩)
            · have := c2 u L' e
              show CC (C a ++ (u.2.2 ++ [])) _ _ ∧ (C a ++ (u.2.2 ++ [])).length + _ ≤ B
              rw [List.append_nil]
              exact this
            · rw [us]
              exact hz.2
          · rw [b4] at e4
            have hp : pAct cn b (.inr ((), adv L) : PRs Unit) = bnd (tO (tX (tE (.inr ((), adv L) : PRs Unit) cn) 18) cn) fun y => .inr (((), y.1.2, y.1.1.2, ([], [])), y.2) := by
              unfold pAct
              rw [if_neg n0, if_neg (by omega), if_pos e4]
            refine sq_expect (w := 18) hP h2 (fun t3 tok3 p3 v3 f3 h3 => ?_)
            refine sq_takeCell hP h3 hN (fun r4 t4 tok4 p4 v4 f4 h4 _ => ?_)
            have c4 := (c2.tXZ (w := 18)).tOZ (ns := cn)
            refine fin _ (fun z => (z.2, z.1.2, ([], []))) _ _ _ _ _ _ _ _ _ _ _ hp h4 (fun u L' e => ?_) (us _ _) (fun z hz => ⟨fun _ => ?_, ?_⟩) (fun j hj => ⟨un _ _ _ hj, un _ _ _ hj, un _ _ _ hj⟩)
            · have := c4 u L' e
              show CC (C a ++ (u.1.2.2 ++ [])) _ _ ∧ (C a ++ (u.1.2.2 ++ [])).length + _ ≤ B
              rw [List.append_nil]
              exact this
            · rw [us]
              exact hz.2.1
            · rw [us]
              exact hz.1.2
          · rw [b5] at e5
            have hp : pAct cn b (.inr ((), adv L) : PRs Unit) = bnd (tE (tX (tE (.inr ((), adv L) : PRs Unit) cn) 19) cn) fun y => .inr (((), 0, y.1.1.2, y.1.2), y.2) := by
              unfold pAct
              rw [if_neg n0, if_pos (Or.inr e5), if_neg (by omega)]
            refine sq_expect (w := 19) hP h2 (fun t3 tok3 p3 v3 f3 h3 => ?_)
            refine sq_expr hP hN hB h3 (c2.tXZ (w := 19)) (fun d4 t4 tok4 p4 v4 f4 code4 h4 c4 => ?_)
            refine fin _ (fun z => (0, z.1.2, z.2)) _ _ _ _ _ _ _ _ _ _ _ hp h4 (fun u L' e => ?_) (us _ _) (fun z hz => ⟨fun y => absurd y (by omega), ?_⟩) (fun j hj => ⟨un _ _ _ hj, rfl, un _ _ _ hj⟩)
            · have := c4 u L' e
              show CC (C a ++ (u.1.2.2 ++ u.2.2)) _ _ ∧ (C a ++ (u.1.2.2 ++ u.2.2)).length + _ ≤ B
              rw [← List.append_assoc]
              exact this
            · rw [us]
              exact hz.2
          · rw [b3] at e3
            have hp : pAct cn b (.inr ((), adv L) : PRs Unit) = bnd (tE (tX (tE (.inr ((), adv L) : PRs Unit) cn) 22) cn) fun y => .inr (((), 0, y.1.1.2, y.1.2), y.2) := by
              unfold pAct
              rw [if_neg n0, if_pos (Or.inl e3), if_pos e3]
            refine sq_expect (w := 22) hP h2 (fun t3 tok3 p3 v3 f3 h3 => ?_)
            refine sq_expr hP hN hB h3 (c2.tXZ (w := 22)) (fun d4 t4 tok4 p4 v4 f4 code4 h4 c4 => ?_)
            refine fin _ (fun z => (0, z.1.2, z.2)) _ _ _ _ _ _ _ _ _ _ _ hp h4 (fun u L' e => ?_) (us _ _) (fun z hz => ⟨fun y => absurd y (by omega), ?_⟩) (fun j hj => ⟨un _ _ _ hj, rfl, un _ _ _ hj⟩)
            · have := c4 u L' e
              show CC (C a ++ (u.1.2.2 ++ u.2.2)) _ _ ∧ (C a ++ (u.1.2.2 ++ u.2.2)).length + _ ≤ B
              rw [← List.append_assoc]
              exact this
            · rw [us]
              exact hz.2
      · rw [b0] at e0
        have hp : pAct cn b (.inr ((), adv L) : PRs Unit) = bnd (tE (tO (.inr ((), adv L) : PRs Unit) cn) cn) fun y => .inr (((), y.1.1.2, y.1.2, ([], [])), y.2) := by
          unfold pAct
          rw [if_pos e0]
        refine sq_takeCell hP h1 hN (fun r2 t2 tok2 p2 v2 f2 h2 _ => ?_)
        refine ⟨fun z => absurd (b6.mp z) (by omega), fun _ => ?_⟩
        refine sq_expr hP hN hB h2 c0.tOZ (fun d3 t3 tok3 p3 v3 f3 code3 h3 c3 => ?_)
        have h3 := h3.and (W := fun u => d3 = nI ((C a).length + u.2.2.length)) (fun u L' e _ => by rw [(c3 u L' e).1.1, List.length_append])
        refine fun _ => ⟨fun n3 => ⟨fun n5 => ⟨fun n4 => ?_, fun z => absurd (b4.mp z) (by omega)⟩, fun z => absurd (b5.mp z) (by omega)⟩, fun z => absurd (b3.mp z) (by omega)⟩
        refine fin _ (fun z => (z.1.2, z.2, ([], []))) _ _ _ _ _ _ _ _ _ _ _ hp h3 (fun u L' e => ?_) (us _ _) (fun z hz => ⟨fun _ => ?_, ?_⟩) (fun j hj => ⟨un _ _ _ hj, un _ _ _ hj, un _ _ _ hj⟩)
        · have := c3 u L' e
          show CC (C a ++ (u.2.2 ++ [])) _ _ ∧ (C a ++ (u.2.2 ++ [])).length + _ ≤ B
          rw [List.append_nil]
          exact this
        · rw [us]
          exact hz.1.2.1
        · rw [us]
          exact hz.2
    · have hq : tA (.inr (a, L)) cn = .inl (flt 1 L) := if_neg hb
      rw [hq] at hΦ
      rw [← hix] at hb
      rw [if_neg hb] at htk
      unfold wl_X3_tellAct
      refine fun _ => ⟨fun n1 => absurd htk n1, fun _ => ?_⟩
      exact bad0 (k := 1) (g := fun _ _ => .inl (flt 1 L)) (by decide) (by decide) hP hR (fun a L' e _ _ => by rw [(Prod.mk.inj (Sum.inr.inj e)).2]) (fun f' h' => hΦ _ _ _ _ _ _ _ _ _ _ h' (fun a L z => by cases z) (fun j _ => ⟨rfl, rfl, rfl⟩))
theorem sq_tellLine {g : PGr} {sn cnn : Nat → Int64} {ac sq tg fr mi en : Nat → Int32} {Φ : Int32 → Int32 → Nat → Int32 → Int64 → Int32 → (Nat → Int32) → Int32 → (Nat → Int32) → (Nat → Int32) → (Nat → Int32) → (Nat → Int32) → (Nat → Int32) → (Nat → Int32) → Prop} (hP : HP P tk pl vl) (hR : RX P (.inr ((), L) : PRs Unit) (fun _ => True) t tok p v f) (hs : NA (snm g) sn) (hs4 : (snm g).length ≤ 4) (hc : NA (cnm g) cnn) (hA : LA9 g.2.2.2 ac sq tg fr mi en) (h16 : g.2.2.2.length ≤ 16) (hC : CC (cds g) d code) (hlen : (cds g).length + L.length ≤ 1001) (hne : ¬ (hdt L).1 = 0) (hΦ : ∀ d' t' tok' p' v' f' code' ln' ac' sq' tg' fr' mi' en', RX P (pLine g L) (fun g' => g'.1 = g.1 ∧ g'.2.1 = g.2.1 ∧ g'.2.2.1 = g.2.2.1 ∧ ln' = nI g'.2.2.2.length ∧ g'.2.2.2.length ≤ 16 ∧ LA9 g'.2.2.2 ac' sq' tg' fr' mi' en') t' tok' p' v' f' → CX 1000 (pLine g L) cds d' code' → Φ d' t' tok' p' v' f' code' ln' ac' sq' tg' fr' mi' en') : wl_X3_tellLine sn cnn (nI P.length) tk pl vl (nI (snm g).length) (nI (cnm g).length) d t tok p v f code (nI g.2.2.2.length) ac sq tg fr mi en Φ := by
  unfold wl_X3_tellLine
  refine ⟨fun h4 => ?_, fun h4 => ?_⟩
  · rw [show (16 : Int32) = nI 16 from rfl, nI_ltI (a := g.2.2.2.length) (b := 16) (by omega) (by decide)] at h4
    have hp : pLine g L = bnd (tA (tO (.inr ((), adv L)) (snm g)) (cnm g)) fun y => .inr ((g.1, g.2.1, g.2.2.1, g.2.2.2 ++ [(y.1.2.1, y.1.1.2, y.1.2.2)]), y.2) := if_neg (by omega)
    rw [hp] at hΦ
    have hw := hR.2.1.wt hP
    have hl1 := hw.advZ.2.2 hne
    have hl1 : (adv L).length + 1 = L.length := hl1
    have c0 : CX 1000 (.inr ((), adv L) : PRs Unit) (fun _ => cds g) d code := fun u L' e => by
      have e := Prod.mk.inj (Sum.inr.inj e)
      rw [← e.2]
      exact ⟨hC, by (try dsimp only); omega⟩
    refine sq_adv hP hR (fun t1 tok1 p1 v1 h1 => ?_)
    refine sq_takeStuff (x := (.inr ((), adv L) : PRs Unit)) hP h1 hs hs4 (fun r2 t2 tok2 p2 v2 f2 h2 _ _ => ?_)
    refine sq_tellAct hP hc (by decide) h4 h2 c0.tOZ (fun d3 t3 tok3 p3 v3 f3 code3 ac3 tg3 mi3 h3 c3 hk _ => ?_)
    have h3 := h3.and (W := fun u => d3 = nI (cds g ++ (u.2.2.2.1.2 ++ u.2.2.2.2.2)).length) (fun u L' e _ => (c3 u L' e).1.1)
    rw [nI_clamp (n := g.2.2.2.length) (by omega), nI_1]
    refine hΦ _ _ _ _ _ _ _ _ _ _ _ _ _ _ (h3.map (fun a => (g.1, g.2.1, g.2.2.1, g.2.2.2 ++ [(a.2.1, a.1.2, a.2.2)])) (fun a hV => ?_)) (c3.map (fun a => (g.1, g.2.1, g.2.2.1, g.2.2.2 ++ [(a.2.1, a.1.2, a.2.2)])) (fun a => cdl_push _ _))
    obtain ⟨⟨⟨_, hr2, _⟩, hac, htg, hmi⟩, hd3⟩ := hV
    refine ⟨rfl, rfl, rfl, ?_, ?_, fun i y hi => ?_⟩
    · show _ = nI (g.2.2.2 ++ [_]).length
      rw [List.length_append]; rfl
    · show (g.2.2.2 ++ [_]).length ≤ 16
      rw [List.length_append]; exact h4
    · show LR9 (cdl (g.2.2.2 ++ [_])) y _ _ _ _ _ _
      rw [cdl_push]
      rcases app_get hi with h9 | ⟨e, e2⟩
      · have := get_lt h9
        have hi9 : i ≠ g.2.2.2.length := by omega
        rw [(hk i hi9).1, (hk i hi9).2.1, (hk i hi9).2.2, pk_un hi9, pk_un hi9, pk_un hi9]
        exact (hA i y h9).app
      · subst e
        rw [e2, pk_us, pk_us, pk_us]
        refine ⟨hac, hr2, htg, (cds g).length, hC.1, hmi, ?_, fun j c hj => ?_⟩
        · rw [hd3, List.length_append]
        · rw [List.getElem?_append_right (show (cdl g.2.2.2).length ≤ (cds g).length + j from Nat.le_add_right _ _), show (cds g).length + j - (cdl g.2.2.2).length = j from Nat.add_sub_cancel_left _ _]
          exact hj
  · rw [show (16 : Int32) = nI 16 from rfl, nI_ltI (a := g.2.2.2.length) (b := 16) (by omega) (by decide)] at h4
    have hp : pLine g L = .inl (flt 5 L) := if_pos (by omega)
    rw [hp] at hΦ
    exact bad0 (k := 5) (g := fun _ _ => .inl (flt 5 L)) (by decide) (by decide) hP hR (fun a L' e _ _ => by rw [(Prod.mk.inj (Sum.inr.inj e)).2]) (fun f' h' => hΦ _ _ _ _ _ _ _ _ _ _ _ _ _ _ h' (fun a L z => by cases z))
end TA9
