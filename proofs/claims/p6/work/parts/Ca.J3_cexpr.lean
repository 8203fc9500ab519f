theorem lpos {α : Type} {l : List α} (h : l ≠ []) : 1 ≤ l.length := List.length_pos_iff.mpr h
/-- the class's row of codes holds C -/
def CC (C : List Nat) (d : Int32) (code : Nat → Int32) : Prop := d = nI C.length ∧ ∀ i c, C[i]? = some c → code i = nI c
def CX {α : Type} (B : Nat) (x : PRs α) (C : α → List Nat) (d : Int32) (code : Nat → Int32) : Prop := ∀ a L, x = .inr (a, L) → CC (C a) d code ∧ (C a).length + L.length ≤ B
theorem CC.push {C : List Nat} {d : Int32} {code : Nat → Int32} {c : Nat} (h : CC C d code) (hn : C.length < 1000) : CC (C ++ [c]) (d + 1) (upd code d.toNatClampNeg (nI c)) := by
  obtain ⟨rfl, h⟩ := h
  rw [nI_1, nI_clamp (n := C.length) (by omega)]
  refine ⟨by rw [List.length_append]; rfl, fun i x hi => ?_⟩
  by_cases e : i = C.length
  · subst e
    rw [List.getElem?_append_right (Nat.le_refl _), Nat.sub_self] at hi
    rw [pk_us]
    exact congrArg nI (Option.some.inj hi)
  · rw [pk_un e]
    by_cases hlt : i < C.length
    · rw [List.getElem?_append_left hlt] at hi
      exact h i x hi
    · rw [List.getElem?_append_right (by omega), show i - C.length = (i - C.length - 1) + 1 by omega] at hi
      simp at hi
section PX9
variable {α : Type} {P : List Tok} {x : PRs α} {V : α → Prop} {t p f : Int32} {tok : Nat} {v : Int64} {tk : Nat → Nat} {pl : Nat → Int32} {vl : Nat → Int64} {d : Int32} {code : Nat → Int32} {C : α → List Nat}
theorem put_any {o a : Int32} {Φ : Int32 → (Nat → Int32) → Prop} (h : ∀ d' code', Φ d' code') : wl_X3_put o a d code Φ := ⟨fun _ => h _ _, fun _ _ => h _ _⟩
theorem sq_put {K : List Nat} {o a : Int32} {c : Nat} {Φ : Int32 → (Nat → Int32) → Prop} (h : CC K d code) (hn : K.length < 1000) (hc : o + 16 * a = nI c) (hΦ : ∀ d' code', CC (K ++ [c]) d' code' → Φ d' code') : wl_X3_put o a d code Φ := by
  unfold wl_X3_put
  rw [hc]
  refine ⟨fun z => ?_, fun _ _ => hΦ _ _ (h.push hn)⟩
  rw [h.1] at z
  exact absurd z (nI_ge (b := 1000) hn (by decide))
theorem begins_any {Φ : Int32 → Prop} {tok : Nat} (h : ∀ r, Φ r) : wl_X3_beginsPart tok Φ := fun _ => ⟨fun _ => h _, fun _ _ => ⟨fun _ => h _, fun _ _ => ⟨fun _ => h _, fun _ _ => ⟨fun _ => h _, fun _ _ => ⟨fun _ => h _, fun _ => h _⟩⟩⟩⟩⟩
theorem sq_begins {Φ : Int32 → Prop} {tok : Nat} (h1 : tok = 3 ∨ tok = 2 ∨ tok = 4 ∨ tok = 27 ∨ tok = 28 → Φ 1) (h0 : ¬ (tok = 3 ∨ tok = 2 ∨ tok = 4 ∨ tok = 27 ∨ tok = 28) → Φ 0) : wl_X3_beginsPart tok Φ := fun _ => ⟨fun _ => h1 (by omega), fun _ _ => ⟨fun _ => h1 (by omega), fun _ _ => ⟨fun _ => h1 (by omega), fun _ _ => ⟨fun _ => h1 (by omega), fun _ _ => ⟨fun _ => h0 (by omega), fun _ => h1 (by omega)⟩⟩⟩⟩⟩
theorem lv_31 : ∀ i : Fin 31, tkL i.val = nI (lvT.getD i.val 4) ∧ lvT.getD i.val 4 ≤ 4 ∧ (lvT.getD i.val 4 < 4 → tkO i.val + 16 * 0 = nI (poT.getD i.val 0)) := by decide
theorem lvl_tk (k : Tok) : tkL (ix k) = nI (lvl k) ∧ lvl k ≤ 4 ∧ (lvl k < 4 → tkO (ix k) + 16 * 0 = nI (pof k)) := lv_31 ⟨ix k, ix_lt k⟩
theorem lvl_ne {k : Tok} (h : lvl k < 4) : ¬ k.1 = 0 := by
  intro e
  have e2 : ix k = 0 := ix_0.mpr e
  unfold lvl at h
  rw [e2] at h
  exact absurd h (by (try dsimp only); decide)
abbrev PX3 : Type := Int32 → Int32 → Nat → Int32 → Int64 → Int32 → (Nat → Int32) → Prop
/-- what reading g leaves -/
def EO {α : Type} (B : Nat) (P : List Tok) (x : PRs α) (V : α → Prop) (C : α → List Nat) (g : List Tok → PRs EC) (Φ : PX3) : Prop := ∀ d' t' tok' p' v' f' code', RX P (sq1 x fun _ => g) (fun ab => V ab.1) t' tok' p' v' f' → CX B (sq1 x fun _ => g) (fun ab => C ab.1 ++ ab.2.2) d' code' → Φ d' t' tok' p' v' f' code'
/-- the class's reading of g does what g does -/
def ES (P : List Tok) (tk : Nat → Nat) (pl : Nat → Int32) (vl : Nat → Int64) (g : List Tok → PRs EC) (W : Int32 → Int32 → Nat → Int32 → Int64 → Int32 → (Nat → Int32) → PX3 → Prop) : Prop := ∀ {α : Type} (B : Nat) (x : PRs α) (V : α → Prop) (C : α → List Nat) (d t : Int32) (tok : Nat) (p : Int32) (v : Int64) (f : Int32) (code : Nat → Int32) (Φ : PX3), B ≤ 1000 → RX P x V t tok p v f → CX B x C d code → EO B P x V C g Φ → W d t tok p v f code Φ
end PX9
section EP9
variable {P : List Tok} {tk : Nat → Nat} {pl : Nat → Int32} {vl : Nat → Int64} {cn : List (List Nat)} {an : Nat → Int64}
/-- what a loop of joined operands comes to -/
def fin9 {α : Type} (g : List Tok → PRs EC) (lv m : Nat) (y : PRs (α × EC)) : PRs (α × EC) := bnd y fun z => bnd (pLp g lv m (z.1.2, z.2)) fun s => .inr ((z.1.1, s.1), s.2)
theorem sq_loop {α : Type} {g : List Tok → PRs EC} {lv M B : Nat} {ne ce : Int32} {rx : Int32 → Int32 → Int32 → Int32 → Nat → Int32 → Int64 → Int32 → (Nat → Int32) → PX3 → Prop} {rp : Int32 → Int32 → Int32 → Nat → Int32 → Int64 → Int32 → (Nat → Int32) → PX3 → Prop} (hP : HP P tk pl vl) (hlv : lv < 4) (hM : M ≤ 1000) (hB : B ≤ 1000) (hg : ES P tk pl vl g (rx (nI (lv + 1)) ne)) {V : α → Prop} {C : α → List Nat} {Φ : PX3} : ∀ (n m : Nat) (y : PRs (α × EC)) (d t : Int32) (tok : Nat) (p : Int32) (v : Int64) (f : Int32) (code : Nat → Int32), m ≤ M → RX P y (fun ab => V ab.1) t tok p v f → CX B y (fun ab => C ab.1 ++ ab.2.2) d code → (∀ d' t' tok' p' v' f' code', RX P (fin9 g lv m y) (fun ab => V ab.1) t' tok' p' v' f' → CX B (fin9 g lv m y) (fun ab => C ab.1 ++ ab.2.2) d' code' → Φ d' t' tok' p' v' f' code') → ll_X3_expression_35 an (nI P.length) tk pl vl ce rx rp (nI lv) ne Φ n d t tok p v f code (nI M) (nI (M - m)) := by
  intro n
  induction n with
  | zero => intros; trivial
  | succ n ih =>
    intro m y d t tok p v f code hm hR hC hΦ
    cases y with
    | inl e => exact ⟨fun _ => hΦ _ _ _ _ _ _ _ hR (fun a L z => by cases z), fun _ => ⟨fun _ => hΦ _ _ _ _ _ _ _ hR (fun a L z => by cases z), fun z => absurd z hR.ne⟩⟩
    | inr y =>
      obtain ⟨⟨a, ec⟩, L⟩ := y
      obtain ⟨hf, hA, hV⟩ := id hR
      have hA : AT9 P L t tok p v := hA
      have hw := hA.wt hP
      obtain ⟨hc1, hc2⟩ : CC (C a ++ ec.2) d code ∧ (C a ++ ec.2).length + L.length ≤ B := hC _ _ rfl
      obtain ⟨k1, k2, k3⟩ := lvl_tk (hdt L)
      have hix : tok = ix (hdt L) := hA.ixZ
      rw [← hix] at k1 k3
      refine ⟨fun z => ?_, fun z => ⟨fun q => absurd hf q, fun _ _ => ⟨fun q => ?_, fun q _ => ?_⟩⟩⟩
      · rw [nI_leI (by omega) (by omega)] at z
        have m0 : m = 0 := by omega
        subst m0
        exact hΦ _ _ _ _ _ _ _ hR hC
      · rw [nI_leI (by omega) (by omega)] at z
        rw [k1] at q
        have hl : ¬ lvl (hdt L) = lv := fun e => q (by rw [e])
        have e9 : fin9 g lv m (.inr ((a, ec), L)) = .inr ((a, ec), L) := by
          unfold fin9
          rw [bnd_r]
          cases m with
          | zero => rfl
          | succ m =>
            have : pLp g lv (m + 1) (ec, L) = .inr (ec, L) := if_neg hl
            show bnd (pLp g lv (m + 1) (ec, L)) _ = _
            rw [this]
            rfl
        rw [e9] at hΦ
        exact hΦ _ _ _ _ _ _ _ hR hC
      · rw [nI_leI (by omega) (by omega)] at z
        rw [k1] at q
        have hl : lvl (hdt L) = lv := (nI_eq (by omega) (by omega)).mp q
        have hne : ¬ (hdt L).1 = 0 := lvl_ne (by omega)
        have hlen := hw.advZ.2.2 hne
        have ho := k3 (by omega)
        refine sq_adv hP hR (fun t1 tok1 p1 v1 h1 => ?_)
        have h1 : RX P (.inr ((a, ec), adv L) : PRs (α × EC)) (fun ab => V ab.1) t1 tok1 p1 v1 f := h1
        rw [nI_1]
        refine hg (B - 1) (.inr ((a, ec), adv L)) (fun ab => V ab.1) (fun ab => C ab.1 ++ ab.2.2) _ _ _ _ _ _ _ _ (by omega) h1 (fun a' L' e => ?_) (fun d2 t2 tok2 p2 v2 f2 code2 h2 c2 => ?_)
        · have e := Prod.mk.inj (Sum.inr.inj e)
          rw [← e.1, ← e.2]
          exact ⟨hc1, by show (C a ++ ec.2).length + (adv L).length ≤ B - 1; omega⟩
        · have em : m = (m - 1) + 1 := by omega
          have eM : nI (M - m) + 1 = nI (M - (m - 1)) := by rw [nI_1]; exact congrArg nI (by omega)
          rw [eM]
          have ef : fin9 g lv m (.inr ((a, ec), L)) = fin9 g lv (m - 1) (bnd (g (adv L)) fun s => .inr ((a, (ec.1 ++ inf (hdt L) :: s.1.1, ec.2 ++ s.1.2 ++ [pof (hdt L)])), s.2)) := by
            conv => lhs; rw [em]
            unfold fin9
            rw [bnd_r]
            have : pLp g lv (m - 1 + 1) (ec, L) = bnd (g (adv L)) fun s => pLp g lv (m - 1) ((ec.1 ++ inf (hdt L) :: s.1.1, ec.2 ++ s.1.2 ++ [pof (hdt L)]), s.2) := if_pos hl
            show bnd (pLp g lv (m - 1 + 1) (ec, L)) _ = _
            rw [this]
            cases g (adv L) with
            | inl e => rfl
            | inr s => rfl
          rw [ef] at hΦ
          rw [sq1_r] at h2 c2
          cases hg2 : g (adv L) with
          | inl e =>
            rw [hg2] at h2 hΦ
            exact put_any (fun d3 code3 => ih (m - 1) (.inl e) _ _ _ _ _ _ _ (by omega) h2 (fun a L z => by cases z) hΦ)
          | inr s =>
            rw [hg2] at h2 c2 hΦ
            obtain ⟨g1, g2⟩ : CC ((C a ++ ec.2) ++ s.1.2) d2 code2 ∧ ((C a ++ ec.2) ++ s.1.2).length + s.2.length ≤ B - 1 := c2 _ _ rfl
            have hs1 : (s.2).length ≥ 1 := by
              have := (h2.2.1.wt hP).ne
              exact lpos this
            refine sq_put g1 (by omega) ho (fun d3 code3 c3 => ih (m - 1) _ _ _ _ _ _ _ (by omega) (y := .inr ((a, (ec.1 ++ inf (hdt L) :: s.1.1, ec.2 ++ s.1.2 ++ [pof (hdt L)])), s.2)) h2 (fun a' L' e => ?_) hΦ)
            have e := Prod.mk.inj (Sum.inr.inj e)
            rw [← e.1, ← e.2]
            have ea : C a ++ (ec.2 ++ s.1.2 ++ [pof (hdt L)]) = (C a ++ ec.2) ++ s.1.2 ++ [pof (hdt L)] := by rw [← List.append_assoc, ← List.append_assoc]
            show CC (C a ++ (ec.2 ++ s.1.2 ++ [pof (hdt L)])) d3 code3 ∧ (C a ++ (ec.2 ++ s.1.2 ++ [pof (hdt L)])).length + s.2.length ≤ B
            rw [ea]
            refine ⟨c3, ?_⟩
            rw [List.length_append]
            show _ + 1 + _ ≤ B
            omega
theorem fin9_sq {α : Type} {g : List Tok → PRs EC} {lv m : Nat} {x : PRs α} : fin9 g lv m (sq1 x fun _ => g) = sq1 x fun _ L => bnd (g L) (pLp g lv m) := by
  cases x with
  | inl e => rfl
  | inr y =>
    obtain ⟨a, L⟩ := y
    rw [sq1_r, sq1_r]
    cases g L with
    | inl e => rfl
    | inr s =>
      show fin9 g lv m (.inr ((a, s.1), s.2)) = bnd (pLp g lv m s) _
      unfold fin9
      rw [bnd_r]
/-- part, where there is no fault yet -/
theorem sq_part {gE gP : List Tok → PRs EC} {ne : Nat} {rx : Int32 → Int32 → Int32 → Int32 → Nat → Int32 → Int64 → Int32 → (Nat → Int32) → PX3 → Prop} {rp : Int32 → Int32 → Int32 → Nat → Int32 → Int64 → Int32 → (Nat → Int32) → PX3 → Prop} (hP : HP P tk pl vl) (hN : NA cn an) (hne : ne ≤ 1000) (hgE : ES P tk pl vl gE (rx 0 (nI (ne + 1)))) (hgP : ES P tk pl vl gP (rp (nI (ne + 1)))) : ES P tk pl vl (pPa cn gE gP ne) (wl_X3_part an (nI P.length) tk pl vl (nI cn.length) rx rp (nI ne)) := by
  intro α B x V C d t tok p v f code Φ hB hR hC hΦ
  unfold wl_X3_part
  refine fun _ => ?_
  cases x with
  | inl e =>
    have h57 : ∀ l3, kl_X3_part_57 an (nI P.length) tk pl vl (nI cn.length) rx rp (nI ne) Φ d t tok p v f code tok l3 := fun l3 => ⟨fun z => absurd z hR.ne, fun _ => hΦ _ _ _ _ _ _ _ hR (fun a L z => by cases z)⟩
    have h31 : ∀ l3, kl_X3_part_31 an (nI P.length) tk pl vl (nI cn.length) rx rp (nI ne) Φ d t tok p v f code tok l3 := fun l3 => begins_any (fun r => ⟨fun _ => ⟨fun _ => h57 l3, fun _ => fail_n hR.ne (h57 l3)⟩, fun _ => fail_n hR.ne (h57 l3)⟩)
    exact ⟨fun _ => h31 0, fun _ => sq_told hP hR hN hN.1 (by decide) (fun r f' h' => by
      have e : f' = f := h'.1.trans hR.1.symm
      rw [e]
      exact h31 r)⟩
  | inr y =>
    obtain ⟨a, L⟩ := y
    obtain ⟨hf, hA, hV⟩ := id hR
    have hA : AT9 P L t tok p v := hA
    have hw := hA.wt hP
    have hL1 : L.length ≥ 1 := lpos hw.ne
    obtain ⟨hc1, hc2⟩ := hC _ _ rfl
    have hix : tok = ix (hdt L) := hA.ixZ
    subst hf
    have hflt : ∀ k : Nat, k < 16 → nI k + 16 * p = nI (flt k L) ∧ flt k L < 100000 := fun k hk => ⟨hA.fltZ k, flt_lt hP hA hk⟩
    -- a fault here
    have bad : ∀ k : Nat, 0 < k → k < 16 → pPa cn gE gP ne L = .inl (flt k L) → ∀ l3, kl_X3_part_57 an (nI P.length) tk pl vl (nI cn.length) rx rp (nI ne) Φ d t tok p v (nI (flt k L)) code tok l3 := by
      intro k h0 h16 hg l3
      have hn : ¬ nI (flt k L) = 0 := nI_ne0 (by unfold flt; omega) (by have := flt_lt hP hA h16; omega)
      refine ⟨fun z => absurd z hn, fun _ => hΦ _ _ _ _ _ _ _ ?_ ?_⟩
      · rw [sq1_r, hg]
        exact ⟨rfl, by unfold flt; omega, flt_lt hP hA h16⟩
      · rw [sq1_r, hg]
        exact fun a L z => by cases z
    have badF : ∀ k : Nat, 0 < k → k < 16 → pPa cn gE gP ne L = .inl (flt k L) → ∀ l3, wl_X3_fail p (nI k) 0 (fun f' => kl_X3_part_57 an (nI P.length) tk pl vl (nI cn.length) rx rp (nI ne) Φ d t tok p v f' code tok l3) := fun k h0 h16 hg l3 => fail_0 (by rw [hA.fltZ]; exact bad k h0 h16 hg l3)
    -- a value
    have val : ∀ (i : List Nat) (c : Nat) (t1 : Int32) (tok1 : Nat) (p1 : Int32) (v1 : Int64) (o b : Int32), ¬ (hdt L).1 = 0 → pPa cn gE gP ne L = .inr ((i, [c]), adv L) → o + 16 * b = nI c → RX P (.inr (a, adv L) : PRs α) V t1 tok1 p1 v1 0 → wl_X3_put o b d code (fun d' code' => Φ d' t1 tok1 p1 v1 0 code') := by
      intro i c t1 tok1 p1 v1 o b h0 hg ho h1
      have hlen := hw.advZ.2.2 h0
      refine sq_put hc1 (by omega) ho (fun d' code' c' => hΦ _ _ _ _ _ _ _ ?_ ?_)
      · rw [sq1_r, hg]
        exact h1
      · rw [sq1_r, hg]
        intro a' L' e
        have e := Prod.mk.inj (Sum.inr.inj e)
        rw [← e.1, ← e.2]
        refine ⟨c', ?_⟩
        show (C a ++ [c]).length + (adv L).length ≤ B
        rw [List.length_append]
        show _ + 1 + _ ≤ B
        omega
    have hk1 : ∀ j : Nat, 0 < j → ix (hdt L) = j → ¬ (hdt L).1 = 0 := fun j hj e z => by rw [ix_0.mpr z] at e; omega
    refine ⟨fun n3 => ?_, fun e3 => ?_⟩
    · rw [hix] at n3
      refine sq_begins (fun h => ⟨fun _ => ⟨fun h5 => ?_, fun h5 => ?_⟩, fun z => absurd z (by (try dsimp only); decide)⟩) (fun h => ⟨fun z => absurd rfl z, fun _ => ?_⟩)
      · rw [show (5 : Int32) = nI 5 from rfl, nI_ltI (a := ne) (b := 5) (by omega) (by decide)] at h5
        rw [hix] at h
        have h4 : ix (hdt L) = 2 ∨ ix (hdt L) = 4 ∨ ix (hdt L) = 27 ∨ ix (hdt L) = 28 := by omega
        refine ⟨fun _ => ?_, fun z => absurd rfl z⟩
        refine sq_adv hP hR (fun t1 tok1 p1 v1 h1 => ?_)
        have h1 : RX P (.inr (a, adv L) : PRs α) V t1 tok1 p1 v1 0 := h1
        have hne0 : ¬ (hdt L).1 = 0 := by
          rcases h4 with e | e | e | e
          · exact hk1 2 (by decide) e
          · exact hk1 4 (by decide) e
          · exact hk1 27 (by decide) e
          · exact hk1 28 (by decide) e
        have hlen := hw.advZ.2.2 hne0
        have cadv : CX (B - 1) (.inr (a, adv L) : PRs α) C d code := fun a' L' e => by
          have e := Prod.mk.inj (Sum.inr.inj e)
          rw [← e.1, ← e.2]
          exact ⟨hc1, by omega⟩
        rw [nI_1]
        refine fun _ => ⟨fun n2 _ => ⟨fun _ _ => ⟨fun n4 => ?_, fun e4 => ?_⟩, fun z => absurd (hix.symm.trans z) n3⟩, fun e2 => ?_⟩
        · rw [hix] at n2 n4
          refine hgP (B - 1) _ V C _ _ _ _ _ _ _ _ (by omega) h1 cadv (fun d2 t2 tok2 p2 v2 f2 code2 h2 c2 => ?_)
          rw [sq1_r] at h2 c2
          have hg : pPa cn gE gP ne L = bnd (gP (adv L)) fun s => .inr (((if ix (hdt L) = 27 then 31 else 30) :: s.1.1, s.1.2 ++ [if ix (hdt L) = 27 then 2 else 3]), s.2) := by
            unfold pPa
            rw [if_neg n3, if_pos h4, if_neg (by omega), if_neg n2, if_neg n4]
          cases hq : gP (adv L) with
          | inl e =>
            rw [hq] at h2 hg
            have out : ∀ d3 code3, Φ d3 t2 tok2 p2 v2 f2 code3 := fun d3 code3 => hΦ _ _ _ _ _ _ _ (by rw [sq1_r, hg]; exact h2) (by rw [sq1_r, hg]; exact fun a L z => by cases z)
            exact fun _ => ⟨fun _ => put_any out, fun _ => put_any out⟩
          | inr s =>
            rw [hq] at h2 c2 hg
            obtain ⟨g1, g2⟩ : CC (C a ++ s.1.2) d2 code2 ∧ (C a ++ s.1.2).length + s.2.length ≤ B - 1 := c2 _ _ rfl
            have hs1 : (s.2).length ≥ 1 := lpos (h2.2.1.wt hP).ne
            have g2 : (C a ++ s.1.2).length + s.2.length ≤ B - 1 := g2
            have fin : ∀ c d3 code3, pPa cn gE gP ne L = .inr (((if ix (hdt L) = 27 then 31 else 30) :: s.1.1, s.1.2 ++ [c]), s.2) → CC (C a ++ s.1.2 ++ [c]) d3 code3 → Φ d3 t2 tok2 p2 v2 f2 code3 := by
              intro c d3 code3 hg c3
              refine hΦ _ _ _ _ _ _ _ (by rw [sq1_r, hg]; exact h2) ?_
              rw [sq1_r, hg]
              intro a' L' e
              have e := Prod.mk.inj (Sum.inr.inj e)
              rw [← e.1, ← e.2]
              show CC (C a ++ (s.1.2 ++ [c])) d3 code3 ∧ (C a ++ (s.1.2 ++ [c])).length + s.2.length ≤ B
              rw [← List.append_assoc]
              refine ⟨c3, ?_⟩
              rw [List.length_append]
              show _ + 1 + _ ≤ B
              omega
            refine fun _ => ⟨fun n27 => sq_put g1 (by omega) (c := 3) (by decide) (fun d3 code3 c3 => fin 3 d3 code3 ?_ c3), fun e27 => sq_put g1 (by omega) (c := 2) (by decide) (fun d3 code3 c3 => fin 2 d3 code3 ?_ c3)⟩
            · rw [hix] at n27
              rw [hg, bnd_r, if_neg n27, if_neg n27]
            · rw [hix] at e27
              rw [hg, bnd_r, if_pos e27, if_pos e27]
        · rw [hix] at n2 e4
          refine hgE (B - 1) _ V C _ _ _ _ _ _ _ _ (by omega) h1 cadv (fun d2 t2 tok2 p2 v2 f2 code2 h2 c2 => ?_)
          rw [sq1_r] at h2 c2
          have hg : pPa cn gE gP ne L = bnd (gE (adv L)) fun s => (if ix (hdt s.2) = 5 then .inr ((28 :: (s.1.1 ++ [29]), s.1.2), adv s.2) else .inl (flt 1 s.2)) := by
            unfold pPa
            rw [if_neg n3, if_pos h4, if_neg (by omega), if_neg n2, if_pos e4]
          refine sq_expect (w := 5) hP h2 (fun t3 tok3 p3 v3 f3 h3 => hΦ _ _ _ _ _ _ _ ?_ ?_)
          · rw [sq1_r, hg]
            cases hq : gE (adv L) with
            | inl e => rw [hq] at h3; exact h3
            | inr s =>
              rw [hq] at h3
              by_cases e5 : ix (hdt s.2) = 5
              · have : pSay 5 s.2 = .inr s.2 := if_pos e5
                have h3 : RX P (bnd (bnd (pSay 5 s.2) fun L => .inr ((a, s.1), L)) fun y => bnd (pAdv y.2) fun L => .inr (y.1, L) : PRs (α × EC)) (fun ab => V ab.1) t3 tok3 p3 v3 f3 := h3
                rw [this] at h3
                rw [bnd_r, if_pos e5]
                exact h3
              · have : pSay 5 s.2 = .inl (flt 1 s.2) := if_neg e5
                have h3 : RX P (bnd (bnd (pSay 5 s.2) fun L => .inr ((a, s.1), L)) fun y => bnd (pAdv y.2) fun L => .inr (y.1, L) : PRs (α × EC)) (fun ab => V ab.1) t3 tok3 p3 v3 f3 := h3
                rw [this] at h3
                rw [bnd_r, if_neg e5]
                exact h3
          · rw [sq1_r, hg]
            cases hq : gE (adv L) with
            | inl e => exact fun a L z => by cases z
            | inr s =>
              rw [hq] at c2 h2
              obtain ⟨g1, g2⟩ := c2 _ _ rfl
              have g2 : (C a ++ s.1.2).length + s.2.length ≤ B - 1 := g2
              rw [bnd_r]
              by_cases e5 : ix (hdt s.2) = 5
              · rw [if_pos e5]
                have hl5 := (h2.2.1.wt hP).advZ.2.2 (fun z => by have := ix_0.mpr z; have e5 : ix (hdt s.2) = 5 := e5; have this : ix (hdt s.2) = 0 := this; omega)
                have hl5 : (adv s.2).length + 1 = s.2.length := hl5
                intro a' L' e
                have e := Prod.mk.inj (Sum.inr.inj e)
                rw [← e.1, ← e.2]
                exact ⟨g1, by show (C a ++ s.1.2).length + (adv s.2).length ≤ B; omega⟩
              · rw [if_neg e5]
                exact fun a L z => by cases z
        · have e2' : ix (hdt L) = 2 := hix.symm.trans e2
          obtain ⟨_, q2, q3⟩ := hA.n hP e2
          refine val [100 + num (hdt L)] (16 * num (hdt L)) _ _ _ _ _ _ hne0 ?_ ?_ h1
          · unfold pPa
            rw [if_neg n3, if_pos h4, if_neg (by omega), if_pos e2']
          · rw [q2, lN_i, show (16 : Int32) = nI 16 from rfl, show (0 : Int32) = nI 0 from rfl, pk_mul, nI_add]
            exact congrArg nI (by omega)
      · rw [show (5 : Int32) = nI 5 from rfl, nI_ltI (a := ne) (b := 5) (by omega) (by decide)] at h5
        rw [hix] at h
        have h4 : ix (hdt L) = 2 ∨ ix (hdt L) = 4 ∨ ix (hdt L) = 27 ∨ ix (hdt L) = 28 := by omega
        refine badF 5 (by decide) (by decide) ?_ 0
        unfold pPa
        rw [if_neg n3, if_pos h4, if_pos (by omega)]
      · rw [hix] at h
        refine badF 1 (by decide) (by decide) ?_ 0
        unfold pPa
        rw [if_neg n3, if_neg (by omega)]
    · have e3' : ix (hdt L) = 3 := hix.symm.trans e3
      refine sq_told hP hR hN hN.1 (by decide) (fun r f' h' => ?_)
      rw [sq1_r] at h'
      cases hq : pTold cn L with
      | inl e =>
        rw [hq] at h'
        have hg : pPa cn gE gP ne L = .inl e := by
          unfold pPa
          rw [if_pos e3', hq]
          rfl
        have hn : ¬ f' = 0 := by
          rw [h'.1]
          exact nI_ne0 h'.2.1 (by have := h'.2.2; omega)
        have h57 : ∀ l3, kl_X3_part_57 an (nI P.length) tk pl vl (nI cn.length) rx rp (nI ne) Φ d t tok p v f' code tok l3 := fun l3 => ⟨fun z => absurd z hn, fun _ => hΦ _ _ _ _ _ _ _ (by rw [sq1_r, hg]; exact h') (by rw [sq1_r, hg]; exact fun a L z => by cases z)⟩
        exact begins_any (fun r => ⟨fun _ => ⟨fun _ => h57 _, fun _ => fail_n hn (h57 _)⟩, fun _ => fail_n hn (h57 _)⟩)
      | inr c =>
        rw [hq] at h'
        obtain ⟨hf', _, _, hr, _⟩ := h'
        have hr : r = nI c.1 := hr
        subst hf'
        refine sq_begins (fun _ => ⟨fun _ => ⟨fun h5 => ?_, fun h5 => ?_⟩, fun z => absurd z (by (try dsimp only); decide)⟩) (fun h => absurd (Or.inl e3) h)
        · rw [show (5 : Int32) = nI 5 from rfl, nI_ltI (a := ne) (b := 5) (by omega) (by decide)] at h5
          refine ⟨fun _ => sq_adv hP hR (fun t1 tok1 p1 v1 h1 => ?_), fun z => absurd rfl z⟩
          refine fun _ => ⟨fun n2 _ => ⟨fun n3 => absurd e3 n3, fun _ => ?_⟩, fun z => absurd (e3.symm.trans z) (by decide)⟩
          refine val [1 + c.1] (1 + 16 * c.1) _ _ _ _ _ _ (hk1 3 (by decide) e3') ?_ ?_ h1
          · unfold pPa
            rw [if_pos e3', hq, bnd_r, if_neg (by omega)]
          · rw [hr, show (16 : Int32) = nI 16 from rfl, show (1 : Int32) = nI 1 from rfl, pk_mul, nI_add]
        · rw [show (5 : Int32) = nI 5 from rfl, nI_ltI (a := ne) (b := 5) (by omega) (by decide)] at h5
          refine badF 5 (by decide) (by decide) ?_ r
          unfold pPa
          rw [if_pos e3', hq, bnd_r, if_pos (by omega)]
theorem sq_ep (hP : HP P tk pl vl) (hN : NA cn an) : ∀ n : Nat, (∀ lv ne : Nat, lv ≤ 4 → ne + n ≤ 50 → ES P tk pl vl ((pEP cn n).1 lv ne) ((el_X3_expression an (nI P.length) tk pl vl (nI cn.length) n).1 (nI lv) (nI ne))) ∧ (∀ ne : Nat, ne + n ≤ 50 → ES P tk pl vl ((pEP cn n).2 ne) ((el_X3_expression an (nI P.length) tk pl vl (nI cn.length) n).2 (nI ne))) := by
  intro n
  induction n with
  | zero => exact ⟨fun _ _ _ _ => fun _ _ _ _ _ _ _ _ _ _ _ _ _ _ _ _ => trivial, fun _ _ => fun _ _ _ _ _ _ _ _ _ _ _ _ _ _ _ _ => trivial⟩
  | succ n ih =>
    refine ⟨fun lv ne hlv hne => ?_, fun ne hne => sq_part hP hN (by omega) (ih.1 0 (ne + 1) (by decide) (by omega)) (ih.2 (ne + 1) (by omega))⟩
    intro α B x V C d t tok p v f code Φ hB hR hC hΦ
    show wl_X3_expression an (nI P.length) tk pl vl (nI cn.length) (el_X3_expression an (nI P.length) tk pl vl (nI cn.length) n).1 (el_X3_expression an (nI P.length) tk pl vl (nI cn.length) n).2 (nI lv) (nI ne) d t tok p v f code Φ
    refine ⟨fun h4 => ?_, fun h4 => ?_⟩
    · rw [show (4 : Int32) = nI 4 from rfl, nI_ltI (a := lv) (b := 4) (by omega) (by decide)] at h4
      have hg : (pEP cn (n + 1)).1 lv ne = fun L => bnd ((pEP cn n).1 (lv + 1) ne L) (pLp ((pEP cn n).1 (lv + 1) ne) lv (if lv = 1 then 1 else 1000)) := by
        funext L
        exact if_pos h4
      rw [hg] at hΦ
      have hi : ES P tk pl vl ((pEP cn n).1 (lv + 1) ne) ((el_X3_expression an (nI P.length) tk pl vl (nI cn.length) n).1 (nI (lv + 1)) (nI ne)) := ih.1 (lv + 1) ne (by omega) (by omega)
      have go : ∀ (M : Nat) (d' t' : Int32) (tok' : Nat) (p' : Int32) (v' : Int64) (f' : Int32) (code' : Nat → Int32), (if lv = 1 then 1 else 1000) = M → RX P (sq1 x fun _ => (pEP cn n).1 (lv + 1) ne) (fun ab => V ab.1) t' tok' p' v' f' → CX B (sq1 x fun _ => (pEP cn n).1 (lv + 1) ne) (fun ab => C ab.1 ++ ab.2.2) d' code' → ∀ n_, ll_X3_expression_35 an (nI P.length) tk pl vl (nI cn.length) (el_X3_expression an (nI P.length) tk pl vl (nI cn.length) n).1 (el_X3_expression an (nI P.length) tk pl vl (nI cn.length) n).2 (nI lv) (nI ne) Φ n_ d' t' tok' p' v' f' code' (nI M) 0 := by
        intro M d' t' tok' p' v' f' code' hM h1 c1 n_
        have hM1 : M ≤ 1000 := by rw [← hM]; split <;> decide
        have h9 := sq_loop (M := M) (an := an) (ce := nI cn.length) (rx := (el_X3_expression an (nI P.length) tk pl vl (nI cn.length) n).1) (rp := (el_X3_expression an (nI P.length) tk pl vl (nI cn.length) n).2) (ne := nI ne) hP h4 hM1 hB hi (V := V) (C := C) (Φ := Φ) n_ M _ d' t' tok' p' v' f' code' (Nat.le_refl _) h1 c1 (fun d2 t2 tok2 p2 v2 f2 code2 h2 c2 => hΦ _ _ _ _ _ _ _ (by rw [hM, ← fin9_sq]; exact h2) (by rw [hM, ← fin9_sq]; exact c2))
        rw [Nat.sub_self] at h9
        exact h9
      rw [nI_1]
      refine hi B x V C _ _ _ _ _ _ _ _ hB hR hC (fun d' t' tok' p' v' f' code' h1 c1 => ⟨fun n1 => go 1000 _ _ _ _ _ _ _ (if_neg (fun z => n1 (by rw [z]; rfl))) h1 c1, fun e1 => go 1 _ _ _ _ _ _ _ (if_pos ((nI_eq (a := lv) (b := 1) (by omega) (by decide)).mp e1)) h1 c1⟩)
    · rw [show (4 : Int32) = nI 4 from rfl, nI_ltI (a := lv) (b := 4) (by omega) (by decide)] at h4
      have hg : (pEP cn (n + 1)).1 lv ne = (pEP cn n).2 ne := by
        funext L
        exact if_neg h4
      rw [hg] at hΦ
      exact ih.2 ne (by omega) B x V C _ _ _ _ _ _ _ _ hB hR hC hΦ
theorem sq_expr {α : Type} {x : PRs α} {V : α → Prop} {C : α → List Nat} {B : Nat} {d t p f : Int32} {tok : Nat} {v : Int64} {code : Nat → Int32} {Φ : PX3} (hP : HP P tk pl vl) (hN : NA cn an) (hB : B ≤ 1000) (hR : RX P x V t tok p v f) (hC : CX B x C d code) (hΦ : ∀ d' t' tok' p' v' f' code', RX P (tE x cn) (fun ab => V ab.1) t' tok' p' v' f' → CX B (tE x cn) (fun ab => C ab.1 ++ ab.2.2) d' code' → Φ d' t' tok' p' v' f' code') : wl_X3_expressionF an (nI P.length) tk pl vl (nI cn.length) 0 0 d t tok p v f code Φ :=
  (sq_ep hP hN 40).1 0 0 (by decide) (by decide) B x V C _ _ _ _ _ _ _ _ hB hR hC hΦ
end EP9
