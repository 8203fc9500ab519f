/-- all tokens of the tape, as the class's rows have them -/
def HP (P : List Tok) (tk : Nat → Nat) (pl : Nat → Int32) (vl : Nat → Int64) : Prop := AC P tk pl vl ∧ P.length ≤ 1001 ∧ (∀ k ∈ P, VT k) ∧ WT P
/-- the class's reader stands before the tokens L -/
def AT9 (P L : List Tok) (t : Int32) (tok : Nat) (p : Int32) (v : Int64) : Prop := ∃ k : Nat, t = nI (k + 1) ∧ k < P.length ∧ L = P.drop k ∧ MT (hdt L) tok p v
/-- the class's reader as x says: it has a fault, or stands before the tokens that are left -/
def RX {α : Type} (P : List Tok) (x : PRs α) (V : α → Prop) (t : Int32) (tok : Nat) (p : Int32) (v : Int64) (f : Int32) : Prop := match x with
  | .inl e => f = nI e ∧ 0 < e ∧ e < 100000
  | .inr y => f = 0 ∧ AT9 P y.2 t tok p v ∧ V y.1
theorem adv_drop {P : List Tok} {k : Nat} (h : k + 1 < P.length) : adv (P.drop k) = P.drop (k + 1) := by
  rw [List.drop_eq_getElem_cons (show k < P.length by omega), List.drop_eq_getElem_cons h]
  rfl
theorem adv_last {P : List Tok} {k : Nat} (h : k + 1 = P.length) : adv (P.drop k) = P.drop k := by
  rw [List.drop_eq_getElem_cons (show k < P.length by omega), List.drop_eq_nil_of_le (show P.length ≤ k + 1 by omega)]
  rfl
theorem hdt_get {P : List Tok} {k : Nat} (h : k < P.length) : P[k]? = some (hdt (P.drop k)) := by
  rw [List.drop_eq_getElem_cons h]
  exact List.getElem?_eq_getElem h
theorem WT.drop {P : List Tok} {k : Nat} (h : WT P) (hk : k < P.length) : WT (P.drop k) := by
  obtain ⟨M, p, e, hM⟩ := h
  subst e
  rw [List.length_append] at hk
  have hk : k ≤ M.length := by have : [((0 : Nat), p, ([] : List Nat))].length = 1 := rfl; omega
  rw [List.drop_append_of_le_length hk]
  exact ⟨M.drop k, p, rfl, fun q hq => hM q (List.mem_of_mem_drop hq)⟩
section RX9
variable {α : Type} {P L : List Tok} {x : PRs α} {V : α → Prop} {t p f : Int32} {tok : Nat} {v : Int64} {tk : Nat → Nat} {pl : Nat → Int32} {vl : Nat → Int64}
theorem AT9.wt (hP : HP P tk pl vl) (h : AT9 P L t tok p v) : WT L := by
  obtain ⟨k, _, hk, rfl, _⟩ := h
  exact hP.2.2.2.drop hk
theorem AT9.vt (hP : HP P tk pl vl) (h : AT9 P L t tok p v) : VT (hdt L) := by
  obtain ⟨k, _, hk, rfl, _⟩ := h
  exact hP.2.2.1 _ (List.mem_of_getElem? (hdt_get hk))
theorem AT9.mt (h : AT9 P L t tok p v) : MT (hdt L) tok p v := by obtain ⟨_, _, _, _, h⟩ := h; exact h
theorem AT9.ixZ (h : AT9 P L t tok p v) : tok = ix (hdt L) := h.mt.1
theorem AT9.n (hP : HP P tk pl vl) (h : AT9 P L t tok p v) (h2 : tok = 2) : ix (hdt L) = 2 ∧ v = lN (num (hdt L)) ∧ num (hdt L) ≤ 9999 := by
  have h1 : ix (hdt L) = 2 := h.ixZ.symm.trans h2
  have hk := ix_2 h1
  obtain ⟨_, a, b⟩ := (h.vt hP).numZ hk
  exact ⟨h1, (h.mt.2.2.2 hk).trans a, b⟩
theorem AT9.w (hP : HP P tk pl vl) (h : AT9 P L t tok p v) (h3 : tok = 3) : ix (hdt L) = 3 ∧ v = eB (hdt L).2.2 ∧ WD (hdt L).2.2 := by
  have h1 : ix (hdt L) = 3 := h.ixZ.symm.trans h3
  have hk := (ix_3 h1).1
  exact ⟨h1, h.mt.2.2.1 hk, ((h.vt hP).2.2.1 hk).1⟩
theorem AT9.fltZ (h : AT9 P L t tok p v) (k : Nat) : nI k + 16 * p = nI (flt k L) := by
  rw [h.mt.2.1, show (16 : Int32) = nI 16 from rfl, pk_mul, nI_add]
  rfl
theorem flt_lt (hP : HP P tk pl vl) (h : AT9 P L t tok p v) {k : Nat} (hk : k < 16) : flt k L < 100000 := by
  have := (h.vt hP).2.1
  unfold flt
  omega
theorem RX.ne {e : Nat} (h : RX P (.inl e : PRs α) V t tok p v f) : ¬ f = 0 := by
  rw [h.1]
  exact nI_ne0 h.2.1 (by have := h.2.2; omega)
theorem fail_n {k : Int32} {Φ : Int32 → Prop} (hf : ¬ f = 0) (h : Φ f) : wl_X3_fail p k f Φ := ⟨fun _ => h, fun z => absurd z hf⟩
theorem fail_0 {k : Int32} {Φ : Int32 → Prop} (h : Φ (k + 16 * p)) : wl_X3_fail p k 0 Φ := ⟨fun z => absurd rfl z, fun _ => h⟩
theorem wadv_any {c : Int32} {Φ : Int32 → Nat → Int32 → Int64 → Prop} (h : ∀ t' tok' p' v', Φ t' tok' p' v') : wl_X3_advance c tk pl vl t tok p v Φ := ⟨fun _ => h _ _ _ _, fun _ _ _ _ _ => h _ _ _ _⟩
theorem sq_adv {Φ : Int32 → Nat → Int32 → Int64 → Prop} (hP : HP P tk pl vl) (h : RX P x V t tok p v f) (hΦ : ∀ t' tok' p' v', RX P (sq0 x fun _ => pAdv) V t' tok' p' v' f → Φ t' tok' p' v') : wl_X3_advance (nI P.length) tk pl vl t tok p v Φ := by
  cases x with
  | inl e => exact wadv_any (fun _ _ _ _ => hΦ _ _ _ _ h)
  | inr y =>
    obtain ⟨a, L⟩ := y
    obtain ⟨hf, ⟨k, ht, hk, hL, hM⟩, hV⟩ := h
    have hn := hP.2.1
    have hL : L = P.drop k := hL
    subst ht
    unfold wl_X3_advance
    by_cases e : k + 1 < P.length
    · rw [nI_1, nI_clamp (n := k + 1) (by omega)]
      refine ⟨fun z => absurd z (nI_ge e (by omega)), fun _ _ _ _ _ => hΦ _ _ _ _ ⟨hf, ⟨k + 1, rfl, e, ?_, ?_⟩, hV⟩⟩
      · show adv L = _
        rw [hL, adv_drop e]
      · show MT (hdt (adv L)) _ _ _
        rw [hL, adv_drop e]
        exact hP.1 _ _ (hdt_get e)
    · refine ⟨fun _ => hΦ _ _ _ _ ⟨hf, ⟨k, rfl, hk, ?_, ?_⟩, hV⟩, fun z => absurd (nI_le (by omega) (by omega)) z⟩
      · show adv L = _
        rw [hL, adv_last (by omega)]
      · show MT (hdt (adv L)) _ _ _
        have e2 : adv L = L := by rw [hL, adv_last (by omega)]
        rw [e2]
        exact hM
theorem bad0 {Φ : Int32 → Prop} {g : α → List Tok → Nat ⊕ List Tok} {k : Nat} (h0 : 0 < k) (hk : k < 16) (hP : HP P tk pl vl) (h : RX P x V t tok p v f) (hx : ∀ a L, x = .inr (a, L) → V a → AT9 P L t tok p v → g a L = .inl (flt k L)) (hΦ : ∀ f', RX P (sq0 x g) V t tok p v f' → Φ f') : wl_X3_fail p (nI k) f Φ := by
  cases x with
  | inl e => exact fail_n h.ne (hΦ f h)
  | inr y =>
    obtain ⟨a, L⟩ := y
    obtain ⟨hf, hA, hV⟩ := h
    have hg := hx a L rfl hV hA
    subst hf
    refine fail_0 (hΦ _ ?_)
    have e : sq0 (.inr (a, L)) g = .inl (flt k L) := by rw [sq0_r, hg]; rfl
    rw [e, hA.fltZ]
    exact ⟨rfl, by unfold flt; omega, flt_lt hP hA hk⟩
theorem bad1 {β : Type} {Φ : Int32 → Prop} {W : α × β → Prop} {g : α → List Tok → PRs β} {k : Nat} (h0 : 0 < k) (hk : k < 16) (hP : HP P tk pl vl) (h : RX P x V t tok p v f) (hx : ∀ a L, x = .inr (a, L) → V a → AT9 P L t tok p v → g a L = .inl (flt k L)) (hΦ : ∀ f', RX P (sq1 x g) W t tok p v f' → Φ f') : wl_X3_fail p (nI k) f Φ := by
  cases x with
  | inl e => exact fail_n h.ne (hΦ f h)
  | inr y =>
    obtain ⟨a, L⟩ := y
    obtain ⟨hf, hA, hV⟩ := h
    have hg := hx a L rfl hV hA
    subst hf
    refine fail_0 (hΦ _ ?_)
    have e : sq1 (.inr (a, L)) g = .inl (flt k L) := by rw [sq1_r, hg]; rfl
    rw [e, hA.fltZ]
    exact ⟨rfl, by unfold flt; omega, flt_lt hP hA hk⟩
theorem good0 {g : α → List Tok → Nat ⊕ List Tok} (h : RX P x V t tok p v f) (hx : ∀ a L, x = .inr (a, L) → V a → AT9 P L t tok p v → g a L = .inr L) : RX P (sq0 x g) V t tok p v f := by
  cases x with
  | inl e => exact h
  | inr y =>
    obtain ⟨a, L⟩ := y
    have e : sq0 (.inr (a, L)) g = .inr (a, L) := by rw [sq0_r, hx a L rfl h.2.2 h.2.1]; rfl
    rw [e]
    exact h
theorem good1 {β : Type} {W : α × β → Prop} {g : α → List Tok → PRs β} (h : RX P x V t tok p v f) (hx : ∀ a L, x = .inr (a, L) → V a → AT9 P L t tok p v → ∃ b, g a L = .inr (b, L) ∧ W (a, b)) : RX P (sq1 x g) W t tok p v f := by
  cases x with
  | inl e => exact h
  | inr y =>
    obtain ⟨a, L⟩ := y
    obtain ⟨b, hb, hW⟩ := hx a L rfl h.2.2 h.2.1
    have e : sq1 (.inr (a, L)) g = .inr ((a, b), L) := by rw [sq1_r, hb]; rfl
    rw [e]
    exact ⟨h.1, h.2.1, hW⟩
theorem sq_expect {w : Nat} {Φ : Int32 → Nat → Int32 → Int64 → Int32 → Prop} (hP : HP P tk pl vl) (h : RX P x V t tok p v f) (hΦ : ∀ t' tok' p' v' f', RX P (tX x w) V t' tok' p' v' f' → Φ t' tok' p' v' f') : wl_X3_expect (nI P.length) tk pl vl w t tok p v f Φ := by
  unfold wl_X3_expect
  refine fun _ _ => ⟨fun e => ?_, fun e => ?_⟩
  · exact sq_adv hP (good0 (g := fun _ => pSay w) h (fun a L _ _ hA => if_pos (hA.ixZ.symm.trans e))) (fun _ _ _ _ h' => hΦ _ _ _ _ _ h')
  · exact bad0 (k := 1) (g := fun _ => pSay w) (by decide) (by decide) hP h (fun a L _ _ hA => if_neg (fun z => e (hA.ixZ.trans z))) (fun f' h' => sq_adv hP h' (fun _ _ _ _ h'' => hΦ _ _ _ _ _ h''))
theorem sq_num {lo hi : α → Nat} {xl xg : Int32} {Φ : Int32 → Int32 → Prop} (hP : HP P tk pl vl) (h : RX P x V t tok p v f) (hl : ∀ a L, x = .inr (a, L) → V a → xl = nI (lo a) ∧ xg = nI (hi a) ∧ lo a < 100000 ∧ hi a < 100000) (hΦ : ∀ r f', RX P (sq1 x fun a => pNum (lo a) (hi a)) (fun ab => V ab.1 ∧ r = nI ab.2 ∧ ab.2 ≤ 9999) t tok p v f' → Φ r f') : wl_X3_numberHere tok p v xl xg f Φ := by
  unfold wl_X3_numberHere
  refine fun _ => ⟨fun e => ⟨fun c => ?_, fun c => ⟨fun d => ?_, fun d => ?_⟩⟩, fun e => ?_⟩
  · refine bad1 (k := 4) (by decide) (by decide) hP h (fun a L hx hV hA => ?_) (fun f' h' => hΦ _ _ h')
    obtain ⟨h1, h2, h3⟩ := hA.n hP e
    obtain ⟨l1, l2, l3, l4⟩ := hl a L hx hV
    rw [h2, l1, nI_l (by omega), lg_cmp_lt, lN_lt (by omega) (by omega)] at c
    unfold pNum
    rw [if_pos h1, if_neg (fun z => absurd z.1 (by omega))]
  · refine hΦ _ _ (good1 h (fun a L hx hV hA => ?_))
    obtain ⟨h1, h2, h3⟩ := hA.n hP e
    obtain ⟨l1, l2, l3, l4⟩ := hl a L hx hV
    rw [h2, l1, nI_l (by omega), lg_cmp_lt, lN_lt (by omega) (by omega)] at c
    rw [h2, l2, nI_l (by omega), lg_cmp_le, lN_le (by omega) (by omega)] at d
    refine ⟨num (hdt L), ?_, hV, ?_, h3⟩
    · unfold pNum
      rw [if_pos h1, if_pos ⟨by omega, d⟩]
    · rw [h2, lN_i]
  · refine bad1 (k := 4) (by decide) (by decide) hP h (fun a L hx hV hA => ?_) (fun f' h' => hΦ _ _ h')
    obtain ⟨h1, h2, h3⟩ := hA.n hP e
    obtain ⟨l1, l2, l3, l4⟩ := hl a L hx hV
    rw [h2, l2, nI_l (by omega), lg_cmp_le, lN_le (by omega) (by omega)] at d
    unfold pNum
    rw [if_pos h1, if_neg (fun z => absurd z.2 d)]
  · refine bad1 (k := 1) (by decide) (by decide) hP h (fun a L hx hV hA => ?_) (fun f' h' => hΦ _ _ h')
    unfold pNum
    rw [if_neg (fun z => e (hA.ixZ.trans z))]
theorem sq_takeNumber {lo hi : α → Nat} {xl xg : Int32} {Φ : Int32 → Int32 → Nat → Int32 → Int64 → Int32 → Prop} (hP : HP P tk pl vl) (h : RX P x V t tok p v f) (hl : ∀ a L, x = .inr (a, L) → V a → xl = nI (lo a) ∧ xg = nI (hi a) ∧ lo a < 100000 ∧ hi a < 100000) (hΦ : ∀ r t' tok' p' v' f', RX P (tN x lo hi) (fun ab => V ab.1 ∧ r = nI ab.2 ∧ ab.2 ≤ 9999) t' tok' p' v' f' → Φ r t' tok' p' v' f') : wl_X3_takeNumber (nI P.length) tk pl vl xl xg t tok p v f Φ :=
  sq_num hP h hl (fun r f' h' => sq_adv hP h' (fun _ _ _ _ h'' => hΦ _ _ _ _ _ _ h''))
/-- a row of names -/
def NA (ns : List (List Nat)) (an : Nat → Int64) : Prop := ns.length ≤ 6 ∧ (∀ w ∈ ns, WD w) ∧ ∀ i w, ns[i]? = some w → an i = eB w
theorem find_any {an : Nat → Int64} {nl : Nat} {xc : Int32} {Φ : Int32 → Prop} (h : ∀ r, Φ r) : wl_X3_find v an nl xc Φ := by
  have key : ∀ (n : Nat) (i : Int32), ll_X3_find_2 v an nl xc Φ n i := by
    intro n
    induction n with
    | zero => intro i; trivial
    | succ n ih => intro i; exact ⟨fun _ => h _, fun _ => ⟨fun _ => h _, fun _ _ => ⟨fun _ => ih _, fun _ => h _⟩⟩⟩
  exact fun n => key n 0
theorem sq_find {ns : List (List Nat)} {w : List Nat} {an : Nat → Int64} {nl : Nat} {Φ : Int32 → Prop} (hN : NA ns an) (hn : ns.length ≤ nl) (hl : nl < 100) (hw : WD w) (h0 : fnd ns w = none → Φ (-1)) (h1 : ∀ j, fnd ns w = some j → Φ (nI j)) : wl_X3_find (eB w) an nl (nI ns.length) Φ := by
  have h6 := hN.1
  have key : ∀ (n i : Nat), i ≤ ns.length → fnd ns w = fndF (ns.drop i) w i → ll_X3_find_2 (eB w) an nl (nI ns.length) Φ n (nI i) := by
    intro n
    induction n with
    | zero => intro i _ _; trivial
    | succ n ih =>
      intro i hi he
      have hend : i = ns.length → Φ (-1) := fun e => h0 (by rw [he, e, List.drop_length]; rfl)
      refine ⟨fun z => hend ?_, fun z => ⟨fun z2 => hend ?_, fun _ _ => ?_⟩⟩
      · rw [nI_leI (by omega) (by omega)] at z; omega
      · rw [nI_leI (by omega) (by omega)] at z2; omega
      · have hlt : i < ns.length := by
          rw [nI_leI (by omega) (by omega)] at z
          omega
        have hd := List.drop_eq_getElem_cons hlt
        have ha : an i = eB ns[i] := hN.2.2 i _ (List.getElem?_eq_getElem hlt)
        have hwi : WD ns[i] := hN.2.1 _ (List.getElem_mem hlt)
        rw [hd] at he
        have he : fnd ns w = if ns[i] = w then some i else fndF (ns.drop (i + 1)) w (i + 1) := he
        rw [nI_clamp (n := i) (by omega), ha, lg_cmp_eq, eB_inj hwi hw, nI_1]
        exact ⟨fun z3 => ih (i + 1) (by omega) (by rw [he, if_neg z3]), fun z3 => h1 i (by rw [he, if_pos z3])⟩
  exact fun n => key n 0 (Nat.zero_le _) rfl
theorem sq_told {ns : List (List Nat)} {an : Nat → Int64} {nl : Nat} {Φ : Int32 → Int32 → Prop} (hP : HP P tk pl vl) (h : RX P x V t tok p v f) (hN : NA ns an) (hn : ns.length ≤ nl) (hl : nl < 100) (hΦ : ∀ r f', RX P (sq1 x fun _ => pTold ns) (fun ab => V ab.1 ∧ r = nI ab.2 ∧ ab.2 < ns.length) t tok p v f' → Φ r f') : wl_X3_toldHere tok p v an nl (nI ns.length) f Φ := by
  unfold wl_X3_toldHere
  refine fun _ => ⟨fun e => ?_, fun e => ?_⟩
  · cases x with
    | inl e => exact find_any (fun r => ⟨fun _ => hΦ _ _ h, fun _ => fail_n h.ne (hΦ _ _ h)⟩)
    | inr y =>
      obtain ⟨a, L⟩ := y
      obtain ⟨w1, w2, w3⟩ := h.2.1.w hP e
      rw [w2]
      refine sq_find hN hn hl w3 (fun z => ⟨fun q => absurd rfl q, fun _ => ?_⟩) (fun j z => ⟨fun _ => ?_, fun q => ?_⟩)
      · rw [w2] at h
        refine bad1 (k := 2) (by decide) (by decide) hP h (fun a L hx _ hA => ?_) (fun f' h' => hΦ _ _ (w2.symm ▸ h'))
        have hL := (Prod.mk.inj (Sum.inr.inj hx)).2
        unfold pTold
        rw [← hL, if_pos w1, z]
      · refine hΦ _ _ (good1 h (fun a L hx hV hA => ⟨j, ?_, hV, rfl, fnd_lt z⟩))
        have hL := (Prod.mk.inj (Sum.inr.inj hx)).2
        unfold pTold
        rw [← hL, if_pos w1, z]
      · have := fnd_lt z
        have h6 := hN.1
        exact absurd q (fun y => nI_pos (n := j) (by omega) (by rw [y]; decide))
  · refine bad1 (k := 1) (by decide) (by decide) hP h (fun a L hx hV hA => ?_) (fun f' h' => hΦ _ _ h')
    unfold pTold
    rw [if_neg (fun z => e (hA.ixZ.trans z))]
theorem sq_take {ns : List (List Nat)} {an : Nat → Int64} {nl : Nat} {Φ : Int32 → Int32 → Nat → Int32 → Int64 → Int32 → Prop} (hP : HP P tk pl vl) (h : RX P x V t tok p v f) (hN : NA ns an) (hn : ns.length ≤ nl) (hl : nl < 100) (hΦ : ∀ r t' tok' p' v' f', RX P (tO x ns) (fun ab => V ab.1 ∧ r = nI ab.2 ∧ ab.2 < ns.length) t' tok' p' v' f' → Φ r t' tok' p' v' f') : wl_X3_toldHere tok p v an nl (nI ns.length) f (fun r f' => wl_X3_advance (nI P.length) tk pl vl t tok p v (fun a b c d => Φ r a b c d f')) :=
  sq_told hP h hN hn hl (fun r f' h' => sq_adv hP h' (fun _ _ _ _ h'' => hΦ _ _ _ _ _ _ h''))
theorem sq_takeCell {ns : List (List Nat)} {an : Nat → Int64} {Φ : Int32 → Int32 → Nat → Int32 → Int64 → Int32 → Prop} (hP : HP P tk pl vl) (h : RX P x V t tok p v f) (hN : NA ns an) (hΦ : ∀ r t' tok' p' v' f', RX P (tO x ns) (fun ab => V ab.1 ∧ r = nI ab.2 ∧ ab.2 < ns.length) t' tok' p' v' f' → Φ r t' tok' p' v' f') : wl_X3_takeCell an (nI P.length) tk pl vl (nI ns.length) t tok p v f Φ := by
  unfold wl_X3_takeCell
  exact sq_take hP h hN hN.1 (by decide) hΦ
theorem sq_takeStuff {ns : List (List Nat)} {an : Nat → Int64} {Φ : Int32 → Int32 → Nat → Int32 → Int64 → Int32 → Prop} (hP : HP P tk pl vl) (h : RX P x V t tok p v f) (hN : NA ns an) (h4 : ns.length ≤ 4) (hΦ : ∀ r t' tok' p' v' f', RX P (tO x ns) (fun ab => V ab.1 ∧ r = nI ab.2 ∧ ab.2 < ns.length) t' tok' p' v' f' → Φ r t' tok' p' v' f') : wl_X3_takeStuff an (nI P.length) tk pl vl (nI ns.length) t tok p v f Φ := by
  unfold wl_X3_takeStuff
  exact sq_take hP h hN h4 (by decide) hΦ
theorem sq_new {sn cn : List (List Nat)} {as ac : Nat → Int64} {Φ : Int64 → Int32 → Nat → Int32 → Int64 → Int32 → Prop} (hP : HP P tk pl vl) (h : RX P x V t tok p v f) (hS : NA sn as) (hs : sn.length ≤ 4) (hC : NA cn ac) (hΦ : ∀ r t' tok' p' v' f', RX P (tW x sn cn) (fun ab => V ab.1 ∧ r = eB ab.2 ∧ WD ab.2) t' tok' p' v' f' → Φ r t' tok' p' v' f') : wl_X3_takeNewName as ac (nI P.length) tk pl vl (nI sn.length) (nI cn.length) t tok p v f Φ := by
  unfold wl_X3_takeNewName
  refine fun _ => ⟨fun e => ?_, fun e => ?_⟩
  · cases x with
    | inl e =>
      have k : ∀ f', f' = f → wl_X3_advance (nI P.length) tk pl vl t tok p v (fun a b c d => Φ v a b c d f') := fun f' hf => wadv_any (fun _ _ _ _ => hΦ _ _ _ _ _ _ (by rw [hf]; exact h))
      exact find_any (fun r => ⟨fun _ => fail_n h.ne (k f rfl), fun _ => find_any (fun r => ⟨fun _ => k f rfl, fun _ => fail_n h.ne (k f rfl)⟩)⟩)
    | inr y =>
      obtain ⟨a, L⟩ := y
      obtain ⟨w1, w2, w3⟩ := h.2.1.w hP e
      have m1 : ∀ j : Nat, j < 6 → ¬ nI j = -1 := fun j hj q => nI_pos (n := j) (by omega) (by rw [q]; decide)
      have bad : (hdt L).2.2 ∈ sn ∨ (hdt L).2.2 ∈ cn → wl_X3_fail p 3 f (fun f' => wl_X3_advance (nI P.length) tk pl vl t tok p v (fun a b c d => Φ v a b c d f')) := by
        intro hm
        refine bad1 (k := 3) (g := fun _ => pNew sn cn) (by decide) (by decide) hP h (fun a L hx _ hA => ?_) (fun f' h' => sq_adv hP h' (fun _ _ _ _ h'' => hΦ _ _ _ _ _ _ h''))
        have hL := (Prod.mk.inj (Sum.inr.inj hx)).2
        unfold pNew
        rw [← hL, if_pos w1, if_pos hm]
      have good : ¬ ((hdt L).2.2 ∈ sn ∨ (hdt L).2.2 ∈ cn) → wl_X3_advance (nI P.length) tk pl vl t tok p v (fun a b c d => Φ v a b c d f) := by
        intro hm
        refine sq_adv hP (good1 (g := fun _ => pNew sn cn) h (fun a L hx hV hA => ⟨(hdt L).2.2, ?_, hV, ?_, ?_⟩)) (fun _ _ _ _ h'' => hΦ _ _ _ _ _ _ h'')
        · have hL := (Prod.mk.inj (Sum.inr.inj hx)).2
          unfold pNew
          rw [← hL, if_pos w1, if_neg hm]
        · have hL := (Prod.mk.inj (Sum.inr.inj hx)).2
          rw [← hL]
          exact w2
        · have hL := (Prod.mk.inj (Sum.inr.inj hx)).2
          rw [← hL]
          exact w3
      have hc6 := hC.1
      generalize wl_X3_fail p 3 f (fun f' => wl_X3_advance (nI P.length) tk pl vl t tok p v (fun a b c d => Φ v a b c d f')) = F1 at bad ⊢
      generalize wl_X3_advance (nI P.length) tk pl vl t tok p v (fun a b c d => Φ v a b c d f) = F2 at good ⊢
      have hv := w2
      subst hv
      refine sq_find hS hs (by decide) w3 (fun z => ⟨fun q => absurd rfl q, fun _ => ?_⟩) (fun j z => ⟨fun _ => bad (Or.inl ?_), fun q => absurd q (m1 j (by have := fnd_lt z; omega))⟩)
      · refine sq_find hC hc6 (by decide) w3 (fun z2 => ⟨fun _ => good (fun hm => hm.elim (fnd_none.mp z) (fnd_none.mp z2)), fun q => absurd rfl q⟩) (fun j z2 => ⟨fun q => absurd q (m1 j (by have := fnd_lt z2; omega)), fun _ => bad (Or.inr ?_)⟩)
        exact Classical.byContradiction (fun hm => by rw [fnd_none.mpr hm] at z2; exact (nomatch z2))
      · exact Classical.byContradiction (fun hm => by rw [fnd_none.mpr hm] at z; exact (nomatch z))
  · refine bad1 (k := 1) (g := fun _ => pNew sn cn) (by decide) (by decide) hP h (fun a L hx hV hA => ?_) (fun f' h' => sq_adv hP h' (fun _ _ _ _ h'' => hΦ _ _ _ _ _ _ h''))
    unfold pNew
    rw [if_neg (fun z => e (hA.ixZ.trans z))]
theorem given_any {g xc : Int32} {gc : Nat → Int32} {Φ : Int32 → Prop} (h : ∀ r, Φ r) : wl_X3_isGiven g gc xc Φ := by
  have key : ∀ (n : Nat) (i : Int32), ll_X3_isGiven_2 g gc xc Φ n i := by
    intro n
    induction n with
    | zero => intro i; trivial
    | succ n ih => intro i; exact ⟨fun _ => h _, fun _ _ => ⟨fun _ => ih _, fun _ => h _⟩⟩
  exact fun n => key n 0
theorem sq_given {l : List Nat} {c : Nat} {gc : Nat → Int32} {Φ : Int32 → Prop} (hl : l.length ≤ 2) (hl2 : ∀ y ∈ l, y < 6) (hc : c < 6) (hg : ∀ i y, l[i]? = some y → gc i = nI y) (h0 : ¬ c ∈ l → Φ 0) (h1 : c ∈ l → Φ 1) : wl_X3_isGiven (nI l.length) gc (nI c) Φ := by
  have key : ∀ (n i : Nat), i ≤ l.length → (c ∈ l ↔ c ∈ l.drop i) → ll_X3_isGiven_2 (nI l.length) gc (nI c) Φ n (nI i) := by
    intro n
    induction n with
    | zero => intro i _ _; trivial
    | succ n ih =>
      intro i hi he
      refine ⟨fun z => h0 ?_, fun z _ => ?_⟩
      · rw [nI_leI (by omega) (by omega)] at z
        rw [he, List.drop_eq_nil_of_le z]
        intro hm; cases hm
      · have hlt : i < l.length := by
          rw [nI_leI (by omega) (by omega)] at z
          omega
        have ha : gc i = nI l[i] := hg i _ (List.getElem?_eq_getElem hlt)
        have h6 := hl2 _ (List.getElem_mem hlt)
        rw [List.drop_eq_getElem_cons hlt] at he
        rw [nI_clamp (n := i) (by omega), ha, nI_1]
        have ee : nI l[i] = nI c ↔ l[i] = c := nI_eq (by omega) (by omega)
        rw [ee]
        refine ⟨fun z3 => ih (i + 1) (by omega) ?_, fun z3 => h1 ?_⟩
        · rw [he]
          exact ⟨fun hm => (List.mem_cons.mp hm).elim (fun y => absurd y.symm z3) id, fun hm => List.mem_cons_of_mem _ hm⟩
        · rw [he, z3]
          exact List.mem_cons_self
  exact fun n => key n 0 (Nat.zero_le _) Iff.rfl
theorem icount_any {g : Int32} {le gr : Nat → Int32} {Φ : Int32 → Prop} (h : ∀ r, Φ r) : wl_X2_inputCountW g le gr Φ := by
  have key : ∀ (n : Nat) (a i : Int32), ll_X2_inputCountW_4 g le gr Φ n a i := by
    intro n
    induction n with
    | zero => intro a i; trivial
    | succ n ih => intro a i; exact ⟨fun _ => h _, fun _ _ _ => ih _ _⟩
  exact fun n => key n 1 0
/-- inputs told, and their rows -/
def IA (l : List (Nat × Nat × Nat)) (le gr : Nat → Int32) : Prop := l.length ≤ 2 ∧ (∀ y ∈ l, y.2.1 ≤ y.2.2 ∧ y.2.2 ≤ 9999) ∧ ∀ (i : Nat) (y : Nat × Nat × Nat), l[i]? = some y → le i = nI y.2.1 ∧ gr i = nI y.2.2
theorem sq_icount {l : List (Nat × Nat × Nat)} {le gr : Nat → Int32} {Φ : Int32 → Prop} (hI : IA l le gr) (h : Φ (nI (many l))) : wl_X2_inputCountW (nI l.length) le gr Φ := by
  have hl := hI.1
  have key : ∀ (n i a : Nat), i ≤ l.length → many l = (l.drop i).foldl (fun a x => a * (x.2.2 - x.2.1 + 1)) a → ll_X2_inputCountW_4 (nI l.length) le gr Φ n (nI a) (nI i) := by
    intro n
    induction n with
    | zero => intro i a _ _; trivial
    | succ n ih =>
      intro i a hi he
      refine ⟨fun z => ?_, fun z _ _ => ?_⟩
      · rw [nI_leI (by omega) (by omega)] at z
        rw [List.drop_eq_nil_of_le z] at he
        rw [he] at h
        exact h
      · have hlt : i < l.length := by
          rw [nI_leI (by omega) (by omega)] at z
          omega
        obtain ⟨e1, e2⟩ := hI.2.2 i _ (List.getElem?_eq_getElem hlt)
        obtain ⟨b1, b2⟩ := hI.2.1 _ (List.getElem_mem hlt)
        rw [List.drop_eq_getElem_cons hlt, List.foldl_cons] at he
        have h9 := ih (i + 1) _ (by omega) he
        rw [nI_clamp (n := i) (by omega), e1, e2, nI_1, pk_sub b1, nI_1]
        have ew : (if (1 : Int32) < nI (l[i].2.2 - l[i].2.1 + 1) then nI (l[i].2.2 - l[i].2.1 + 1) else (1 : Int32)) = nI (l[i].2.2 - l[i].2.1 + 1) := by
          by_cases e : 1 < l[i].2.2 - l[i].2.1 + 1
          · exact if_pos ((nI_ltI (a := 1) (by decide) (by omega)).mpr e)
          · show (if nI 1 < nI (l[i].2.2 - l[i].2.1 + 1) then nI (l[i].2.2 - l[i].2.1 + 1) else nI 1) = _
            rw [if_neg (fun y => e ((nI_ltI (a := 1) (by decide) (by omega)).mp y))]
            have : l[i].2.2 - l[i].2.1 + 1 = 1 := by omega
            rw [this]
        rw [ew]
        show ll_X2_inputCountW_4 (nI l.length) le gr Φ n (nI a * nI (l[i].2.2 - l[i].2.1 + 1)) (nI (i + 1))
        rw [pk_mul]
        exact h9
  exact fun n => key n 0 1 (Nat.zero_le _) rfl
end RX9
