section
/-- from c on the codes i were written, nothing below, nothing from 2000 on -/
def CW (c : Nat) (i : List Nat) (cd cd' : Nat → Int32) : Prop := (∀ j, j < c → cd' j = cd j) ∧ (∀ j x, i[j]? = some x → cd' (c + j) = nI x) ∧ ∀ j, 2000 ≤ j → cd' j = cd j
theorem CW.nil {c : Nat} {cd : Nat → Int32} : CW c [] cd cd := ⟨fun _ _ => rfl, fun j x h => by simp at h, fun _ _ => rfl⟩
theorem CW.app {c : Nat} {i k : List Nat} {a b d : Nat → Int32} (h : CW c i a b) (h2 : CW (c + i.length) k b d) : CW c (i ++ k) a d := by
  refine ⟨fun j hj => (h2.1 j (by omega)).trans (h.1 j hj), fun j x hj => ?_, fun j hj => (h2.2.2 j hj).trans (h.2.2 j hj)⟩
  by_cases hlt : j < i.length
  · rw [List.getElem?_append_left hlt] at hj
    rw [h2.1 _ (by omega)]
    exact h.2.1 j x hj
  · rw [List.getElem?_append_right (by omega)] at hj
    have := h2.2.1 _ x hj
    rw [show c + i.length + (j - i.length) = c + j by omega] at this
    exact this
theorem CW.one {c v : Nat} {cd : Nat → Int32} (hc : c < 2000) : CW c [v] cd (upd cd c (nI v)) := by
  refine ⟨fun j hj => pk_un (by omega), fun j x hj => ?_, fun j hj => pk_un (by omega)⟩
  cases j with
  | zero => rw [← Option.some.inj hj]; exact pk_us
  | succ j => simp at hj
theorem bo_0 : (vp_nar .boolean 0 : Int32) = 0 := by decide
theorem bo_1 : (vp_nar .boolean 1 : Int32) = 1 := by decide
theorem lv_ix7 : ∀ i : Fin 31, lvT.getD i.val 4 < 4 → i.val = 7 ∨ i.val = 8 ∨ i.val = 9 ∨ i.val = 10 ∨ i.val = 11 ∨ i.val = 29 ∨ i.val = 30 := by decide
theorem lvl_ix {k : Tok} (h : lvl k < 4) : ix k = 7 ∨ ix k = 8 ∨ ix k = 9 ∨ ix k = 10 ∨ ix k = 11 ∨ ix k = 29 ∨ ix k = 30 := lv_ix7 ⟨ix k, ix_lt k⟩ h
theorem lvl_of {k : Tok} {i : Nat} (h : ix k = i) : lvl k = lvT.getD i 4 ∧ inf k = inT.getD i 0 := by
  unfold lvl inf
  rw [h]
  exact ⟨rfl, rfl⟩
section RE8
variable {ts : List Nat} {t : Nat → Int32} {cs : Nat → Int32} {nm : Nat → Int64} {li : Nat} {Φ : PE} {lf lt : Nat → Int32} {wr : Int32} {cn : List (List Nat)}
/-- the loop of readsE goes on well from here: n turns, depth d, the tokens L, the next code's place c -/
def LP8 (ts : List Nat) (t cs : Nat → Int32) (nm : Nat → Int64) (li : Nat) (Φ : PE) (lf lt : Nat → Int32) (wr : Int32) (n d : Nat) (L : List Tok) (c : Nat) (cd op cm : Nat → Int32) (wn : Int32) : Prop := ∀ (q b : Nat) (T : Int32) (w : Int64) (td : Int32), RR ts L q b T w td → ll_X8_readsE_21 (nI ts.length) t cs nm (nI li) Φ n (nI q) (nI b) T w td wr (nI c) lf lt cd op cm (nI d) wn
/-- a fault ends well -/
def FL8 (Φ : PE) (lf lt : Nat → Int32) (e c : Nat) (cd : Nat → Int32) : Prop := ∀ (q b T : Int32) (w : Int64) (td c' : Int32) (cd' op' cm' : Nat → Int32), (∀ j, j < c ∨ 2000 ≤ j → cd' j = cd j) → Φ 0 q b T w td (nI e) c' lf lt cd' op' cm'
theorem FL8.mono {e c : Nat} {i : List Nat} {cd cd1 : Nat → Int32} (h : FL8 Φ lf lt e c cd) (hw : CW c i cd cd1) : FL8 Φ lf lt e (c + i.length) cd1 := fun q b T w td c' cd' op' cm' hf => h q b T w td c' cd' op' cm' (fun j hj => by
  rcases hj with hj | hj
  · exact (hf j (Or.inl (by omega))).trans (hw.1 j hj)
  · exact (hf j (Or.inr hj)).trans (hw.2.2 j hj))
theorem sq8_puts {c : Nat} {v : Int32} {cd : Nat → Int32} {Ψ : Int32 → (Nat → Int32) → Prop} (hc : c < 100000) (h : Ψ (nI (c + 1)) (upd cd c v)) : wl_X8_puts v (nI c) cd Ψ := by
  unfold wl_X8_puts
  rw [nI_1, nI_clamp (n := c) (by omega)]
  exact fun _ => h
section ST8
variable {n d c : Nat} {L : List Tok} {cd op cm : Nat → Int32}
theorem re_op {lv : Nat} (hT : TL ts t) (hd : d ≤ 1000) (hl : lvl (hdt L) = lv) (h4 : lv < 4) (hcm : lv = 1 → cm d = 0) (hc : c < 2000) (next : ∀ cd' cm', CW c [inf (hdt L)] cd cd' → (∀ j, j ≠ d → cm' j = cm j) → (2 ≤ lv → cm' d = cm d) → (lv = 1 → cm' d = 1) → (lv = 0 → cm' d = 0) → LP8 ts t cs nm li Φ lf lt wr n d (adv L) (c + 1) cd' op cm' 1) : LP8 ts t cs nm li Φ lf lt wr (n + 1) d L c cd op cm 0 := by
  intro q b T w td h
  have hi := lvl_ix (k := hdt L) (by omega)
  have go : ∀ (v : Nat) (cm' : Nat → Int32), inf (hdt L) = v → (∀ j, j ≠ d → cm' j = cm j) → (2 ≤ lv → cm' d = cm d) → (lv = 1 → cm' d = 1) → (lv = 0 → cm' d = 0) → wl_X8_nextToken (nI ts.length) t (nI q) (nI b) T w td (fun q' b' T' w' td' => ll_X8_readsE_21 (nI ts.length) t cs nm (nI li) Φ n q' b' T' w' td' wr (nI (c + 1)) lf lt (upd cd c (nI v)) op cm' (nI d) 1) := by
    intro v cm' hv a1 a2 a3 a4
    refine sq8_next hT h (fun q' b' T' w' td' h' => next _ cm' (by rw [hv]; exact CW.one hc) a1 a2 a3 a4 q' b' T' w' td' h')
  have k279 : (ix (hdt L) = 9 ∨ ix (hdt L) = 10 ∨ ix (hdt L) = 11) → kl_X8_readsE_279 (nI ts.length) t cs nm (nI li) (ll_X8_readsE_21 (nI ts.length) t cs nm (nI li) Φ n) Φ (nI q) (nI b) T w td wr (nI c) lf lt cd op cm (nI d) := by
    intro hx
    have hlv : 2 ≤ lv := by
      rcases hx with e | e | e <;> rw [(lvl_of e).1] at hl <;> rw [← hl] <;> decide
    have g2 : ∀ v : Nat, inf (hdt L) = v → wl_X8_puts (nI v) (nI c) cd (fun c' cd' => wl_X8_nextToken (nI ts.length) t (nI q) (nI b) T w td (fun q' b' T' w' td' => ll_X8_readsE_21 (nI ts.length) t cs nm (nI li) Φ n q' b' T' w' td' wr c' lf lt cd' op cm (nI d) 1)) := fun v hv => sq8_puts (by omega) (go v cm hv (fun _ _ => rfl) (fun _ => rfl) (fun e => absurd e (by omega)) (fun e => absurd e (by omega)))
    refine sq8_sign 43 (by decide) (by decide) hT h (fun e => ⟨fun z => absurd z (by (try dsimp only); decide), fun _ => g2 20 (lvl_of (show ix (hdt L) = 9 from e)).2⟩) (fun e => ⟨fun _ => ?_, fun z => absurd rfl z⟩)
    refine sq8_sign 45 (by decide) (by decide) hT h (fun e => ⟨fun z => absurd z (by (try dsimp only); decide), fun _ => g2 21 (lvl_of (show ix (hdt L) = 10 from e)).2⟩) (fun e2 => ⟨fun _ => g2 22 (lvl_of (show ix (hdt L) = 11 from ?_)).2, fun z => absurd rfl z⟩)
    have e : ¬ ix (hdt L) = 9 := e
    have e2 : ¬ ix (hdt L) = 10 := e2
    omega
  have k336 : ∀ l3, (ix (hdt L) = 7 ∨ ix (hdt L) = 8) → kl_X8_readsE_336 (nI ts.length) t cs nm (nI li) (ll_X8_readsE_21 (nI ts.length) t cs nm (nI li) Φ n) Φ (nI q) (nI b) T w td wr (nI c) lf lt cd op cm (nI d) l3 := by
    intro l3 hx
    have hlv : lv = 1 := by
      rcases hx with e | e <;> rw [(lvl_of e).1] at hl <;> rw [← hl] <;> decide
    unfold kl_X8_readsE_336
    rw [nI_clamp (n := d) (by omega)]
    refine fun _ => ⟨fun z => absurd (hcm hlv) z, fun _ => ?_⟩
    have g2 : ∀ v : Nat, inf (hdt L) = v → kl_X8_readsE_362 (nI ts.length) t cs nm (nI li) (ll_X8_readsE_21 (nI ts.length) t cs nm (nI li) Φ n) Φ (nI q) (nI b) T w td wr (nI c) lf lt cd op cm (nI d) (nI v) := by
      intro v hv
      refine sq8_puts (by omega) ?_
      rw [nI_clamp (n := d) (by omega)]
      exact fun _ => go v _ hv (fun j hj => pk_un hj) (fun e => absurd e (by omega)) (fun _ => by rw [pk_us]; exact bo_1) (fun e => absurd e (by omega))
    exact sq8_sign 60 (by decide) (by decide) hT h (fun e => ⟨fun z => absurd z (by (try dsimp only); decide), fun _ => g2 24 (lvl_of (show ix (hdt L) = 7 from e)).2⟩) (fun e => ⟨fun _ => g2 25 (lvl_of (show ix (hdt L) = 8 from by have e : ¬ ix (hdt L) = 7 := e; omega)).2, fun z => absurd rfl z⟩)
  have k397 : (ix (hdt L) = 29 ∨ ix (hdt L) = 30) → kl_X8_readsE_397 (nI ts.length) t cs nm (nI li) (ll_X8_readsE_21 (nI ts.length) t cs nm (nI li) Φ n) Φ (nI q) (nI b) T w td wr (nI c) lf lt cd op cm (nI d) := by
    intro hx
    have hlv : lv = 0 := by
      rcases hx with e | e <;> rw [(lvl_of e).1] at hl <;> rw [← hl] <;> decide
    have g2 : ∀ v : Nat, inf (hdt L) = v → kl_X8_readsE_415 (nI ts.length) t cs nm (nI li) (ll_X8_readsE_21 (nI ts.length) t cs nm (nI li) Φ n) Φ (nI q) (nI b) T w td wr (nI c) lf lt cd op cm (nI d) (nI v) := by
      intro v hv
      refine sq8_puts (by omega) ?_
      rw [nI_clamp (n := d) (by omega)]
      exact fun _ => go v _ hv (fun j hj => pk_un hj) (fun e => absurd e (by omega)) (fun e => absurd e (by omega)) (fun _ => by rw [pk_us]; exact bo_0)
    exact sq8_word 17 (by decide) rfl h (fun e => ⟨fun z => absurd z (by (try dsimp only); decide), fun _ => g2 26 (lvl_of (show ix (hdt L) = 29 from e)).2⟩) (fun e => ⟨fun _ => g2 27 (lvl_of (show ix (hdt L) = 30 from by omega)).2, fun z => absurd rfl z⟩)
  show bl_X8_readsE_21 _ _ _ _ _ _ _ _ _ _ _ _ _ _ _ _ _ _ _ _ _
  refine ⟨fun _ => ?_, fun z => absurd rfl z⟩
  refine sq8_sign 43 (by decide) (by decide) hT h (fun e => ⟨fun _ => k279 (Or.inl e), fun z => absurd z (by (try dsimp only); decide)⟩) (fun n9 => ⟨fun z => absurd rfl z, fun _ => ?_⟩)
  refine sq8_sign 45 (by decide) (by decide) hT h (fun e => ⟨fun _ => k279 (Or.inr (Or.inl e)), fun z => absurd z (by (try dsimp only); decide)⟩) (fun n10 => ⟨fun z => absurd rfl z, fun _ => ?_⟩)
  refine sq8_sign 42 (by decide) (by decide) hT h (fun e => ⟨fun z => absurd z (by (try dsimp only); decide), fun _ => k279 (Or.inr (Or.inr e))⟩) (fun n11 => ⟨fun _ => ?_, fun z => absurd rfl z⟩)
  refine sq8_sign 60 (by decide) (by decide) hT h (fun e => ⟨fun _ => k336 0 (Or.inl e), fun z => absurd z (by (try dsimp only); decide)⟩) (fun n7 => ⟨fun z => absurd rfl z, fun _ => ?_⟩)
  refine sq8_sign 61 (by decide) (by decide) hT h (fun e => ⟨fun z => absurd z (by (try dsimp only); decide), fun _ => k336 0 (Or.inr e)⟩) (fun n8 => ⟨fun _ => ?_, fun z => absurd rfl z⟩)
  have n9 : ¬ ix (hdt L) = 9 := n9
  have n10 : ¬ ix (hdt L) = 10 := n10
  have n11 : ¬ ix (hdt L) = 11 := n11
  have n7 : ¬ ix (hdt L) = 7 := n7
  have n8 : ¬ ix (hdt L) = 8 := n8
  have k9 := k397 (by omega)
  exact sq8_word 17 (by decide) rfl h (fun _ => ⟨fun _ => k9, fun z => absurd z (by (try dsimp only); decide)⟩) (fun e29 => ⟨fun z => absurd rfl z, fun _ => sq8_word 18 (by decide) rfl h (fun _ => ⟨fun z => absurd z (by (try dsimp only); decide), fun _ => k9⟩) (fun e30 => absurd (show 29 = 29 from rfl) (by omega))⟩)
/-- at a token that joins nothing: the way to 377 -/
theorem re_377 {q b : Nat} {T : Int32} {w : Int64} {td : Int32} (hT : TL ts t) (h : RR ts L q b T w td) (hd : d ≤ 1000) (h3 : lvl (hdt L) ≠ 3) (h2 : lvl (hdt L) ≠ 2) (h1 : lvl (hdt L) ≠ 1 ∨ ¬ cm d = 0) (k : kl_X8_readsE_377 (nI ts.length) t cs nm (nI li) (ll_X8_readsE_21 (nI ts.length) t cs nm (nI li) Φ n) Φ (nI q) (nI b) T w td wr (nI c) lf lt cd op cm (nI d) 0) : ll_X8_readsE_21 (nI ts.length) t cs nm (nI li) Φ (n + 1) (nI q) (nI b) T w td wr (nI c) lf lt cd op cm (nI d) 0 := by
  have no : ∀ i : Nat, lvT.getD i 4 = 3 ∨ lvT.getD i 4 = 2 → ¬ ix (hdt L) = i := fun i hi e => by
    have := (lvl_of e).1
    omega
  have k336 : lvl (hdt L) = 1 → kl_X8_readsE_336 (nI ts.length) t cs nm (nI li) (ll_X8_readsE_21 (nI ts.length) t cs nm (nI li) Φ n) Φ (nI q) (nI b) T w td wr (nI c) lf lt cd op cm (nI d) 0 := by
    intro e
    unfold kl_X8_readsE_336
    rw [nI_clamp (n := d) (by omega)]
    exact fun _ => ⟨fun _ => k, fun z => absurd z (h1.resolve_left (fun y => y e))⟩
  show bl_X8_readsE_21 _ _ _ _ _ _ _ _ _ _ _ _ _ _ _ _ _ _ _ _ _
  refine ⟨fun _ => ?_, fun z => absurd rfl z⟩
  refine sq8_sign 43 (by decide) (by decide) hT h (fun e => absurd e (no 9 (by decide))) (fun _ => ⟨fun z => absurd rfl z, fun _ => ?_⟩)
  refine sq8_sign 45 (by decide) (by decide) hT h (fun e => absurd e (no 10 (by decide))) (fun _ => ⟨fun z => absurd rfl z, fun _ => ?_⟩)
  refine sq8_sign 42 (by decide) (by decide) hT h (fun e => absurd e (no 11 (by decide))) (fun _ => ⟨fun _ => ?_, fun z => absurd rfl z⟩)
  refine sq8_sign 60 (by decide) (by decide) hT h (fun e => ⟨fun _ => k336 (lvl_of (show ix (hdt L) = 7 from e)).1, fun z => absurd z (by (try dsimp only); decide)⟩) (fun _ => ⟨fun z => absurd rfl z, fun _ => ?_⟩)
  exact sq8_sign 61 (by decide) (by decide) hT h (fun e => ⟨fun z => absurd z (by (try dsimp only); decide), fun _ => k336 (lvl_of (show ix (hdt L) = 8 from e)).1⟩) (fun _ => ⟨fun _ => k, fun z => absurd rfl z⟩)
/-- behind the last operand, outside of brackets: the end -/
theorem re_end {n : Nat} (hT : TL ts t) (hli : li < 192) (h3 : lvl (hdt L) ≠ 3) (h2 : lvl (hdt L) ≠ 2) (h1 : lvl (hdt L) ≠ 1 ∨ ¬ cm 0 = 0) (h0 : lvl (hdt L) ≠ 0) (fin : ∀ (q b : Nat) (T : Int32) (w : Int64) (td : Int32), RR ts L q b T w td → Φ 1 (nI q) (nI b) T w td wr (nI c) lf (upd lt li (nI c)) cd op cm) : LP8 ts t cs nm li Φ lf lt wr n 0 L c cd op cm 0 := by
  intro q b T w td h
  cases n with
  | zero => trivial
  | succ n =>
    have out : kl_X8_readsE_472 (nI ts.length) t cs nm (nI li) Φ (nI q) (nI b) T w td wr (nI c) lf lt cd op cm (nI 0) := by
      unfold kl_X8_readsE_472
      rw [nI_clamp (n := li) (by omega)]
      exact ⟨fun _ _ => fin q b T w td h, fun z => absurd (by decide) z⟩
    refine re_377 hT h (by decide) h3 h2 h1 ?_
    refine sq8_word 17 (by decide) rfl h (fun e => absurd (lvl_of (show ix (hdt L) = 29 from e)).1 (fun y => h0 y)) (fun _ => ⟨fun z => absurd rfl z, fun _ => ?_⟩)
    refine sq8_word 18 (by decide) rfl h (fun e => absurd (lvl_of (show ix (hdt L) = 30 from e)).1 (fun y => h0 y)) (fun _ => ⟨fun _ => ?_, fun z => absurd rfl z⟩)
    exact sq8_sign 41 (by decide) (by decide) hT h (fun e => ⟨fun z => absurd z (by (try dsimp only); decide), fun _ => ⟨fun _ => out, fun z => absurd (by decide) z⟩⟩) (fun _ => ⟨fun _ => out, fun z => absurd rfl z⟩)
theorem re_pop452 {n : Nat} {q b : Nat} {T : Int32} {w : Int64} {td : Int32} (hT : TL ts t) (h : RR ts L q b T w td) : ∀ (k : Nat) (M : List Bool), M.length ≤ 1000 → OP op M → LP8 ts t cs nm li Φ lf lt wr n (popN M).length (adv L) c cd op cm 0 → ll_X8_readsE_452 (nI ts.length) t cs nm (nI li) (ll_X8_readsE_21 (nI ts.length) t cs nm (nI li) Φ n) Φ k (nI q) (nI b) T w td wr (nI c) lf lt cd op cm (nI M.length) 0 := by
  intro k
  induction k with
  | zero => intros; trivial
  | succ k ih =>
    intro M hM hO hL
    show bl_X8_readsE_452 _ _ _ _ _ _ _ _ _ _ _ _ _ _ _ _ _ _ _ _ _ _
    unfold bl_X8_readsE_452
    rw [nI_clamp (n := M.length) (by omega)]
    cases M with
    | nil => exact ⟨fun _ => sq8_next hT h (fun q' b' T' w' td' h' => hL q' b' T' w' td' h'), fun z => absurd (by decide) z⟩
    | cons x M =>
      have hl : (x :: M).length = M.length + 1 := rfl
      rw [hl] at hM ⊢
      refine ⟨fun z => absurd z (nI_nle (by omega) (by omega)), fun _ _ => ?_⟩
      cases x with
      | true => exact ⟨fun z => absurd hO.1 z, fun _ => by rw [pk_m1]; exact ih M (by omega) hO.2 hL⟩
      | false => exact ⟨fun _ => sq8_next hT h (fun q' b' T' w' td' h' => hL q' b' T' w' td' h'), fun z => absurd (hO.1.symm.trans z) (by decide)⟩
theorem re_pop229 {n : Nat} {q b : Nat} {T : Int32} {w : Int64} {td : Int32} (hT : TL ts t) (h : RR ts L q b T w td) : ∀ (k : Nat) (M : List Bool), M.length ≤ 1000 → OP op M → LP8 ts t cs nm li Φ lf lt wr n (popN M).length (adv L) c cd op cm 0 → ll_X8_readsE_229 (nI ts.length) t cs nm (nI li) (ll_X8_readsE_21 (nI ts.length) t cs nm (nI li) Φ n) Φ k (nI q) (nI b) T w td wr (nI c) lf lt cd op cm (nI M.length) 0 := by
  intro k
  induction k with
  | zero => intros; trivial
  | succ k ih =>
    intro M hM hO hL
    show bl_X8_readsE_229 _ _ _ _ _ _ _ _ _ _ _ _ _ _ _ _ _ _ _ _ _ _
    unfold bl_X8_readsE_229
    rw [nI_clamp (n := M.length) (by omega)]
    cases M with
    | nil => exact ⟨fun _ => sq8_next hT h (fun q' b' T' w' td' h' => hL q' b' T' w' td' h'), fun z => absurd (by decide) z⟩
    | cons x M =>
      have hl : (x :: M).length = M.length + 1 := rfl
      rw [hl] at hM ⊢
      refine ⟨fun z => absurd z (nI_nle (by omega) (by omega)), fun _ _ => ?_⟩
      cases x with
      | true => exact ⟨fun z => absurd hO.1 z, fun _ => by rw [pk_m1]; exact ih M (by omega) hO.2 hL⟩
      | false => exact ⟨fun _ => sq8_next hT h (fun q' b' T' w' td' h' => hL q' b' T' w' td' h'), fun z => absurd (hO.1.symm.trans z) (by decide)⟩
/-- inside of brackets, behind the last operand -/
theorem re_close {n : Nat} {S : List Bool} (hT : TL ts t) (hS : S.length ≤ 100) (hO : OP op (false :: S)) (hc : c < 2000) (h3 : lvl (hdt L) ≠ 3) (h2 : lvl (hdt L) ≠ 2) (h1 : lvl (hdt L) ≠ 1 ∨ ¬ cm (S.length + 1) = 0) (h0 : lvl (hdt L) ≠ 0) (bad : ¬ ix (hdt L) = 5 → FL8 Φ lf lt (flt 1 L) c cd) (good : ix (hdt L) = 5 → ∀ n' cd', CW c [29] cd cd' → LP8 ts t cs nm li Φ lf lt wr n' (popN S).length (adv L) (c + 1) cd' op cm 0) : LP8 ts t cs nm li Φ lf lt wr n (S.length + 1) L c cd op cm 0 := by
  intro q b T w td h
  cases n with
  | zero => trivial
  | succ n =>
    refine re_377 hT h (by omega) h3 h2 h1 ?_
    have npos : ¬ nI (S.length + 1) ≤ 0 := nI_nle (by omega) (by omega)
    have out : ¬ ix (hdt L) = 5 → kl_X8_readsE_472 (nI ts.length) t cs nm (nI li) Φ (nI q) (nI b) T w td wr (nI c) lf lt cd op cm (nI (S.length + 1)) := by
      intro n5
      refine ⟨fun z => absurd z npos, fun _ => ?_⟩
      show ((0 : Int32) = 0 ∨ (0 : Int32) = 1) → _
      have e : (1 : Int32) + 16 * nI b = nI (flt 1 L) := h.fltZ 1
      rw [e]
      exact fun _ => bad n5 _ _ _ _ _ _ _ _ _ (fun j _ => rfl)
    refine sq8_word 17 (by decide) rfl h (fun e => absurd (lvl_of (show ix (hdt L) = 29 from e)).1 (fun y => h0 y)) (fun _ => ⟨fun z => absurd rfl z, fun _ => ?_⟩)
    refine sq8_word 18 (by decide) rfl h (fun e => absurd (lvl_of (show ix (hdt L) = 30 from e)).1 (fun y => h0 y)) (fun _ => ⟨fun _ => ?_, fun z => absurd rfl z⟩)
    refine sq8_sign 41 (by decide) (by decide) hT h (fun e => ⟨fun z => absurd z (by (try dsimp only); decide), fun _ => ⟨fun z => absurd z npos, fun _ => ?_⟩⟩) (fun n5 => ⟨fun _ => out n5, fun z => absurd rfl z⟩)
    refine sq8_puts (by omega) ?_
    rw [pk_m1]
    exact fun k => re_pop452 hT h k S (by omega) hO.2 (good e n _ (CW.one (v := 29) hc))
end ST8
end RE8
end
section
section SM9
variable {ts : List Nat} {t : Nat → Int32} {cs : Nat → Int32} {nm : Nat → Int64} {li : Nat} {Φ : PE} {lf lt : Nat → Int32} {wr : Int32} {cn : List (List Nat)}
/-- what is known where an expression of a level ends -/
def QC (lv d : Nat) (cm cm' : Nat → Int32) (L : List Tok) : Prop := (∀ j, j < d → cm' j = cm j) ∧ (2 ≤ lv → cm' d = cm d) ∧ (lv ≤ 3 → lvl (hdt L) ≠ 3) ∧ (lv ≤ 2 → lvl (hdt L) ≠ 2) ∧ (lv ≤ 1 → lvl (hdt L) ≠ 1 ∨ ¬ cm' d = 0) ∧ (lv = 0 → lvl (hdt L) ≠ 0)
/-- the loop does what g does, with the brackets S, and behind it S' -/
def SM8 (ts : List Nat) (t cs : Nat → Int32) (nm : Nat → Int64) (li : Nat) (Φ : PE) (lf lt : Nat → Int32) (wr : Int32) (g : List Tok → PRs EC) (S S' : List Bool) (lv : Nat) : Prop := ∀ (n : Nat) (L : List Tok) (c : Nat) (cd op cm : Nat → Int32), WT L → OP op S → 1000 ≤ c → c + L.length ≤ 2000 → (lv ≤ 1 → cm S.length = 0) → (∀ e, g L = .inl e → FL8 Φ lf lt e c cd) → (∀ (i p : List Nat) (L' : List Tok), g L = .inr ((i, p), L') → i.length + L'.length = L.length → WT L' → ∀ n' cd' op' cm', CW c i cd cd' → OP op' S' → QC lv S.length cm cm' L' → LP8 ts t cs nm li Φ lf lt wr n' S'.length L' (c + i.length) cd' op' cm' 0) → LP8 ts t cs nm li Φ lf lt wr n S.length L c cd op cm 1
theorem re_part {gE gP : List Tok → PRs EC} {S : List Bool} (hT : TL ts t) (hN : NB cn nm) (hk : cs 1 = nI cn.length) (hS : S.length ≤ 5) (hE : S.length < 5 → SM8 ts t cs nm li Φ lf lt wr gE (false :: S) (false :: S) 0) (hP : S.length < 5 → SM8 ts t cs nm li Φ lf lt wr gP (true :: S) (popN S) 4) : SM8 ts t cs nm li Φ lf lt wr (pPa cn gE gP S.length) S (popN S) 4 := by
  intro n L c cd op cm hW hO hc1 hc2 _ hbad hgood q b T w td h
  cases n with
  | zero => trivial
  | succ n =>
    have hL1 : 1 ≤ L.length := lpos hW.ne
    have hadv := hW.advZ
    have hlen : ∀ j : Nat, 0 < j → ix (hdt L) = j → (adv L).length + 1 = L.length := fun j hj e => hadv.2.2 (fun z => by rw [ix_0.mpr z] at e; omega)
    -- a fault here
    have bad : ∀ k : Nat, pPa cn gE gP S.length L = .inl (flt k L) → ((nI 0 = 0 ∨ nI 0 = 1) → Φ 0 (nI q) (nI b) T w td (nI k + 16 * nI b) (nI c) lf lt cd op cm) := by
      intro k hg _
      rw [h.fltZ]
      exact hbad _ hg _ _ _ _ _ _ _ _ _ (fun j _ => rfl)
    -- an operand
    have val : ∀ (v : Nat) (p : List Nat), 0 < ix (hdt L) → pPa cn gE gP S.length L = .inr (([v], p), adv L) → wl_X8_puts (nI v) (nI c) cd (fun c' cd' => ∀ k, ll_X8_readsE_229 (nI ts.length) t cs nm (nI li) (ll_X8_readsE_21 (nI ts.length) t cs nm (nI li) Φ n) Φ k (nI q) (nI b) T w td wr c' lf lt cd' op cm (nI S.length) 0) := by
      intro v p h0 hg
      have hl := hlen _ h0 rfl
      refine sq8_puts (by omega) (fun k => re_pop229 hT h k S (by omega) hO ?_)
      exact hgood [v] p _ hg (by show 1 + _ = _; omega) hadv.1 n _ _ _ (CW.one (by omega)) (OP_pop hO) ⟨fun _ _ => rfl, fun _ => rfl, fun z => absurd z (by (try dsimp only); decide), fun z => absurd z (by (try dsimp only); decide), fun z => absurd z (by (try dsimp only); decide), fun z => absurd z (by (try dsimp only); decide)⟩
    -- not, worn, a bracket
    have opn : ∀ (v x : Nat), 0 < ix (hdt L) → (∀ cd' op' cm', CW c [v] cd cd' → OP op' S → op' (S.length + 1) = nI x → (∀ j, j ≤ S.length → cm' j = cm j) → cm' (S.length + 1) = 0 → LP8 ts t cs nm li Φ lf lt wr n (S.length + 1) (adv L) (c + 1) cd' op' cm' 1) → ∀ l3 : Int32, l3 = 1 → wl_X8_puts (nI v) (nI c) cd (fun c' cd' => kl_X8_readsE_191 (nI ts.length) t cs nm (nI li) (ll_X8_readsE_21 (nI ts.length) t cs nm (nI li) Φ n) Φ (nI q) (nI b) T w td wr c' lf lt cd' op cm (nI S.length + 1) l3 (nI x) (nI S.length + 1)) := by
      intro v x h0 hn l3 hl3
      subst hl3
      refine sq8_puts (by omega) ?_
      unfold kl_X8_readsE_191
      rw [nI_1, nI_clamp (n := S.length + 1) (by omega)]
      refine fun _ _ => sq8_next hT h (fun q' b' T' w' td' h' => hn _ _ _ (CW.one (by omega)) (OP_upd hO (by omega)) pk_us (fun j hj => pk_un (by omega)) (by rw [pk_us]; exact bo_0) q' b' T' w' td' h')
    have d5 : nI S.length = 5 ↔ S.length = 5 := nI_eq (a := S.length) (b := 5) (by omega) (by decide)
    show bl_X8_readsE_21 _ _ _ _ _ _ _ _ _ _ _ _ _ _ _ _ _ _ _ _ _
    refine ⟨fun z => absurd z (by (try dsimp only); decide), fun _ => ?_⟩
    by_cases e3 : ix (hdt L) = 3
    · -- a name
      have k1 := (ix_3 e3).1
      obtain ⟨w1, w2, w3⟩ := h.ix1 k1
      refine sq8_kept h (fun z => absurd e3 z) (fun _ => ⟨fun z => absurd rfl z, fun _ => ?_⟩)
      have hto : pTold cn L = match fnd cn (hdt L).2.2 with | none => .inl (flt 2 L) | some c => .inr (c, L) := if_pos e3
      have hpa : pPa cn gE gP S.length L = bnd (pTold cn L) fun y => if 5 ≤ S.length then .inl (flt 5 L) else .inr (([1 + y.1], [1 + 16 * y.1]), adv L) := if_pos e3
      have k121 : ∀ j, fnd cn (hdt L).2.2 = some j → kl_X8_readsE_121 (nI ts.length) t cs nm (nI li) (ll_X8_readsE_21 (nI ts.length) t cs nm (nI li) Φ n) Φ (nI q) (nI b) T w td wr (nI c) lf lt cd op cm (nI S.length) 1 1 0 0 := by
        intro j hj
        rw [hto, hj, bnd_r] at hpa
        refine ⟨fun n5 => ⟨fun z => absurd rfl z, fun _ => ⟨fun _ => ⟨fun z => absurd z (by (try dsimp only); decide), fun _ => ?_⟩, fun z => absurd rfl z⟩⟩, fun e5 => ?_⟩
        · rw [d5] at n5
          rw [if_neg (by omega)] at hpa
          rw [w2]
          refine sq8_cellOf hN hk w3 (fun z => by rw [hj] at z; cases z) (fun j' hj' => ?_)
          rw [hj] at hj'
          have ej := Option.some.inj hj'
          subst ej
          rw [show (1 : Int32) = nI 1 from rfl, nI_add]
          rw [← w2]
          exact val (1 + j) _ (by omega) hpa
        · rw [d5] at e5
          rw [if_pos (by omega)] at hpa
          exact bad 5 hpa
      have k103 : kl_X8_readsE_103 (nI ts.length) t cs nm (nI li) (ll_X8_readsE_21 (nI ts.length) t cs nm (nI li) Φ n) Φ (nI q) (nI b) T w td wr (nI c) lf lt cd op cm (nI S.length) 1 1 0 0 := by
        refine ⟨fun z => absurd z (by (try dsimp only); decide), fun _ => ?_⟩
        have hk2 := hN.1
        have w2' := w2
        subst w2'
        refine sq8_cellOf hN hk w3 (fun z => ⟨fun y => absurd y (by (try dsimp only); decide), fun _ => ?_⟩) (fun j hj => ⟨fun _ => k121 j hj, fun y => absurd (nI_pos' (n := j) (by have := fnd_lt hj; omega)) y⟩)
        rw [hto, z] at hpa
        exact bad 2 hpa
      have k64 : kl_X8_readsE_64 (nI ts.length) t cs nm (nI li) (ll_X8_readsE_21 (nI ts.length) t cs nm (nI li) Φ n) Φ (nI q) (nI b) T w td wr (nI c) lf lt cd op cm (nI S.length) 1 1 0 := by
        exact sq8_sign 40 (by decide) (by decide) hT h (fun e => by rw [e3] at e; exact absurd e (by (try dsimp only); decide)) (fun _ => ⟨fun _ => k103, fun z => absurd z (by (try dsimp only); decide)⟩)
      exact sq8_word 16 (by decide) rfl h (fun e => by omega) (fun _ => ⟨fun z => absurd rfl z, fun _ => sq8_word 15 (by decide) rfl h (fun e => by omega) (fun _ => ⟨fun _ => k64, fun z => absurd rfl z⟩)⟩)
    · refine sq8_kept h (fun _ => ⟨fun _ => ?_, fun z => absurd z (by (try dsimp only); decide)⟩) (fun z => absurd z e3)
      -- depth: one more, or too deep
      have deep : ix (hdt L) = 2 ∨ ix (hdt L) = 4 ∨ ix (hdt L) = 27 ∨ ix (hdt L) = 28 → 5 ≤ S.length → pPa cn gE gP S.length L = .inl (flt 5 L) := by
        intro h4 h5
        unfold pPa
        rw [if_neg e3, if_pos h4, if_pos h5]
      have shal : ix (hdt L) = 2 ∨ ix (hdt L) = 4 ∨ ix (hdt L) = 27 ∨ ix (hdt L) = 28 → ¬ 5 ≤ S.length → pPa cn gE gP S.length L = if ix (hdt L) = 2 then .inr (([100 + num (hdt L)], [16 * num (hdt L)]), adv L) else if ix (hdt L) = 4 then bnd (gE (adv L)) fun s => (if ix (hdt s.2) = 5 then .inr ((28 :: (s.1.1 ++ [29]), s.1.2), adv s.2) else .inl (flt 1 s.2)) else bnd (gP (adv L)) fun s => .inr (((if ix (hdt L) = 27 then 31 else 30) :: s.1.1, s.1.2 ++ [if ix (hdt L) = 27 then 2 else 3]), s.2) := by
        intro h4 h5
        unfold pPa
        rw [if_neg e3, if_pos h4, if_neg h5]
      -- not and worn
      have pre : ∀ (v : Nat), (v = if ix (hdt L) = 27 then 31 else 30) → (ix (hdt L) = 27 ∨ ix (hdt L) = 28) → S.length < 5 → kl_X8_readsE_170 (nI ts.length) t cs nm (nI li) (ll_X8_readsE_21 (nI ts.length) t cs nm (nI li) Φ n) Φ (nI q) (nI b) T w td wr (nI c) lf lt cd op cm (nI S.length) 1 1 (nI v) := by
        intro v hv hx h5
        have hg := shal (by omega) (by omega)
        rw [if_neg (by omega), if_neg (by omega), ← hv] at hg
        have hl := hlen _ (by omega) rfl
        have key := opn v 1 (by omega) (fun cd' op' cm' hw hO' ho1 hcm hcm1 => by
          refine hP h5 n (adv L) (c + 1) cd' op' cm' hadv.1 ⟨ho1, hO'⟩ (by omega) (by omega) (fun z => absurd z (by (try dsimp only); decide)) (fun e he => ?_) (fun i p L' he hil hW' n' cd2 op2 cm2 hw2 hO2 hq => ?_)
          · exact (hbad e (by rw [hg, he]; rfl)).mono hw
          · have hf := hgood (v :: i) _ L' (by rw [hg, he]; rfl) (by show i.length + 1 + _ = _; omega) hW' n' cd2 op2 cm2 (hw.app hw2) hO2 ⟨fun j hj => (hq.1 j (by show j < S.length + 1; omega)).trans (hcm j (by omega)), fun _ => (hq.1 S.length (Nat.lt_succ_self _)).trans (hcm _ (Nat.le_refl _)), fun z => absurd z (by (try dsimp only); decide), fun z => absurd z (by (try dsimp only); decide), fun z => absurd z (by (try dsimp only); decide), fun z => absurd z (by (try dsimp only); decide)⟩
            have e9 : c + (v :: i).length = c + 1 + i.length := by rw [List.length_cons]; omega
            rw [e9] at hf
            exact hf) 1 rfl
        have k170 : kl_X8_readsE_170 (nI ts.length) t cs nm (nI li) (ll_X8_readsE_21 (nI ts.length) t cs nm (nI li) Φ n) Φ (nI q) (nI b) T w td wr (nI c) lf lt cd op cm (nI S.length) 1 1 (nI v) := by
          unfold kl_X8_readsE_170
          unfold wl_X8_puts at key ⊢
          exact fun z => ⟨fun y => absurd y (by (try dsimp only); decide), fun _ => key z⟩
        exact k170
      by_cases e28 : ix (hdt L) = 28
      · have k142 : S.length < 5 → kl_X8_readsE_142 (nI ts.length) t cs nm (nI li) (ll_X8_readsE_21 (nI ts.length) t cs nm (nI li) Φ n) Φ (nI q) (nI b) T w td wr (nI c) lf lt cd op cm (nI S.length) 1 1 0 := fun h5 => ⟨fun _ => sq8_word 16 (by decide) rfl h (fun _ => ⟨fun z => absurd z (by (try dsimp only); decide), fun _ => pre 30 (by rw [if_neg (by omega)]) (Or.inr e28) h5⟩) (fun z => absurd e28 z), fun z => absurd rfl z⟩
        have k121 : kl_X8_readsE_121 (nI ts.length) t cs nm (nI li) (ll_X8_readsE_21 (nI ts.length) t cs nm (nI li) Φ n) Φ (nI q) (nI b) T w td wr (nI c) lf lt cd op cm (nI S.length) 1 0 1 0 := by
          refine ⟨fun n5 => ?_, fun e5 => ?_⟩
          · rw [d5] at n5
            exact ⟨fun _ => k142 (by omega), fun z => absurd z (by (try dsimp only); decide)⟩
          · rw [d5] at e5
            exact bad 5 (deep (by omega) (by omega))
        exact sq8_word 16 (by decide) rfl h (fun _ => ⟨fun _ => sq8_sign 40 (by decide) (by decide) hT h (fun e => by have e : ix (hdt L) = 4 := e; omega) (fun _ => ⟨fun z => absurd rfl z, fun _ => ⟨fun _ => ⟨fun _ => k121, fun z => absurd rfl z⟩, fun z => absurd z (by (try dsimp only); decide)⟩⟩), fun z => absurd z (by (try dsimp only); decide)⟩) (fun z => absurd e28 z)
      refine sq8_word 16 (by decide) rfl h (fun z => absurd z e28) (fun _ => ⟨fun z => absurd rfl z, fun _ => ?_⟩)
      by_cases e27 : ix (hdt L) = 27
      · have k142 : S.length < 5 → kl_X8_readsE_142 (nI ts.length) t cs nm (nI li) (ll_X8_readsE_21 (nI ts.length) t cs nm (nI li) Φ n) Φ (nI q) (nI b) T w td wr (nI c) lf lt cd op cm (nI S.length) 1 1 0 := fun h5 => ⟨fun _ => sq8_word 16 (by decide) rfl h (fun z => absurd z e28) (fun _ => ⟨fun _ => pre 31 (by rw [if_pos e27]) (Or.inl e27) h5, fun z => absurd rfl z⟩), fun z => absurd rfl z⟩
        have k121 : kl_X8_readsE_121 (nI ts.length) t cs nm (nI li) (ll_X8_readsE_21 (nI ts.length) t cs nm (nI li) Φ n) Φ (nI q) (nI b) T w td wr (nI c) lf lt cd op cm (nI S.length) 1 0 1 0 := by
          refine ⟨fun n5 => ?_, fun e5 => ?_⟩
          · rw [d5] at n5
            exact ⟨fun _ => k142 (by omega), fun z => absurd z (by (try dsimp only); decide)⟩
          · rw [d5] at e5
            exact bad 5 (deep (by omega) (by omega))
        exact sq8_word 15 (by decide) rfl h (fun _ => ⟨fun z => absurd z (by (try dsimp only); decide), fun _ => sq8_sign 40 (by decide) (by decide) hT h (fun e => by have e : ix (hdt L) = 4 := e; omega) (fun _ => ⟨fun z => absurd rfl z, fun _ => ⟨fun _ => ⟨fun _ => k121, fun z => absurd rfl z⟩, fun z => absurd z (by (try dsimp only); decide)⟩⟩)⟩) (fun z => absurd e27 z)
      refine sq8_word 15 (by decide) rfl h (fun z => absurd z e27) (fun _ => ⟨fun _ => ?_, fun z => absurd rfl z⟩)
      by_cases e4 : ix (hdt L) = 4
      · have k170 : S.length < 5 → kl_X8_readsE_170 (nI ts.length) t cs nm (nI li) (ll_X8_readsE_21 (nI ts.length) t cs nm (nI li) Φ n) Φ (nI q) (nI b) T w td wr (nI c) lf lt cd op cm (nI S.length) 1 0 (nI 28) := by
          intro h5
          have hg := shal (by omega) (by omega)
          rw [if_neg (by omega), if_pos e4] at hg
          have hl := hlen _ (by omega) rfl
          have key := opn 28 2 (by omega) (fun cd' op' cm' hw hO' ho1 hcm hcm1 => by
            refine hE h5 n (adv L) (c + 1) cd' op' cm' hadv.1 ⟨ho1, hO'⟩ (by omega) (by omega) (fun _ => hcm1) (fun e he => ?_) (fun i p L' he hil hW' n' cd2 op2 cm2 hw2 hO2 hq => ?_)
            · exact (hbad e (by rw [hg, he]; rfl)).mono hw
            · have hL' : 1 ≤ L'.length := lpos hW'.ne
              rw [he, bnd_r] at hg
              have hw3 : CW c (28 :: i) cd cd2 := hw.app hw2
              refine re_close hT (by omega) hO2 (by omega) (hq.2.2.1 (by decide)) (hq.2.2.2.1 (by decide)) (hq.2.2.2.2.1 (by decide)) (hq.2.2.2.2.2 rfl) (fun n5 => ?_) (fun e5 n'' cd3 hw4 => ?_)
              · have hb := hbad _ (hg.trans (if_neg n5))
                have := hb.mono hw3
                rw [show c + (28 :: i).length = c + 1 + i.length by rw [List.length_cons]; omega] at this
                exact this
              · have hl5 := hW'.advZ.2.2 (fun z => by have := ix_0.mpr z; omega)
                have hg5 := hg.trans (if_pos e5)
                have hw5 : CW (c + (28 :: i).length) [29] cd2 cd3 := by rw [show c + (28 :: i).length = c + 1 + i.length by rw [List.length_cons]; omega]; exact hw4
                have hf := hgood (28 :: (i ++ [29])) _ (adv L') hg5 (by rw [List.length_cons, List.length_append]; show i.length + 1 + 1 + _ = _; omega) hW'.advZ.1 n'' cd3 op2 cm2 (hw3.app hw5) (OP_pop hO2.2) ⟨fun j hj => (hq.1 j (by show j < S.length + 1; omega)).trans (hcm j (by omega)), fun _ => (hq.1 S.length (Nat.lt_succ_self _)).trans (hcm _ (Nat.le_refl _)), fun z => absurd z (by (try dsimp only); decide), fun z => absurd z (by (try dsimp only); decide), fun z => absurd z (by (try dsimp only); decide), fun z => absurd z (by (try dsimp only); decide)⟩
                rw [show c + (28 :: (i ++ [29])).length = c + 1 + i.length + 1 by rw [List.length_cons, List.length_append]; show c + (i.length + 1 + 1) = _; omega] at hf
                exact hf) 1 rfl
          unfold kl_X8_readsE_170
          unfold wl_X8_puts at key ⊢
          exact fun z => ⟨fun _ => key z, fun y => absurd rfl y⟩
        have k121 : kl_X8_readsE_121 (nI ts.length) t cs nm (nI li) (ll_X8_readsE_21 (nI ts.length) t cs nm (nI li) Φ n) Φ (nI q) (nI b) T w td wr (nI c) lf lt cd op cm (nI S.length) 1 0 0 1 := by
          refine ⟨fun n5 => ?_, fun e5 => ?_⟩
          · rw [d5] at n5
            exact ⟨fun z => absurd rfl z, fun _ => ⟨fun z => absurd z (by (try dsimp only); decide), fun _ => ⟨fun z => absurd z (by (try dsimp only); decide), fun _ => k170 (by omega)⟩⟩⟩
          · rw [d5] at e5
            exact bad 5 (deep (by omega) (by omega))
        exact sq8_sign 40 (by decide) (by decide) hT h (fun _ => ⟨fun z => absurd rfl z, fun _ => ⟨fun z => absurd rfl z, fun _ => ⟨fun _ => ⟨fun _ => k121, fun z => absurd rfl z⟩, fun z => absurd z (by (try dsimp only); decide)⟩⟩⟩) (fun z => absurd e4 z)
      refine sq8_sign 40 (by decide) (by decide) hT h (fun z => absurd z e4) (fun _ => ⟨fun z => absurd rfl z, fun _ => ⟨fun z => absurd rfl z, fun _ => ⟨fun z => absurd rfl z, fun _ => ?_⟩⟩⟩)
      have e2 : T = 2 ↔ (hdt L).1 = 2 := h.tT 2 (by decide)
      refine ⟨fun z => ⟨fun _ => ⟨fun n5 => ?_, fun e5 => ?_⟩, fun z => absurd rfl z⟩, fun z => ?_⟩
      · have k2 := e2.mp z
        have i2 : ix (hdt L) = 2 := by
          unfold ix
          rw [if_neg (by omega), if_neg (by omega), if_pos k2]
        rw [d5] at n5
        refine ⟨fun z => absurd rfl z, fun _ => ⟨fun _ => ⟨fun _ => ?_, fun z => absurd rfl z⟩, fun z => absurd rfl z⟩⟩
        have hn := h.VTZ.numZ k2
        rw [h.CRZ.2.2.2.2.2.2.2.2.1 k2, hn.1, show (100 : Int32) = nI 100 from rfl, nI_add]
        have hv := val (100 + num (hdt L)) _ (by omega) ((shal (by omega) (by omega)).trans (if_pos i2))
        rw [h.CRZ.2.2.2.2.2.2.2.2.1 k2, hn.1] at hv
        exact hv
      · have k2 := e2.mp z
        have i2 : ix (hdt L) = 2 := by
          unfold ix
          rw [if_neg (by omega), if_neg (by omega), if_pos k2]
        rw [d5] at e5
        exact bad 5 (deep (by omega) (by omega))
      · refine bad 1 ?_
        have n2 : ¬ ix (hdt L) = 2 := fun y => z (e2.mpr (ix_2 y))
        unfold pPa
        rw [if_neg e3, if_neg (by omega)]
theorem re_loop {g1 : List Tok → PRs EC} {S : List Bool} {lv c0 K : Nat} {cd0 cm0 : Nat → Int32} (hT : TL ts t) (hS : S.length ≤ 5) (hlv : lv < 4) (hg : SM8 ts t cs nm li Φ lf lt wr g1 S S (lv + 1)) : ∀ (m n : Nat) (L : List Tok) (i p : List Nat) (cd op cm : Nat → Int32), WT L → OP op S → 1000 ≤ c0 → c0 + i.length + L.length ≤ 2000 → i.length + L.length = K → (lv ≠ 1 → L.length ≤ m) → (lv = 1 → m ≤ 1 ∧ (m = 0 → ¬ cm S.length = 0) ∧ (m = 1 → cm S.length = 0)) → (lv = 0 → True) → CW c0 i cd0 cd → QC (lv + 1) S.length cm cm L → (∀ j, j < S.length → cm j = cm0 j) → (2 ≤ lv → cm S.length = cm0 S.length) → (∀ e, pLp g1 lv m ((i, p), L) = .inl e → FL8 Φ lf lt e c0 cd0) → (∀ (i2 p2 : List Nat) (L2 : List Tok), pLp g1 lv m ((i, p), L) = .inr ((i2, p2), L2) → i2.length + L2.length = K → WT L2 → ∀ n' cd' op' cm', CW c0 i2 cd0 cd' → OP op' S → QC lv S.length cm0 cm' L2 → LP8 ts t cs nm li Φ lf lt wr n' S.length L2 (c0 + i2.length) cd' op' cm' 0) → LP8 ts t cs nm li Φ lf lt wr n S.length L (c0 + i.length) cd op cm 0 := by
  intro m
  induction m with
  | zero =>
    intro n L i p cd op cm hW hO hc0 hc hK hm hm1 _ hw hq hj hd hbad hgood
    have hL1 : 1 ≤ L.length := lpos hW.ne
    have e1 : lv = 1 := Classical.byContradiction (fun z => by have := hm z; omega)
    refine hgood i p L rfl hK hW n cd op cm hw hO ⟨hj, hd, fun _ => hq.2.2.1 (by omega), fun _ => hq.2.2.2.1 (by omega), fun _ => Or.inr ((hm1 e1).2.1 rfl), fun z => by omega⟩
  | succ m ih =>
    intro n L i p cd op cm hW hO hc0 hc hK hm hm1 _ hw hq hj hd hbad hgood
    have hL1 : 1 ≤ L.length := lpos hW.ne
    by_cases hl : lvl (hdt L) = lv
    · have hpl : pLp g1 lv (m + 1) ((i, p), L) = bnd (g1 (adv L)) fun s => pLp g1 lv m ((i ++ inf (hdt L) :: s.1.1, p ++ s.1.2 ++ [pof (hdt L)]), s.2) := if_pos hl
      rw [hpl] at hbad hgood
      have hlen := hW.advZ.2.2 (lvl_ne (by omega))
      cases n with
      | zero => exact fun _ _ _ _ _ _ => trivial
      | succ n =>
        refine re_op hT (by omega) hl hlv (fun e => (hm1 e).2.2 (by have := (hm1 e).1; omega)) (by omega) (fun cd1 cm1 hw1 g1' g2 g3 g4 => ?_)
        refine hg n (adv L) (c0 + i.length + 1) cd1 op cm1 hW.advZ.1 hO (by omega) (by omega) (fun z => g4 (by omega)) (fun e he => ?_) (fun i3 p3 L3 he hil hW3 n3 cd3 op3 cm3 hw3 hO3 hq3 => ?_)
        · have := (hbad e (by rw [he]; rfl)).mono (hw.app hw1)
          rw [List.length_append] at this
          exact this
        · have hw9 : CW c0 (i ++ inf (hdt L) :: i3) cd0 cd3 := by
            refine hw.app ?_
            exact hw1.app hw3
          have e9 : c0 + i.length + 1 + i3.length = c0 + (i ++ inf (hdt L) :: i3).length := by rw [List.length_append, List.length_cons]; omega
          rw [he, bnd_r] at hbad hgood
          rw [e9]
          refine ih n3 L3 _ _ cd3 op3 cm3 hW3 hO3 hc0 (by omega) (by rw [List.length_append, List.length_cons]; omega) (fun z => by have := hm z; omega) (fun e => ⟨by have := (hm1 e).1; omega, fun _ => ?_, fun z => by have := (hm1 e).1; omega⟩) (fun _ => trivial) hw9 ⟨fun _ _ => rfl, fun _ => rfl, hq3.2.2.1, hq3.2.2.2.1, hq3.2.2.2.2.1, hq3.2.2.2.2.2⟩ (fun j hj2 => ?_) (fun z => ?_) hbad hgood
          · rw [hq3.2.1 (by omega), g3 e]; decide
          · rw [hq3.1 j hj2, g1' j (by omega)]; exact hj j hj2
          · rw [hq3.2.1 (by omega), g2 z]; exact hd z
    · have hpl : pLp g1 lv (m + 1) ((i, p), L) = .inr ((i, p), L) := if_neg hl
      refine hgood i p L hpl hK hW n cd op cm hw hO ⟨hj, hd, fun _ => ?_, fun _ => ?_, fun _ => ?_, fun z => by rw [z] at hl; exact hl⟩
      · by_cases e : lv = 3
        · rw [e] at hl; exact hl
        · exact hq.2.2.1 (by omega)
      · by_cases e : lv = 2
        · rw [e] at hl; exact hl
        · exact hq.2.2.2.1 (by omega)
      · by_cases e : lv = 1
        · rw [e] at hl; exact Or.inl hl
        · exact hq.2.2.2.2.1 (by omega)
theorem re_sim (hT : TL ts t) (hN : NB cn nm) (hk : cs 1 = nI cn.length) : ∀ N : Nat, (∀ (lv : Nat) (S : List Bool), lv ≤ 4 → S.length ≤ 5 → popN S = S → 6 * (5 - S.length) + 2 + (4 - lv) ≤ N → SM8 ts t cs nm li Φ lf lt wr ((pEP cn N).1 lv S.length) S S lv) ∧ (∀ S : List Bool, S.length ≤ 5 → 6 * (5 - S.length) + 1 ≤ N → SM8 ts t cs nm li Φ lf lt wr ((pEP cn N).2 S.length) S (popN S) 4) := by
  intro N
  induction N with
  | zero => exact ⟨fun lv S _ _ _ h => absurd h (by omega), fun S _ h => absurd h (by omega)⟩
  | succ N ih =>
    refine ⟨fun lv S hlv hS hp hN' => ?_, fun S hS hN' => ?_⟩
    · by_cases h4 : lv < 4
      · have hg : (pEP cn (N + 1)).1 lv S.length = fun L => bnd ((pEP cn N).1 (lv + 1) S.length L) (pLp ((pEP cn N).1 (lv + 1) S.length) lv (if lv = 1 then 1 else 1000)) := by
          funext L
          exact if_pos h4
        rw [hg]
        have h1 := ih.1 (lv + 1) S (by omega) hS hp (by omega)
        intro n L c cd op cm hW hO hc1 hc2 hcm hbad hgood
        refine h1 n L c cd op cm hW hO hc1 hc2 (fun z => hcm (by omega)) (fun e he => hbad e (by show bnd _ _ = _; rw [he]; rfl)) (fun i p L' he hil hW' n' cd' op' cm' hw hO' hq => ?_)
        have hgood : ∀ (i2 p2 : List Nat) (L2 : List Tok), pLp ((pEP cn N).1 (lv + 1) S.length) lv (if lv = 1 then 1 else 1000) ((i, p), L') = .inr ((i2, p2), L2) → _ := fun i2 p2 L2 e2 => hgood i2 p2 L2 (by show bnd _ _ = _; rw [he]; exact e2)
        have hbad : ∀ e, pLp ((pEP cn N).1 (lv + 1) S.length) lv (if lv = 1 then 1 else 1000) ((i, p), L') = .inl e → FL8 Φ lf lt e c cd := fun e e2 => hbad e (by show bnd _ _ = _; rw [he]; exact e2)
        refine re_loop (K := L.length) (cm0 := cm) hT hS h4 h1 _ n' L' i p cd' op' cm' hW' hO' hc1 (by omega) hil (fun z => ?_) (fun z => ?_) (fun _ => trivial) hw ⟨fun _ _ => rfl, fun _ => rfl, hq.2.2.1, hq.2.2.2.1, hq.2.2.2.2.1, hq.2.2.2.2.2⟩ hq.1 (fun z => hq.2.1 (by omega)) hbad hgood
        · rw [if_neg z]; omega
        · rw [if_pos z]
          refine ⟨Nat.le_refl _, fun y => absurd y (by (try dsimp only); decide), fun _ => ?_⟩
          rw [hq.2.1 (by omega)]
          exact hcm (by omega)
      · have hg : (pEP cn (N + 1)).1 lv S.length = (pEP cn N).2 S.length := by
          funext L
          exact if_neg h4
        have e4 : lv = 4 := by omega
        have h2 := ih.2 S hS (by omega)
        rw [hg, e4]
        rw [hp] at h2
        exact h2
    · have h2 := re_part (gE := (pEP cn N).1 0 (S.length + 1)) (gP := (pEP cn N).2 (S.length + 1)) hT hN hk hS (fun h5 => ih.1 0 (false :: S) (by decide) (by show S.length + 1 ≤ 5; omega) rfl (by show 6 * (5 - (S.length + 1)) + 2 + (4 - 0) ≤ N; omega)) (fun h5 => ih.2 (true :: S) (by show S.length + 1 ≤ 5; omega) (by show 6 * (5 - (S.length + 1)) + 1 ≤ N; omega))
      exact h2
/-- readsE does what the expression's reading does -/
theorem sq8_readsEN {N q b c : Nat} {T : Int32} {w : Int64} {td : Int32} {L : List Tok} {cd op cm : Nat → Int32} (h40 : 36 ≤ N) (hT : TL ts t) (hN : NB cn nm) (hk : cs 1 = nI cn.length) (hli : li < 192) (h : RR ts L q b T w td) (hW : WT L) (hc1 : 1000 ≤ c) (hc2 : c + L.length ≤ 2000) (hbad : ∀ e, (pEP cn N).1 0 0 L = .inl e → FL8 Φ (upd lf li (nI c)) lt e c cd) (hgood : ∀ (i p : List Nat) (L' : List Tok), (pEP cn N).1 0 0 L = .inr ((i, p), L') → i.length + L'.length = L.length → WT L' → ∀ (q' b' : Nat) (T' : Int32) (w' : Int64) (td' : Int32) (cd' op' cm' : Nat → Int32), RR ts L' q' b' T' w' td' → CW c i cd cd' → Φ 1 (nI q') (nI b') T' w' td' wr (nI (c + i.length)) (upd lf li (nI c)) (upd lt li (nI (c + i.length))) cd' op' cm') : wl_X8_readsE (nI ts.length) t cs nm (nI li) (nI q) (nI b) T w td wr (nI c) lf lt cd op cm Φ := by
  unfold wl_X8_readsE
  rw [nI_clamp (n := li) (by omega)]
  refine fun _ n => ?_
  refine (re_sim hT hN hk N).1 0 [] (by decide) (by decide) rfl (by show 6 * (5 - 0) + 2 + (4 - 0) ≤ N; omega) n L c cd op _ hW trivial hc1 hc2 (fun _ => by show upd cm 0 _ 0 = 0; rw [pk_us]; exact bo_0) hbad (fun i p L' he hil hW' n' cd' op' cm' hw hO' hq => ?_) q b T w td h
  exact re_end hT hli (hq.2.2.1 (by decide)) (hq.2.2.2.1 (by decide)) (hq.2.2.2.2.1 (by decide)) (hq.2.2.2.2.2 rfl) (fun q' b' T' w' td' h' => hgood i p L' he hil hW' q' b' T' w' td' cd' op' cm' h' hw)
theorem sq8_readsE {q b c : Nat} {T : Int32} {w : Int64} {td : Int32} {L : List Tok} {cd op cm : Nat → Int32} (hT : TL ts t) (hN : NB cn nm) (hk : cs 1 = nI cn.length) (hli : li < 192) (h : RR ts L q b T w td) (hW : WT L) (hc1 : 1000 ≤ c) (hc2 : c + L.length ≤ 2000) (hbad : ∀ e, (pEP cn 40).1 0 0 L = .inl e → FL8 Φ (upd lf li (nI c)) lt e c cd) (hgood : ∀ (i p : List Nat) (L' : List Tok), (pEP cn 40).1 0 0 L = .inr ((i, p), L') → i.length + L'.length = L.length → WT L' → ∀ (q' b' : Nat) (T' : Int32) (w' : Int64) (td' : Int32) (cd' op' cm' : Nat → Int32), RR ts L' q' b' T' w' td' → CW c i cd cd' → Φ 1 (nI q') (nI b') T' w' td' wr (nI (c + i.length)) (upd lf li (nI c)) (upd lt li (nI (c + i.length))) cd' op' cm') : wl_X8_readsE (nI ts.length) t cs nm (nI li) (nI q) (nI b) T w td wr (nI c) lf lt cd op cm Φ := sq8_readsEN (N := 40) (by decide) hT hN hk hli h hW hc1 hc2 hbad hgood
end SM9
end
section
/-- nothing outside of the first section changed -/
def F1 (s : Nat) (a a' : Nat → Int32) : Prop := ∀ j, j < s ∨ 2 * s ≤ j → a' j = a j
theorem F1.rf {s : Nat} {a : Nat → Int32} : F1 s a a := fun _ _ => rfl
theorem F1.tr {s : Nat} {a b c : Nat → Int32} (h : F1 s a b) (h2 : F1 s b c) : F1 s a c := fun j hj => (h2 j hj).trans (h j hj)
theorem F1.up {s k : Nat} {a : Nat → Int32} {x : Int32} (h1 : s ≤ k) (h2 : k < 2 * s) : F1 s a (upd a k x) := fun j hj => pk_un (by omega)
def SB (p : Nat) (l : List (List Nat × Nat × Nat)) (st be co : Nat → Int32) : Prop := st p = nI l.length ∧ ∀ (i : Nat) (y : List Nat × Nat × Nat), l[i]? = some y → be (4 * p + i) = nI y.2.1 ∧ co (4 * p + i) = nI y.2.2
def CB (p : Nat) (l : List (List Nat × Nat)) (ce ca : Nat → Int32) : Prop := ce p = nI l.length ∧ ∀ (i : Nat) (y : List Nat × Nat), l[i]? = some y → ca (6 * p + i) = nI y.2
def IB (p : Nat) (l : List (Nat × Nat × Nat)) (ip ic il im : Nat → Int32) : Prop := ip p = nI l.length ∧ ∀ (i : Nat) (y : Nat × Nat × Nat), l[i]? = some y → ic (2 * p + i) = nI y.1 ∧ il (2 * p + i) = nI y.2.1 ∧ im (2 * p + i) = nI y.2.2
/-- the codes of an expression, the reference's -/
def ER9 (p k : Nat) (i : List Nat) (lf lt cd : Nat → Int32) : Prop := ∃ o : Nat, lf (32 * p + k) = nI (1000 * p + o) ∧ lt (32 * p + k) = nI (1000 * p + o + i.length) ∧ o + i.length ≤ 1000 ∧ ∀ j c, i[j]? = some c → cd (1000 * p + o + j) = nI c
def LB1 (p i : Nat) (y : LN9) (ac aC lf lt cd : Nat → Int32) : Prop := ac (16 * p + i) = nI y.1 ∧ ((y.1 = 0 ∨ y.1 = 4) → aC (16 * p + i) = nI y.2.2.1) ∧ (y.1 ≠ 6 → ER9 p (2 * i) y.2.2.2.1.1 lf lt cd) ∧ ((y.1 = 3 ∨ y.1 = 5) → ER9 p (2 * i + 1) y.2.2.2.2.1 lf lt cd)
def LBd (p : Nat) (l : List LN9) (ln ac aC lf lt cd : Nat → Int32) : Prop := ln p = nI l.length ∧ ∀ i y, l[i]? = some y → LB1 p i y ac aC lf lt cd
/-- laid as told -/
def TB (p : Nat) (l : List LN9) (ls tw : Nat → Int32) : Prop := ∀ (i : Nat) (y : LN9), l[i]? = some y → ls (16 * p + i) = nI y.2.1 ∧ tw (16 * p + i) = 1
theorem NB.push {ns : List (List Nat)} {an : Nat → Int64} {w : List Nat} {r : Int64} (h : NB ns an) (hn : ns.length < 6) (hw : WD w) (hr : r = eW w) : NB (ns ++ [w]) (vp_updL an ns.length r) := by
  refine ⟨by rw [List.length_append]; exact hn, fun z hz => ?_, fun i z hi => ?_⟩
  · rcases List.mem_append.mp hz with hz | hz
    · exact h.2.1 z hz
    · rw [List.mem_singleton.mp hz]; exact hw
  · rcases app_get hi with h9 | ⟨e, e2⟩
    · have := get_lt h9
      rw [pk_uLn (by omega)]
      exact h.2.2 i z h9
    · rw [e, pk_uLs, e2]
      exact hr
section RT8
variable {ts : List Nat} {t : Nat → Int32} {L : List Tok} {q b : Nat} {T td wr : Int32} {w : Int64} {g : PGr}
theorem within_in {v lo hi : Nat} {Φ : Int32 → Prop} (hv : v < 100000) (hl : lo < 100000) (hh : hi < 100000) (h1 : lo ≤ v ∧ v ≤ hi → Φ 1) (h0 : ¬ (lo ≤ v ∧ v ≤ hi) → Φ 0) : wl_X8_within (nI v) (nI lo) (nI hi) Φ := by
  unfold wl_X8_within
  rw [nI_ltI (by omega) (by omega), nI_ltI (by omega) (by omega)]
  exact ⟨fun z => h0 (by omega), fun z => ⟨fun y => h0 (by omega), fun y => h1 (by omega)⟩⟩
theorem sq8_ends {Φ : Int32 → Int32 → Int32 → Int32 → Int64 → Int32 → Int32 → Prop} (hT : TL ts t) (h : RR ts L q b T w td) (bad : ∀ e, pSay 6 L = .inl e → Φ 0 (nI q) (nI b) T w td (nI e)) (good : pSay 6 L = .inr L → ∀ (q' b' : Nat) (T' : Int32) (w' : Int64) (td' : Int32), RR ts (adv L) q' b' T' w' td' → Φ 1 (nI q') (nI b') T' w' td' wr) : wl_X8_ends (nI ts.length) t (nI q) (nI b) T w td wr Φ := by
  refine sq8_sign 59 (by decide) (by decide) hT h (fun e => ⟨fun _ => sq8_next hT h (good (if_pos e)), fun z => absurd z (by (try dsimp only); decide)⟩) (fun e => ⟨fun z => absurd rfl z, fun _ => ?_⟩)
  show ((0 : Int32) = 0 ∨ (0 : Int32) = 1) → _
  have e1 : (1 : Int32) + 16 * nI b = nI (flt 1 L) := h.fltZ 1
  rw [e1]
  exact fun _ => bad _ (if_neg e)
theorem sq8_needsWord {Φ : Int32 → Int32 → Int32 → Int32 → Int64 → Int32 → Int32 → Prop} (i : Nat) {x : Int64} (hi : i < 19) (hx : kwT.getD i 0 = x) (hT : TL ts t) (h : RR ts L q b T w td) (bad : ∀ e, pSay (12 + i) L = .inl e → Φ 0 (nI q) (nI b) T w td (nI e)) (good : pSay (12 + i) L = .inr L → ∀ (q' b' : Nat) (T' : Int32) (w' : Int64) (td' : Int32), RR ts (adv L) q' b' T' w' td' → Φ 1 (nI q') (nI b') T' w' td' wr) : wl_X8_needsWord (nI ts.length) t x (nI q) (nI b) T w td wr Φ := by
  refine sq8_word i hi hx h (fun e => ⟨fun _ => sq8_next hT h (good (if_pos e)), fun z => absurd z (by (try dsimp only); decide)⟩) (fun e => ⟨fun z => absurd rfl z, fun _ => ?_⟩)
  show ((0 : Int32) = 0 ∨ (0 : Int32) = 1) → _
  have e1 : (1 : Int32) + 16 * nI b = nI (flt 1 L) := h.fltZ 1
  rw [e1]
  exact fun _ => bad _ (if_neg e)
theorem RR.n2 (h : RR ts L q b T w td) (e : T = 2) : ix (hdt L) = 2 ∧ td = nI (num (hdt L)) ∧ num (hdt L) ≤ 9999 := by
  have k2 := (h.tT 2 (by decide)).mp e
  have hn := h.VTZ.numZ k2
  refine ⟨?_, (h.CRZ.2.2.2.2.2.2.2.2.1 k2).trans hn.1, hn.2.2⟩
  unfold ix
  rw [if_neg (by omega), if_neg (by omega), if_pos k2]
theorem sq8_needsNumber {lo hi : Nat} {Φ : Int32 → Int32 → Prop} (hl : lo < 100000) (hh : hi < 100000) (h : RR ts L q b T w td) (bad : ∀ e, pNum lo hi L = .inl e → Φ 0 (nI e)) (good : ∀ n, pNum lo hi L = .inr (n, L) → td = nI n → lo ≤ n → n ≤ hi → n ≤ 9999 → Φ 1 wr) : wl_X8_needsNumber (nI b) T td (nI lo) (nI hi) wr Φ := by
  unfold wl_X8_needsNumber
  refine ⟨fun e => ?_, fun e => ?_⟩
  · obtain ⟨i2, e2, e9⟩ := h.n2 e
    rw [e2]
    refine within_in (by omega) hl hh (fun y => ⟨fun _ => good _ ?_ e2 y.1 y.2 e9, fun z => absurd z (by (try dsimp only); decide)⟩) (fun y => ⟨fun z => absurd rfl z, fun _ => ?_⟩)
    · unfold pNum
      rw [if_pos i2, if_pos y]
    · refine ⟨fun _ => ?_, fun z => absurd rfl z⟩
      have e1 : (4 : Int32) + 16 * nI b = nI (flt 4 L) := h.fltZ 4
      rw [e1]
      refine bad _ ?_
      unfold pNum
      rw [if_pos i2, if_neg y]
  · show ((0 : Int32) = 0 ∨ (0 : Int32) = 1) → _
    have e1 : (1 : Int32) + 16 * nI b = nI (flt 1 L) := h.fltZ 1
    rw [e1]
    refine fun _ => bad _ ?_
    unfold pNum
    rw [if_neg (fun z => e ((h.tT 2 (by decide)).mpr (ix_2 z)))]
theorem sq8_needsNew {sn cn : List (List Nat)} {st ce : Nat → Int32} {as ac : Nat → Int64} {Φ : Int32 → Int32 → Prop} (h : RR ts L q b T w td) (hs : NB sn as) (hst : st 1 = nI sn.length) (hc : NB cn ac) (hce : ce 1 = nI cn.length) (bad : ∀ e, pNew sn cn L = .inl e → Φ 0 (nI e)) (good : ∀ z, pNew sn cn L = .inr (z, L) → w = eW z → WD z → Φ 1 wr) : wl_X8_needsNew (nI b) T w st ce as ac wr Φ := by
  unfold wl_X8_needsNew
  refine sq8_kept h (fun n3 => ⟨fun z => absurd z (by (try dsimp only); decide), fun _ => ?_⟩) (fun e3 => ⟨fun _ => ?_, fun z => absurd rfl z⟩)
  · show ((0 : Int32) = 0 ∨ (0 : Int32) = 1) → _
    have e1 : (1 : Int32) + 16 * nI b = nI (flt 1 L) := h.fltZ 1
    rw [e1]
    refine fun _ => bad _ ?_
    unfold pNew
    rw [if_neg n3]
  · obtain ⟨w1, w2, w3⟩ := h.ix1 (ix_3 e3).1
    have e1 : (3 : Int32) + 16 * nI b = nI (flt 3 L) := h.fltZ 3
    have b3 : (hdt L).2.2 ∈ sn ∨ (hdt L).2.2 ∈ cn → Φ 0 (3 + 16 * nI b) := fun hm => by
      rw [e1]
      refine bad _ ?_
      unfold pNew
      rw [if_pos e3, if_pos hm]
    have g3 : ¬ ((hdt L).2.2 ∈ sn ∨ (hdt L).2.2 ∈ cn) → Φ 1 wr := fun hm => good _ (by unfold pNew; rw [if_pos e3, if_neg hm]) w2 w3
    have hs6 := hs.1
    have hc6 := hc.1
    have mem : ∀ {ns : List (List Nat)} {z : List Nat} {j : Nat}, fnd ns z = some j → z ∈ ns := fun {ns z j} hj => Classical.byContradiction (fun hm => by rw [fnd_none.mpr hm] at hj; cases hj)
    rw [w2]
    refine sq8_stuffOf hs hst w3 (fun z => ⟨fun y => absurd y (by (try dsimp only); decide), fun _ => ?_⟩) (fun j hj => ⟨fun _ => ⟨fun _ => b3 (Or.inl (mem hj)), fun z => absurd rfl z⟩, fun y => absurd (nI_pos' (n := j) (by have := fnd_lt hj; omega)) y⟩)
    refine sq8_cellOf hc hce w3 (fun z2 => ⟨fun _ => g3 (fun hm => hm.elim (fnd_none.mp z) (fnd_none.mp z2)), fun y => absurd (by decide) y⟩) (fun j hj => ⟨fun y => absurd y (nI_pos (n := j) (by have := fnd_lt hj; omega)), fun _ => ⟨fun _ => b3 (Or.inr (mem hj)), fun z => absurd rfl z⟩⟩)
/-- a name that is told: kept, then looked up -/
theorem sq8_told {ns : List (List Nat)} {cs : Nat → Int32} {an : Nat → Int64} {Φ : Int32 → Prop} {A : Prop} (h : RR ts L q b T w td) (hN : NB ns an) (hk : cs 1 = nI ns.length) (h1 : pTold ns L = .inl (flt 1 L) → A) (h2 : pTold ns L = .inl (flt 2 L) → Φ (-1)) (h3 : ∀ j, pTold ns L = .inr (j, L) → j < ns.length → Φ (nI j)) : wl_X8_isKept T w (fun r => (r = 0 → wl_X8_cellOf w cs an Φ) ∧ (¬ r = 0 → A)) := by
  refine sq8_kept h (fun n3 => ⟨fun z => absurd z (by (try dsimp only); decide), fun _ => h1 ?_⟩) (fun e3 => ⟨fun _ => ?_, fun z => absurd rfl z⟩)
  · unfold pTold
    rw [if_neg n3]
  · obtain ⟨w1, w2, w3⟩ := h.ix1 (ix_3 e3).1
    have hto : pTold ns L = match fnd ns (hdt L).2.2 with | none => .inl (flt 2 L) | some c => .inr (c, L) := if_pos e3
    rw [w2]
    exact sq8_cellOf hN hk w3 (fun z => h2 (by rw [hto, z])) (fun j hj => h3 j (by rw [hto, hj]) (fnd_lt hj))
theorem sq8_toldS {ns : List (List Nat)} {cs : Nat → Int32} {an : Nat → Int64} {Φ : Int32 → Prop} {A : Prop} (h : RR ts L q b T w td) (hN : NB ns an) (hk : cs 1 = nI ns.length) (h1 : pTold ns L = .inl (flt 1 L) → A) (h2 : pTold ns L = .inl (flt 2 L) → Φ (-1)) (h3 : ∀ j, pTold ns L = .inr (j, L) → j < ns.length → Φ (nI j)) : wl_X8_isKept T w (fun r => (r = 0 → wl_X8_stuffOf w cs an Φ) ∧ (¬ r = 0 → A)) := by
  refine sq8_kept h (fun n3 => ⟨fun z => absurd z (by (try dsimp only); decide), fun _ => h1 ?_⟩) (fun e3 => ⟨fun _ => ?_, fun z => absurd rfl z⟩)
  · unfold pTold
    rw [if_neg n3]
  · obtain ⟨w1, w2, w3⟩ := h.ix1 (ix_3 e3).1
    have hto : pTold ns L = match fnd ns (hdt L).2.2 with | none => .inl (flt 2 L) | some c => .inr (c, L) := if_pos e3
    rw [w2]
    exact sq8_stuffOf hN hk w3 (fun z => h2 (by rw [hto, z])) (fun j hj => h3 j (by rw [hto, hj]) (fnd_lt hj))
theorem sq8_readsStuff {st ce be co : Nat → Int32} {sn cnn : Nat → Int64} {Φ : Int32 → Int32 → Int32 → Int32 → Int64 → Int32 → Int32 → (Nat → Int32) → (Nat → Int64) → (Nat → Int32) → (Nat → Int32) → Prop} (hT : TL ts t) (h : RR ts L q b T w td) (hs : NB (snm g) sn) (hc : NB (cnm g) cnn) (hS : SB 1 g.1 st be co) (h4 : g.1.length ≤ 4) (hce : ce 1 = nI (cnm g).length)
    (bad : ∀ e, tX (pStuff g L) 6 = .inl e → ∀ (q' b' T' : Int32) (w' : Int64) (td' : Int32) (st' : Nat → Int32) (sn' : Nat → Int64) (be' co' : Nat → Int32), F1 1 st st' → F1 4 be be' → F1 4 co co' → Φ 0 q' b' T' w' td' (nI e) st' sn' be' co')
    (good : ∀ g' L', tX (pStuff g L) 6 = .inr (g', L') → g'.2 = g.2 → ∀ (q' b' : Nat) (T' : Int32) (w' : Int64) (td' : Int32) (st' : Nat → Int32) (sn' : Nat → Int64) (be' co' : Nat → Int32), RR ts L' q' b' T' w' td' → F1 1 st st' → F1 4 be be' → F1 4 co co' → NB (snm g') sn' → SB 1 g'.1 st' be' co' → Φ 1 (nI q') (nI b') T' w' td' wr st' sn' be' co') : wl_X8_readsStuff (nI ts.length) t ce cnn (nI q) (nI b) T w td wr st sn be co Φ := by
  obtain ⟨hst, hbc⟩ := hS
  have hlen : (snm g).length = g.1.length := List.length_map _
  have hst1 : st 1 = nI (snm g).length := by rw [hlen]; exact hst
  have e4 : nI g.1.length = 4 ↔ g.1.length = 4 := nI_eq (a := g.1.length) (b := 4) (by omega) (by decide)
  unfold wl_X8_readsStuff
  rw [hst, e4, nI_clamp (n := g.1.length) (by omega), show (4 : Int32) = nI 4 from rfl, nI_add, nI_clamp (n := 4 + g.1.length) (by omega)]
  refine ⟨fun n4 => ?_, fun y4 => ?_⟩
  · have hp : pStuff g L = bnd (tN (tX (tN (tX (tW (.inr ((), adv L)) (snm g) (cnm g)) 13) (fun _ => 1) (fun _ => 9999)) 14) (fun _ => 0) (fun _ => 999)) fun y => .inr ((g.1 ++ [(y.1.1.1.2, y.1.1.2, y.1.2)], g.2), y.2) := if_neg (by omega)
    refine sq8_next hT h (fun q1 b1 T1 w1 td1 h1 => ?_)
    refine sq8_needsNew h1 hs hst1 hc hce (fun e he => ⟨fun z => absurd rfl z, fun _ => bad e ?_ _ _ _ _ _ _ _ _ _ F1.rf F1.rf F1.rf⟩) (fun z hz hw hwd => ⟨fun _ _ => ?_, fun z => absurd z (by (try dsimp only); decide)⟩)
    · rw [hp]; simp [tN, tX, tW, sq0, sq1, bnd, pAdv, he]
    refine sq8_next hT h1 (fun q2 b2 T2 w2 td2 h2 => ?_)
    refine sq8_needsWord 1 (by decide) rfl hT h2 (fun e he => ⟨fun _ => bad e ?_ _ _ _ _ _ _ _ _ _ F1.rf F1.rf F1.rf, fun z => absurd rfl z⟩) (fun s3 q3 b3 T3 w3 td3 h3 => ⟨fun z => absurd z (by (try dsimp only); decide), fun _ => ?_⟩)
    · rw [hp]; simp [tN, tX, tW, sq0, sq1, bnd, pAdv, hz, he]
    refine sq8_needsNumber (lo := 1) (hi := 9999) (by decide) (by decide) h3 (fun e he => ⟨fun z => absurd rfl z, fun _ => bad e ?_ _ _ _ _ _ _ _ _ _ F1.rf F1.rf F1.rf⟩) (fun n4' hn4 htd4 _ _ _ => ⟨fun _ _ => ?_, fun z => absurd z (by (try dsimp only); decide)⟩)
    · rw [hp]; simp [tN, tX, tW, sq0, sq1, bnd, pAdv, hz, s3, he]
    refine sq8_next hT h3 (fun q5 b5 T5 w5 td5 h5 => ?_)
    have fb : ∀ x, F1 4 be (upd be (4 + g.1.length) x) := fun x => F1.up (by omega) (by omega)
    have fc : ∀ x, F1 4 co (upd co (4 + g.1.length) x) := fun x => F1.up (by omega) (by omega)
    refine sq8_needsWord 2 (by decide) rfl hT h5 (fun e he => ⟨fun _ => bad e ?_ _ _ _ _ _ _ _ _ _ F1.rf (fb _) F1.rf, fun z => absurd rfl z⟩) (fun s6 q6 b6 T6 w6 td6 h6 => ⟨fun z => absurd z (by (try dsimp only); decide), fun _ => ?_⟩)
    · rw [hp]; simp [tN, tX, tW, sq0, sq1, bnd, pAdv, hz, s3, hn4, he]
    refine sq8_needsNumber (lo := 0) (hi := 999) (by decide) (by decide) h6 (fun e he => ⟨fun z => absurd rfl z, fun _ => bad e ?_ _ _ _ _ _ _ _ _ _ F1.rf (fb _) F1.rf⟩) (fun n7 hn7 htd7 _ _ _ => ⟨fun _ _ => ?_, fun z => absurd z (by (try dsimp only); decide)⟩)
    · rw [hp]; simp [tN, tX, tW, sq0, sq1, bnd, pAdv, hz, s3, hn4, s6, he]
    refine sq8_next hT h6 (fun q8 b8 T8 w8 td8 h8 => ?_)
    have fs : F1 1 st (upd st 1 (nI g.1.length + 1)) := F1.up (by omega) (by omega)
    refine sq8_ends hT h8 (fun e he => fun _ => bad e ?_ _ _ _ _ _ _ _ _ _ fs (fb _) (fc _)) (fun s9 q9 b9 T9 w9 td9 h9 => fun _ => good (g.1 ++ [(z, n4', n7)], g.2) _ ?_ rfl _ _ _ _ _ _ _ _ _ h9 fs (fb _) (fc _) ?_ ⟨?_, fun i y hi => ?_⟩)
    · rw [hp]; simp [tN, tX, tW, sq0, sq1, bnd, pAdv, hz, s3, hn4, s6, hn7, he]
    · rw [hp]; simp [tN, tX, tW, sq0, sq1, bnd, pAdv, hz, s3, hn4, s6, hn7, s9]
    · have em : snm (g.1 ++ [(z, n4', n7)], g.2) = snm g ++ [z] := by unfold snm; rw [List.map_append]; rfl
      rw [em, ← hlen]
      exact hs.push (by omega) hwd hw
    · rw [pk_us, nI_1, List.length_append]; rfl
    · rcases app_get hi with g9 | ⟨e, e2⟩
      · have := get_lt g9
        rw [pk_un (by omega), pk_un (by omega)]
        exact hbc i y g9
      · rw [e, show 4 * 1 + g.1.length = 4 + g.1.length by omega, pk_us, pk_us, e2]
        exact ⟨htd4, htd7⟩
  · have hp : pStuff g L = .inl (flt 5 L) := if_pos (by omega)
    show ((0 : Int32) = 0 ∨ (0 : Int32) = 1) → _
    have e1 : (5 : Int32) + 16 * nI b = nI (flt 5 L) := h.fltZ 5
    rw [e1]
    exact fun _ => bad _ (by rw [hp]; rfl) _ _ _ _ _ _ _ _ _ F1.rf F1.rf F1.rf
theorem sq8_readsCell {st ce ca : Nat → Int32} {sn cnn : Nat → Int64} {Φ : Int32 → Int32 → Int32 → Int32 → Int64 → Int32 → Int32 → (Nat → Int32) → (Nat → Int64) → (Nat → Int32) → Prop} (hT : TL ts t) (h : RR ts L q b T w td) (hs : NB (snm g) sn) (hc : NB (cnm g) cnn) (hC : CB 1 g.2.1 ce ca) (hst : st 1 = nI (snm g).length)
    (bad : ∀ e, tX (pCell g L) 6 = .inl e → ∀ (q' b' T' : Int32) (w' : Int64) (td' : Int32) (ce' : Nat → Int32) (cn' : Nat → Int64) (ca' : Nat → Int32), F1 1 ce ce' → F1 6 ca ca' → Φ 0 q' b' T' w' td' (nI e) ce' cn' ca')
    (good : ∀ g' L', tX (pCell g L) 6 = .inr (g', L') → g'.1 = g.1 → g'.2.2 = g.2.2 → ∀ (q' b' : Nat) (T' : Int32) (w' : Int64) (td' : Int32) (ce' : Nat → Int32) (cn' : Nat → Int64) (ca' : Nat → Int32), RR ts L' q' b' T' w' td' → F1 1 ce ce' → F1 6 ca ca' → NB (cnm g') cn' → CB 1 g'.2.1 ce' ca' → Φ 1 (nI q') (nI b') T' w' td' wr ce' cn' ca') : wl_X8_readsCell (nI ts.length) t st sn (nI q) (nI b) T w td wr ce cnn ca Φ := by
  obtain ⟨hce, hca⟩ := hC
  have h6 := hc.1
  have hlen : (cnm g).length = g.2.1.length := List.length_map _
  have hce1 : ce 1 = nI (cnm g).length := by rw [hlen]; exact hce
  have e6 : nI g.2.1.length = 6 ↔ g.2.1.length = 6 := nI_eq (a := g.2.1.length) (b := 6) (by omega) (by decide)
  unfold wl_X8_readsCell
  rw [hce, e6, nI_clamp (n := g.2.1.length) (by omega), show (6 : Int32) = nI 6 from rfl, nI_add, nI_clamp (n := 6 + g.2.1.length) (by omega)]
  refine ⟨fun n6 => ?_, fun y6 => ?_⟩
  · have hp : pCell g L = bnd (tN (tW (.inr ((), adv L)) (snm g) (cnm g)) (fun _ => 0) (fun _ => 9999)) fun y => .inr ((g.1, g.2.1 ++ [(y.1.1.2, y.1.2)], g.2.2), y.2) := if_neg (by omega)
    refine sq8_next hT h (fun q1 b1 T1 w1 td1 h1 => ?_)
    refine sq8_needsNew h1 hs hst hc hce1 (fun e he => ⟨fun z => absurd rfl z, fun _ => bad e ?_ _ _ _ _ _ _ _ _ F1.rf F1.rf⟩) (fun z hz hw hwd => ⟨fun _ _ => ?_, fun z => absurd z (by (try dsimp only); decide)⟩)
    · rw [hp]; simp [tN, tX, tW, sq0, sq1, bnd, pAdv, he]
    refine sq8_next hT h1 (fun q2 b2 T2 w2 td2 h2 => ?_)
    refine sq8_needsNumber (lo := 0) (hi := 9999) (by decide) (by decide) h2 (fun e he => ⟨fun z => absurd rfl z, fun _ => bad e ?_ _ _ _ _ _ _ _ _ F1.rf F1.rf⟩) (fun n4 hn4 htd4 _ _ _ => ⟨fun _ _ => ?_, fun z => absurd z (by (try dsimp only); decide)⟩)
    · rw [hp]; simp [tN, tX, tW, sq0, sq1, bnd, pAdv, hz, he]
    refine sq8_next hT h2 (fun q8 b8 T8 w8 td8 h8 => ?_)
    have fs : F1 1 ce (upd ce 1 (nI g.2.1.length + 1)) := F1.up (by omega) (by omega)
    have fc : ∀ x, F1 6 ca (upd ca (6 + g.2.1.length) x) := fun x => F1.up (by omega) (by omega)
    refine sq8_ends hT h8 (fun e he => fun _ => bad e ?_ _ _ _ _ _ _ _ _ fs (fc _)) (fun s9 q9 b9 T9 w9 td9 h9 => fun _ => good (g.1, g.2.1 ++ [(z, n4)], g.2.2) _ ?_ rfl rfl _ _ _ _ _ _ _ _ h9 fs (fc _) ?_ ⟨?_, fun i y hi => ?_⟩)
    · rw [hp]; simp [tN, tX, tW, sq0, sq1, bnd, pAdv, hz, hn4, he]
    · rw [hp]; simp [tN, tX, tW, sq0, sq1, bnd, pAdv, hz, hn4, s9]
    · have em : cnm (g.1, g.2.1 ++ [(z, n4)], g.2.2) = cnm g ++ [z] := by unfold cnm; rw [List.map_append]; rfl
      rw [em, ← hlen]
      exact hc.push (by omega) hwd hw
    · rw [pk_us, nI_1, List.length_append]; rfl
    · rcases app_get hi with g9 | ⟨e, e2⟩
      · have := get_lt g9
        rw [pk_un (by omega)]
        exact hca i y g9
      · rw [e, show 6 * 1 + g.2.1.length = 6 + g.2.1.length by omega, pk_us, e2]
        exact htd4
  · have hp : pCell g L = .inl (flt 5 L) := if_pos (by omega)
    show ((0 : Int32) = 0 ∨ (0 : Int32) = 1) → _
    have e1 : (5 : Int32) + 16 * nI b = nI (flt 5 L) := h.fltZ 5
    rw [e1]
    exact fun _ => bad _ (by rw [hp]; rfl) _ _ _ _ _ _ _ _ F1.rf F1.rf
end RT8
end
