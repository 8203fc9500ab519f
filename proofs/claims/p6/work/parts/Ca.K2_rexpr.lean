/-- from c on the codes i were written, nothing below, nothing from 2000 on -/
def CW (c : Nat) (i : List Nat) (cd cd' : Nat → Int32) : Prop := (∀ j, j < c → cd' j = cd j) ∧ (∀ j x, i[j]? = some x → cd' (c + j) = nI x) ∧ ∀ j, 2000 ≤ j → cd' j = cd j
theorem CW.nil {c : Nat} {cd : Nat → Int32} : CW c [] cd cd := ⟨fun _ _ => rfl, fun j x h => by simp at h, fun _ _ => rfl⟩
theorem CW.app {c : Nat} {i k : List Nat} {a b d : Nat → Int32} (h : CW c i a b) (h2 : CW (c + i.length) k b d) : CW c (i ++ k) a d := by
  refine ⟨fun j hj => (h2.1 j (by omega)).trans (h.1 j hj), fun j x hj => ?_, fun j hj => (h2.2.2 j hj).trans (h.2.2 j hj)⟩
  by_cases hlt : j < i.length
  · rw [List.getElem?_append_left hlt] at hj
    rw [h2.1 _ (by omega)]
    exact h.2.1 j x hj
  · rw [List.getElem?_append_right (by omega)] at hj
    have := h2.2.1 _ x hj
    rw [show c + i.length + (j - i.length) = c + j by omega] at this
    exact this
theorem CW.one {c v : Nat} {cd : Nat → Int32} (hc : c < 2000) : CW c [v] cd (upd cd c (nI v)) := by
  refine ⟨fun j hj => pk_un (by omega), fun j x hj => ?_, fun j hj => pk_un (by omega)⟩
  cases j with
  | zero => rw [← Option.some.inj hj]; exact pk_us
  | succ j => simp at hj
theorem bo_0 : (vp_nar .boolean 0 : Int32) = 0 := by decide
theorem bo_1 : (vp_nar .boolean 1 : Int32) = 1 := by decide
theorem lv_ix7 : ∀ i : Fin 31, lvT.getD i.val 4 < 4 → i.val = 7 ∨ i.val = 8 ∨ i.val = 9 ∨ i.val = 10 ∨ i.val = 11 ∨ i.val = 29 ∨ i.val = 30 := by decide
theorem lvl_ix {k : Tok} (h : lvl k < 4) : ix k = 7 ∨ ix k = 8 ∨ ix k = 9 ∨ ix k = 10 ∨ ix k = 11 ∨ ix k = 29 ∨ ix k = 30 := lv_ix7 ⟨ix k, ix_lt k⟩ h
theorem lvl_of {k : Tok} {i : Nat} (h : ix k = i) : lvl k = lvT.getD i 4 ∧ inf k = inT.getD i 0 := by
  unfold lvl inf
  rw [h]
  exact ⟨rfl, rfl⟩
section RE8
variable {ts : List Nat} {t : Nat → Int32} {cs : Nat → Int32} {nm : Nat → Int64} {li : Nat} {Φ : PE} {lf lt : Nat → Int32} {wr : Int32} {cn : List (List Nat)}
/-- the loop of readsE goes on well from here: n turns, depth d, the tokens L, the next code's place c -/
def LP8 (ts : List Nat) (t cs : Nat → Int32) (nm : Nat → Int64) (li : Nat) (Φ : PE) (lf lt : Nat → Int32) (wr : Int32) (n d : Nat) (L : List Tok) (c : Nat) (cd op cm : Nat → Int32) (wn : Int32) : Prop := ∀ (q b : Nat) (T : Int32) (w : Int64) (td : Int32), RR ts L q b T w td → ll_X8_readsE_21 (nI ts.length) t cs nm (nI li) Φ n (nI q) (nI b) T w td wr (nI c) lf lt cd op cm (nI d) wn
/-- a fault ends well -/
def FL8 (Φ : PE) (lf lt : Nat → Int32) (e c : Nat) (cd : Nat → Int32) : Prop := ∀ (q b T : Int32) (w : Int64) (td c' : Int32) (cd' op' cm' : Nat → Int32), (∀ j, j < c ∨ 2000 ≤ j → cd' j = cd j) → Φ 0 q b T w td (nI e) c' lf lt cd' op' cm'
theorem FL8.mono {e c : Nat} {i : List Nat} {cd cd1 : Nat → Int32} (h : FL8 Φ lf lt e c cd) (hw : CW c i cd cd1) : FL8 Φ lf lt e (c + i.length) cd1 := fun q b T w td c' cd' op' cm' hf => h q b T w td c' cd' op' cm' (fun j hj => by
  rcases hj with hj | hj
  · exact (hf j (Or.inl (by omega))).trans (hw.1 j hj)
  · exact (hf j (Or.inr hj)).trans (hw.2.2 j hj))
theorem sq8_puts {c : Nat} {v : Int32} {cd : Nat → Int32} {Ψ : Int32 → (Nat → Int32) → Prop} (hc : c < 100000) (h : Ψ (nI (c + 1)) (upd cd c v)) : wl_X8_puts v (nI c) cd Ψ := by
  unfold wl_X8_puts
  rw [nI_1, nI_clamp (n := c) (by omega)]
  exact fun _ => h
section ST8
variable {n d c : Nat} {L : List Tok} {cd op cm : Nat → Int32}
theorem re_op {lv : Nat} (hT : TL ts t) (hd : d ≤ 1000) (hl : lvl (hdt L) = lv) (h4 : lv < 4) (hcm : lv = 1 → cm d = 0) (hc : c < 2000) (next : ∀ cd' cm', CW c [inf (hdt L)] cd cd' → (∀ j, j ≠ d → cm' j = cm j) → (2 ≤ lv → cm' d = cm d) → (lv = 1 → cm' d = 1) → (lv = 0 → cm' d = 0) → LP8 ts t cs nm li Φ lf lt wr n d (adv L) (c + 1) cd' op cm' 1) : LP8 ts t cs nm li Φ lf lt wr (n + 1) d L c cd op cm 0 := by
  intro q b T w td h
  have hi := lvl_ix (k := hdt L) (by omega)
  have go : ∀ (v : Nat) (cm' : Nat → Int32), inf (hdt L) = v → (∀ j, j ≠ d → cm' j = cm j) → (2 ≤ lv → cm' d = cm d) → (lv = 1 → cm' d = 1) → (lv = 0 → cm' d = 0) → wl_X8_nextToken (nI ts.length) t (nI q) (nI b) T w td (fun q' b' T' w' td' => ll_X8_readsE_21 (nI ts.length) t cs nm (nI li) Φ n q' b' T' w' td' wr (nI (c + 1)) lf lt (upd cd c (nI v)) op cm' (nI d) 1) := by
    intro v cm' hv a1 a2 a3 a4
    refine sq8_next hT h (fun q' b' T' w' td' h' => next _ cm' (by rw [hv]; exact CW.one hc) a1 a2 a3 a4 q' b' T' w' td' h')
  have k279 : (ix (hdt L) = 9 ∨ ix (hdt L) = 10 ∨ ix (hdt L) = 11) → kl_X8_readsE_279 (nI ts.length) t cs nm (nI li) (ll_X8_readsE_21 (nI ts.length) t cs nm (nI li) Φ n) Φ (nI q) (nI b) T w td wr (nI c) lf lt cd op cm (nI d) := by
    intro hx
    have hlv : 2 ≤ lv := by
      rcases hx with e | e | e <;> rw [(lvl_of e).1] at hl <;> rw [← hl] <;> decide
    have g2 : ∀ v : Nat, inf (hdt L) = v → wl_X8_puts (nI v) (nI c) cd (fun c' cd' => wl_X8_nextToken (nI ts.length) t (nI q) (nI b) T w td (fun q' b' T' w' td' => ll_X8_readsE_21 (nI ts.length) t cs nm (nI li) Φ n q' b' T' w' td' wr c' lf lt cd' op cm (nI d) 1)) := fun v hv => sq8_puts (by omega) (go v cm hv (fun _ _ => rfl) (fun _ => rfl) (fun e => absurd e (by omega)) (fun e => absurd e (by omega)))
    refine sq8_sign 43 (by decide) (by decide) hT h (fun e => ⟨fun z => absurd z (by (try dsimp only); decide), fun _ => g2 20 (lvl_of (show ix (hdt L) = 9 from e)).2⟩) (fun e => ⟨fun _ => ?_, fun z => absurd rfl z⟩)
    refine sq8_sign 45 (by decide) (by decide) hT h (fun e => ⟨fun z => absurd z (by (try dsimp only); decide), fun _ => g2 21 (lvl_of (show ix (hdt L) = 10 from e)).2⟩) (fun e2 => ⟨fun _ => g2 22 (lvl_of (show ix (hdt L) = 11 from ?_)).2, fun z => absurd rfl z⟩)
    have e : ¬ ix (hdt L) = 9 := e
    have e2 : ¬ ix (hdt L) = 10 := e2
    omega
  have k336 : ∀ l3, (ix (hdt L) = 7 ∨ ix (hdt L) = 8) → kl_X8_readsE_336 (nI ts.length) t cs nm (nI li) (ll_X8_readsE_21 (nI ts.length) t cs nm (nI li) Φ n) Φ (nI q) (nI b) T w td wr (nI c) lf lt cd op cm (nI d) l3 := by
    intro l3 hx
    have hlv : lv = 1 := by
      rcases hx with e | e <;> rw [(lvl_of e).1] at hl <;> rw [← hl] <;> decide
    unfold kl_X8_readsE_336
    rw [nI_clamp (n := d) (by omega)]
    refine fun _ => ⟨fun z => absurd (hcm hlv) z, fun _ => ?_⟩
    have g2 : ∀ v : Nat, inf (hdt L) = v → kl_X8_readsE_362 (nI ts.length) t cs nm (nI li) (ll_X8_readsE_21 (nI ts.length) t cs nm (nI li) Φ n) Φ (nI q) (nI b) T w td wr (nI c) lf lt cd op cm (nI d) (nI v) := by
      intro v hv
      refine sq8_puts (by omega) ?_
      rw [nI_clamp (n := d) (by omega)]
      exact fun _ => go v _ hv (fun j hj => pk_un hj) (fun e => absurd e (by omega)) (fun _ => by rw [pk_us]; exact bo_1) (fun e => absurd e (by omega))
    exact sq8_sign 60 (by decide) (by decide) hT h (fun e => ⟨fun z => absurd z (by (try dsimp only); decide), fun _ => g2 24 (lvl_of (show ix (hdt L) = 7 from e)).2⟩) (fun e => ⟨fun _ => g2 25 (lvl_of (show ix (hdt L) = 8 from by have e : ¬ ix (hdt L) = 7 := e; omega)).2, fun z => absurd rfl z⟩)
  have k397 : (ix (hdt L) = 29 ∨ ix (hdt L) = 30) → kl_X8_readsE_397 (nI ts.length) t cs nm (nI li) (ll_X8_readsE_21 (nI ts.length) t cs nm (nI li) Φ n) Φ (nI q) (nI b) T w td wr (nI c) lf lt cd op cm (nI d) := by
    intro hx
    have hlv : lv = 0 := by
      rcases hx with e | e <;> rw [(lvl_of e).1] at hl <;> rw [← hl] <;> decide
    have g2 : ∀ v : Nat, inf (hdt L) = v → kl_X8_readsE_415 (nI ts.length) t cs nm (nI li) (ll_X8_readsE_21 (nI ts.length) t cs nm (nI li) Φ n) Φ (nI q) (nI b) T w td wr (nI c) lf lt cd op cm (nI d) (nI v) := by
      intro v hv
      refine sq8_puts (by omega) ?_
      rw [nI_clamp (n := d) (by omega)]
      exact fun _ => go v _ hv (fun j hj => pk_un hj) (fun e => absurd e (by omega)) (fun e => absurd e (by omega)) (fun _ => by rw [pk_us]; exact bo_0)
    exact sq8_word 17 (by decide) rfl h (fun e => ⟨fun z => absurd z (by (try dsimp only); decide), fun _ => g2 26 (lvl_of (show ix (hdt L) = 29 from e)).2⟩) (fun e => ⟨fun _ => g2 27 (lvl_of (show ix (hdt L) = 30 from by omega)).2, fun z => absurd rfl z⟩)
  show bl_X8_readsE_21 _ _ _ _ _ _ _ _ _ _ _ _ _ _ _ _ _ _ _ _ _
  refine ⟨fun _ => ?_, fun z => absurd rfl z⟩
  refine sq8_sign 43 (by decide) (by decide) hT h (fun e => ⟨fun _ => k279 (Or.inl e), fun z => absurd z (by (try dsimp only); decide)⟩) (fun n9 => ⟨fun z => absurd rfl z, fun _ => ?_⟩)
  refine sq8_sign 45 (by decide) (by decide) hT h (fun e => ⟨fun _ => k279 (Or.inr (Or.inl e)), fun z => absurd z (by (try dsimp only); decide)⟩) (fun n10 => ⟨fun z => absurd rfl z, fun _ => ?_⟩)
  refine sq8_sign 42 (by decide) (by decide) hT h (fun e => ⟨fun z => absurd z (by (try dsimp only); decide), fun _ => k279 (Or.inr (Or.inr e))⟩) (fun n11 => ⟨fun _ => ?_, fun z => absurd rfl z⟩)
  refine sq8_sign 60 (by decide) (by decide) hT h (fun e => ⟨fun _ => k336 0 (Or.inl e), fun z => absurd z (by (try dsimp only); decide)⟩) (fun n7 => ⟨fun z => absurd rfl z, fun _ => ?_⟩)
  refine sq8_sign 61 (by decide) (by decide) hT h (fun e => ⟨fun z => absurd z (by (try dsimp only); decide), fun _ => k336 0 (Or.inr e)⟩) (fun n8 => ⟨fun _ => ?_, fun z => absurd rfl z⟩)
  have n9 : ¬ ix (hdt L) = 9 := n9
  have n10 : ¬ ix (hdt L) = 10 := n10
  have n11 : ¬ ix (hdt L) = 11 := n11
  have n7 : ¬ ix (hdt L) = 7 := n7
  have n8 : ¬ ix (hdt L) = 8 := n8
  have k9 := k397 (by omega)
  exact sq8_word 17 (by decide) rfl h (fun _ => ⟨fun _ => k9, fun z => absurd z (by (try dsimp only); decide)⟩) (fun e29 => ⟨fun z => absurd rfl z, fun _ => sq8_word 18 (by decide) rfl h (fun _ => ⟨fun z => absurd z (by (try dsimp only); decide), fun _ => k9⟩) (fun e30 => absurd (show 29 = 29 from rfl) (by omega))⟩)
/-- at a token that joins nothing: the way to 377 -/
theorem re_377 {q b : Nat} {T : Int32} {w : Int64} {td : Int32} (hT : TL ts t) (h : RR ts L q b T w td) (hd : d ≤ 1000) (h3 : lvl (hdt L) ≠ 3) (h2 : lvl (hdt L) ≠ 2) (h1 : lvl (hdt L) ≠ 1 ∨ ¬ cm d = 0) (k : kl_X8_readsE_377 (nI ts.length) t cs nm (nI li) (ll_X8_readsE_21 (nI ts.length) t cs nm (nI li) Φ n) Φ (nI q) (nI b) T w td wr (nI c) lf lt cd op cm (nI d) 0) : ll_X8_readsE_21 (nI ts.length) t cs nm (nI li) Φ (n + 1) (nI q) (nI b) T w td wr (nI c) lf lt cd op cm (nI d) 0 := by
  have no : ∀ i : Nat, lvT.getD i 4 = 3 ∨ lvT.getD i 4 = 2 → ¬ ix (hdt L) = i := fun i hi e => by
    have := (lvl_of e).1
    omega
  have k336 : lvl (hdt L) = 1 → kl_X8_readsE_336 (nI ts.length) t cs nm (nI li) (ll_X8_readsE_21 (nI ts.length) t cs nm (nI li) Φ n) Φ (nI q) (nI b) T w td wr (nI c) lf lt cd op cm (nI d) 0 := by
    intro e
    unfold kl_X8_readsE_336
    rw [nI_clamp (n := d) (by omega)]
    exact fun _ => ⟨fun _ => k, fun z => absurd z (h1.resolve_left (fun y => y e))⟩
  show bl_X8_readsE_21 _ _ _ _ _ _ _ _ _ _ _ _ _ _ _ _ _ _ _ _ _
  refine ⟨fun _ => ?_, fun z => absurd rfl z⟩
  refine sq8_sign 43 (by decide) (by decide) hT h (fun e => absurd e (no 9 (by decide))) (fun _ => ⟨fun z => absurd rfl z, fun _ => ?_⟩)
  refine sq8_sign 45 (by decide) (by decide) hT h (fun e => absurd e (no 10 (by decide))) (fun _ => ⟨fun z => absurd rfl z, fun _ => ?_⟩)
  refine sq8_sign 42 (by decide) (by decide) hT h (fun e => absurd e (no 11 (by decide))) (fun _ => ⟨fun _ => ?_, fun z => absurd rfl z⟩)
  refine sq8_sign 60 (by decide) (by decide) hT h (fun e => ⟨fun _ => k336 (lvl_of (show ix (hdt L) = 7 from e)).1, fun z => absurd z (by (try dsimp only); decide)⟩) (fun _ => ⟨fun z => absurd rfl z, fun _ => ?_⟩)
  exact sq8_sign 61 (by decide) (by decide) hT h (fun e => ⟨fun z => absurd z (by (try dsimp only); decide), fun _ => k336 (lvl_of (show ix (hdt L) = 8 from e)).1⟩) (fun _ => ⟨fun _ => k, fun z => absurd rfl z⟩)
/-- behind the last operand, outside of brackets: the end -/
theorem re_end {n : Nat} (hT : TL ts t) (hli : li < 192) (h3 : lvl (hdt L) ≠ 3) (h2 : lvl (hdt L) ≠ 2) (h1 : lvl (hdt L) ≠ 1 ∨ ¬ cm 0 = 0) (h0 : lvl (hdt L) ≠ 0) (fin : ∀ (q b : Nat) (T : Int32) (w : Int64) (td : Int32), RR ts L q b T w td → Φ 1 (nI q) (nI b) T w td wr (nI c) lf (upd lt li (nI c)) cd op cm) : LP8 ts t cs nm li Φ lf lt wr n 0 L c cd op cm 0 := by
  intro q b T w td h
  cases n with
  | zero => trivial
  | succ n =>
    have out : kl_X8_readsE_472 (nI ts.length) t cs nm (nI li) Φ (nI q) (nI b) T w td wr (nI c) lf lt cd op cm (nI 0) := by
      unfold kl_X8_readsE_472
      rw [nI_clamp (n := li) (by omega)]
      exact ⟨fun _ _ => fin q b T w td h, fun z => absurd (by decide) z⟩
    refine re_377 hT h (by decide) h3 h2 h1 ?_
    refine sq8_word 17 (by decide) rfl h (fun e => absurd (lvl_of (show ix (hdt L) = 29 from e)).1 (fun y => h0 y)) (fun _ => ⟨fun z => absurd rfl z, fun _ => ?_⟩)
    refine sq8_word 18 (by decide) rfl h (fun e => absurd (lvl_of (show ix (hdt L) = 30 from e)).1 (fun y => h0 y)) (fun _ => ⟨fun _ => ?_, fun z => absurd rfl z⟩)
    exact sq8_sign 41 (by decide) (by decide) hT h (fun e => ⟨fun z => absurd z (by (try dsimp only); decide), fun _ => ⟨fun _ => out, fun z => absurd (by decide) z⟩⟩) (fun _ => ⟨fun _ => out, fun z => absurd rfl z⟩)
theorem re_pop452 {n : Nat} {q b : Nat} {T : Int32} {w : Int64} {td : Int32} (hT : TL ts t) (h : RR ts L q b T w td) : ∀ (k : Nat) (M : List Bool), M.length ≤ 1000 → OP op M → LP8 ts t cs nm li Φ lf lt wr n (popN M).length (adv L) c cd op cm 0 → ll_X8_readsE_452 (nI ts.length) t cs nm (nI li) (ll_X8_readsE_21 (nI ts.length) t cs nm (nI li) Φ n) Φ k (nI q) (nI b) T w td wr (nI c) lf lt cd op cm (nI M.length) 0 := by
  intro k
  induction k with
  | zero => intros; trivial
  | succ k ih =>
    intro M hM hO hL
    show bl_X8_readsE_452 _ _ _ _ _ _ _ _ _ _ _ _ _ _ _ _ _ _ _ _ _ _
    unfold bl_X8_readsE_452
    rw [nI_clamp (n := M.length) (by omega)]
    cases M with
    | nil => exact ⟨fun _ => sq8_next hT h (fun q' b' T' w' td' h' => hL q' b' T' w' td' h'), fun z => absurd (by decide) z⟩
    | cons x M =>
      have hl : (x :: M).length = M.length + 1 := rfl
      rw [hl] at hM ⊢
      refine ⟨fun z => absurd z (nI_nle (by omega) (by omega)), fun _ _ => ?_⟩
      cases x with
      | true => exact ⟨fun z => absurd hO.1 z, fun _ => by rw [pk_m1]; exact ih M (by omega) hO.2 hL⟩
      | false => exact ⟨fun _ => sq8_next hT h (fun q' b' T' w' td' h' => hL q' b' T' w' td' h'), fun z => absurd (hO.1.symm.trans z) (by decide)⟩
theorem re_pop229 {n : Nat} {q b : Nat} {T : Int32} {w : Int64} {td : Int32} (hT : TL ts t) (h : RR ts L q b T w td) : ∀ (k : Nat) (M : List Bool), M.length ≤ 1000 → OP op M → LP8 ts t cs nm li Φ lf lt wr n (popN M).length (adv L) c cd op cm 0 → ll_X8_readsE_229 (nI ts.length) t cs nm (nI li) (ll_X8_readsE_21 (nI ts.length) t cs nm (nI li) Φ n) Φ k (nI q) (nI b) T w td wr (nI c) lf lt cd op cm (nI M.length) 0 := by
  intro k
  induction k with
  | zero => intros; trivial
  | succ k ih =>
    intro M hM hO hL
    show bl_X8_readsE_229 _ _ _ _ _ _ _ _ _ _ _ _ _ _ _ _ _ _ _ _ _ _
    unfold bl_X8_readsE_229
    rw [nI_clamp (n := M.length) (by omega)]
    cases M with
    | nil => exact ⟨fun _ => sq8_next hT h (fun q' b' T' w' td' h' => hL q' b' T' w' td' h'), fun z => absurd (by decide) z⟩
    | cons x M =>
      have hl : (x :: M).length = M.length + 1 := rfl
      rw [hl] at hM ⊢
      refine ⟨fun z => absurd z (nI_nle (by omega) (by omega)), fun _ _ => ?_⟩
      cases x with
      | true => exact ⟨fun z => absurd hO.1 z, fun _ => by rw [pk_m1]; exact ih M (by omega) hO.2 hL⟩
      | false => exact ⟨fun _ => sq8_next hT h (fun q' b' T' w' td' h' => hL q' b' T' w' td' h'), fun z => absurd (hO.1.symm.trans z) (by decide)⟩
/-- inside of brackets, behind the last operand -/
theorem re_close {n : Nat} {S : List Bool} (hT : TL ts t) (hS : S.length ≤ 100) (hO : OP op (false :: S)) (hc : c < 2000) (h3 : lvl (hdt L) ≠ 3) (h2 : lvl (hdt L) ≠ 2) (h1 : lvl (hdt L) ≠ 1 ∨ ¬ cm (S.length + 1) = 0) (h0 : lvl (hdt L) ≠ 0) (bad : ¬ ix (hdt L) = 5 → FL8 Φ lf lt (flt 1 L) c cd) (good : ix (hdt L) = 5 → ∀ n' cd', CW c [29] cd cd' → LP8 ts t cs nm li Φ lf lt wr n' (popN S).length (adv L) (c + 1) cd' op cm 0) : LP8 ts t cs nm li Φ lf lt wr n (S.length + 1) L c cd op cm 0 := by
  intro q b T w td h
  cases n with
  | zero => trivial
  | succ n =>
    refine re_377 hT h (by omega) h3 h2 h1 ?_
    have npos : ¬ nI (S.length + 1) ≤ 0 := nI_nle (by omega) (by omega)
    have out : ¬ ix (hdt L) = 5 → kl_X8_readsE_472 (nI ts.length) t cs nm (nI li) Φ (nI q) (nI b) T w td wr (nI c) lf lt cd op cm (nI (S.length + 1)) := by
      intro n5
      refine ⟨fun z => absurd z npos, fun _ => ?_⟩
      show ((0 : Int32) = 0 ∨ (0 : Int32) = 1) → _
      have e : (1 : Int32) + 16 * nI b = nI (flt 1 L) := h.fltZ 1
      rw [e]
      exact fun _ => bad n5 _ _ _ _ _ _ _ _ _ (fun j _ => rfl)
    refine sq8_word 17 (by decide) rfl h (fun e => absurd (lvl_of (show ix (hdt L) = 29 from e)).1 (fun y => h0 y)) (fun _ => ⟨fun z => absurd rfl z, fun _ => ?_⟩)
    refine sq8_word 18 (by decide) rfl h (fun e => absurd (lvl_of (show ix (hdt L) = 30 from e)).1 (fun y => h0 y)) (fun _ => ⟨fun _ => ?_, fun z => absurd rfl z⟩)
    refine sq8_sign 41 (by decide) (by decide) hT h (fun e => ⟨fun z => absurd z (by (try dsimp only); decide), fun _ => ⟨fun z => absurd z npos, fun _ => ?_⟩⟩) (fun n5 => ⟨fun _ => out n5, fun z => absurd rfl z⟩)
    refine sq8_puts (by omega) ?_
    rw [pk_m1]
    exact fun k => re_pop452 hT h k S (by omega) hO.2 (good e n _ (CW.one (v := 29) hc))
end ST8
end RE8
