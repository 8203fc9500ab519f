section CK9
variable {worn cells code : Nat → Int32} {n cl : Nat}
theorem sq1_lineOf {v : Int32} {Φ : Int32 → Prop} (h0 : 0 < n) (h16 : n ≤ 16) (h : Φ (nI (lnOf v n))) : wl_X1_lineOf (nI n) v Φ := by
  have e := lnOf_eq v (v - v / nI n * nI n) h0 h16 rfl
  refine ⟨fun _ _ => ⟨fun z => ?_, fun z => ?_⟩, fun z => absurd z (nI_ne0 h0 (by omega))⟩
  · rw [e.2 (Int32.not_lt.mpr z)]; exact h
  · rw [e.1 (Int32.not_le.mp z)]; exact h
theorem sq1_joined {o : Nat} {x y : Int32} {Φ : Int32 → Prop} (ho : 4 ≤ o) (ho2 : o < 16) (h : Φ (jn o x y)) : wl_X1_joined (nI o) x y Φ := by
  have q : ∀ j : Nat, j < 100 → (nI o = nI j ↔ o = j) := fun j hj => nI_eq (by omega) (by omega)
  have q4 : nI o = 4 ↔ o = 4 := q 4 (by decide)
  have q5 : nI o = 5 ↔ o = 5 := q 5 (by decide)
  have q6 : nI o = 6 ↔ o = 6 := q 6 (by decide)
  have q7 : nI o = 7 ↔ o = 7 := q 7 (by decide)
  have q8 : nI o = 8 ↔ o = 8 := q 8 (by decide)
  have q9 : nI o = 9 ↔ o = 9 := q 9 (by decide)
  unfold wl_X1_joined
  rw [q4, q5, q6, q7, q8, q9, nI_toInt (by omega)]
  refine ⟨fun e => ?_, fun e => ?_, fun e => ?_, fun e => ?_, fun e => ?_, fun e => ?_, fun e => ?_⟩
  · have ej : jn o x y = if ¬ x = 0 ∧ ¬ y = 0 then 1 else 0 := by rw [e]; rfl
    rw [ej] at h
    refine ⟨fun z => ?_, fun z => ⟨fun z2 => ?_, fun z2 => ?_⟩⟩
    · rw [if_neg (fun q => q.1 z)] at h; exact h
    · rw [if_neg (fun q => q.2 z2)] at h; exact h
    · rw [if_pos ⟨z, z2⟩] at h; exact h
  · have ej : jn o x y = if ¬ x = 0 ∨ ¬ y = 0 then 1 else 0 := by rw [e]; rfl
    rw [ej] at h
    refine ⟨fun z => ?_, fun z => ⟨fun z2 => ?_, fun z2 => ?_⟩⟩
    · rw [if_pos (Or.inl z)] at h; exact h
    · rw [if_neg (fun q => q.elim (fun q => q z) (fun q => q z2))] at h; exact h
    · rw [if_pos (Or.inr z2)] at h; exact h
  · have ej : jn o x y = if x < y then 1 else 0 := by rw [e]; rfl
    rw [ej] at h
    refine ⟨fun z => ?_, fun z => ?_⟩
    · rw [if_neg (Int32.not_lt.mpr z)] at h; exact h
    · rw [if_pos (Int32.not_le.mp z)] at h; exact h
  · have ej : jn o x y = if x = y then 1 else 0 := by rw [e]; rfl
    rw [ej] at h
    refine ⟨fun z => ?_, fun z => ?_⟩
    · rw [if_neg z] at h; exact h
    · rw [if_pos z] at h; exact h
  · have ej : jn o x y = x + y := by rw [e]; rfl
    rw [ej] at h; exact h
  · have ej : jn o x y = x - y := by rw [e]; rfl
    rw [ej] at h; exact h
  · have ej : jn o x y = x * y := by
      unfold jn
      rw [if_neg (by omega), if_neg (by omega), if_neg (by omega), if_neg (by omega), if_neg (by omega), if_neg (by omega)]
    rw [ej] at h; exact h
/-- the class's stack holds st, its top first -/
def SK9 (st : List Int32) (sk : Nat → Int32) : Prop := ∀ (j : Nat) (x : Int32), st.reverse[j]? = some x → sk j = x
theorem SK9.push {st : List Int32} {sk : Nat → Int32} {x : Int32} (h : SK9 st sk) : SK9 (x :: st) (upd sk st.length x) := by
  intro j y hj
  rw [List.reverse_cons] at hj
  rcases app_get hj with hj | ⟨e, e2⟩
  · have := get_lt hj
    rw [List.length_reverse] at this
    rw [pk_un (by omega)]
    exact h j y hj
  · rw [List.length_reverse] at e
    rw [e, pk_us, e2]
theorem SK9.top {st : List Int32} {sk : Nat → Int32} {x : Int32} (h : SK9 (x :: st) sk) : sk st.length = x ∧ SK9 st sk := by
  refine ⟨h st.length x ?_, fun j y hj => h j y ?_⟩
  · rw [List.reverse_cons, List.getElem?_append_right (by rw [List.length_reverse]; exact Nat.le_refl _), List.length_reverse, Nat.sub_self]
    rfl
  · rw [List.reverse_cons, List.getElem?_append_left (get_lt hj)]
    exact hj
theorem SK9.put {st : List Int32} {sk : Nat → Int32} {x : Int32} (h : SK9 st sk) : SK9 (x :: st) (upd sk st.length x) := h.push
theorem sq1_reckon {p : List Nat} {o : Nat} {sk : Nat → Int32} {Φ : Int32 → (Nat → Int32) → Prop} (h0 : 0 < n) (h16 : n ≤ 16) (hcl : cl ≤ 1000) (ho : o + p.length ≤ cl) (hc : ∀ j c, p[j]? = some c → code (o + j) = nI c ∧ c < 2 ^ 30) (hb : ∀ k, (pvs cells (fun x => worn (lnOf x n)) (p.take k) []).length ≤ 24) (h : ∀ sk', Φ (((pvs cells (fun x => worn (lnOf x n)) p []).reverse[0]?).getD 0) sk') : wl_X1_reckon worn cells (nI n) code cl (nI o) (nI (o + p.length)) sk Φ := by
  have key : ∀ (m k : Nat) (sk : Nat → Int32), k ≤ p.length → SK9 (pvs cells (fun x => worn (lnOf x n)) (p.take k) []) sk → ll_X1_reckon_23 worn cells (nI n) code cl (nI o) (nI (o + p.length)) Φ m sk (nI (pvs cells (fun x => worn (lnOf x n)) (p.take k) []).length) (nI (o + p.length)) (nI (o + k)) := by
    intro m
    induction m with
    | zero => intros; trivial
    | succ m ih =>
      intro k sk hk hs
      have hb1 := hb k
      have hbk := hb (k + 1)
      show bl_X1_reckon_23 _ _ _ _ _ _ _ _ _ _ _ _ _
      unfold bl_X1_reckon_23
      rw [nI_leI (by omega) (by omega)]
      refine ⟨fun z => ?_, fun z _ _ => ?_⟩
      · have e : k = p.length := by omega
        subst e
        rw [List.take_length] at hs ⊢
        cases hp : pvs cells (fun x => worn (lnOf x n)) p [] with
        | nil =>
          rw [hp] at h
          exact ⟨fun _ => h _, fun y => absurd (by decide) y⟩
        | cons x r =>
          rw [hp] at h hs
          rw [List.take_length, hp] at hb1
          have hb2 : (x :: r).length ≤ 24 := hb1
          refine ⟨fun y => absurd y (nI_nle (Nat.succ_pos _) (by omega)), fun _ => ?_⟩
          have e0 : (x :: r).reverse[0]? = some (((x :: r).reverse[0]?).getD 0) := by
            have : 0 < (x :: r).reverse.length := by rw [List.length_reverse]; exact Nat.succ_pos _
            rw [List.getElem?_eq_getElem this]
            rfl
          have es := hs 0 _ e0
          rw [es]
          exact h _
      · have hlt : k < p.length := by omega
        have hg : p[k]? = some p[k] := List.getElem?_eq_getElem hlt
        obtain ⟨c1, c2⟩ := hc k _ hg
        have et : p.take (k + 1) = p.take k ++ [p[k]] := by rw [List.take_add_one, hg]; rfl
        have ep : pvs cells (fun x => worn (lnOf x n)) (p.take (k + 1)) [] = pv1 cells (fun x => worn (lnOf x n)) (pvs cells (fun x => worn (lnOf x n)) (p.take k) []) p[k] := by rw [et, pvs_app]; rfl
        have nx := fun sk' => ih (k + 1) sk' hlt
        rw [ep] at nx hbk
        generalize pvs cells (fun x => worn (lnOf x n)) (p.take k) [] = st at hs hb1 hbk nx ⊢
        generalize p[k] = c at c1 c2 nx hbk ⊢
        have ea : nI c &&& 15 = nI (c % 16) := pk_andN (by omega) 4 (by decide)
        have es : nI c >>> ((4 : Int32) &&& 31) = nI (c / 16) := pk_shrN (by omega) _ 4 (by decide)
        have hm : c % 16 < 16 := Nat.mod_lt _ (by decide)
        rw [nI_clamp (n := o + k) (by omega), c1, ea, es, nI_1]
        have k1 : (1 : Int32) < nI (c % 16) ↔ 1 < c % 16 := nI_ltI (a := 1) (by decide) (by omega)
        have k32 : (32 : Int32) ≤ nI st.length ↔ 32 ≤ st.length := nI_leI (a := 32) (by decide) (by omega)
        have q : ∀ j : Nat, j < 100 → (nI (c % 16) = nI j ↔ c % 16 = j) := fun j hj => nI_eq (by omega) (by omega)
        have q0 : nI (c % 16) = 0 ↔ c % 16 = 0 := q 0 (by decide)
        have q2 : nI (c % 16) = 2 ↔ c % 16 = 2 := q 2 (by decide)
        have q3 : nI (c % 16) = 3 ↔ c % 16 = 3 := q 3 (by decide)
        have t0 : nI st.length ≤ 0 ↔ st.length ≤ 0 := nI_leI (b := 0) (by omega) (by decide)
        have t1 : nI st.length ≤ 1 ↔ st.length ≤ 1 := nI_leI (b := 1) (by omega) (by decide)
        have ok : o + k + 1 = o + (k + 1) := by omega
        rw [k1, k32, q0]
        refine ⟨fun z2 => ?_, fun z2 => ⟨fun y => absurd y (by omega), fun _ => ⟨fun z0 _ _ => ?_, fun z0 _ => ?_⟩⟩⟩
        · -- a code that takes from the stack
          have k175 : 4 ≤ c % 16 ∨ st.length = 0 → kl_X1_reckon_175 worn cells (nI n) code cl (nI o) (nI (o + p.length)) (ll_X1_reckon_23 worn cells (nI n) code cl (nI o) (nI (o + p.length)) Φ m) Φ sk (nI st.length) (nI (o + p.length)) (nI (o + k)) (nI (c % 16)) := by
            intro hor
            unfold kl_X1_reckon_175
            rw [t1, nI_1, ok]
            match st, hs, hb1, hbk, nx, hor with
            | [], hs, _, _, nx, _ =>
              have e : pv1 cells (fun x => worn (lnOf x n)) [] c = [] := by
                unfold pv1
                rw [if_neg (by omega), if_neg (by omega)]
              rw [e] at nx
              exact ⟨fun _ => nx sk hs, fun y => absurd (by decide) y⟩
            | [x], hs, _, _, nx, hor =>
              have h4 : 4 ≤ c % 16 := hor.resolve_right (by simp)
              have e : pv1 cells (fun x => worn (lnOf x n)) [x] c = [x] := by
                unfold pv1
                rw [if_neg (by omega), if_neg (by omega)]
                show (if c % 16 = 2 then _ else if c % 16 = 3 then _ else _) = _
                rw [if_neg (by omega), if_neg (by omega)]
              rw [e] at nx
              exact ⟨fun _ => nx sk hs, fun y => absurd (show [x].length ≤ 1 from Nat.le_refl _) y⟩
            | y :: x :: r, hs, hb1, _, nx, hor =>
              have hl : (y :: x :: r).length = r.length + 2 := rfl
              have h4 : 4 ≤ c % 16 := hor.resolve_right (by rw [hl]; omega)
              have e : pv1 cells (fun x => worn (lnOf x n)) (y :: x :: r) c = jn (c % 16) x y :: r := by
                unfold pv1
                rw [if_neg (by omega), if_neg (by omega)]
                show (if c % 16 = 2 then _ else if c % 16 = 3 then _ else _) = _
                rw [if_neg (by omega), if_neg (by omega)]
              rw [e] at nx
              rw [hl] at hb1
              obtain ⟨s1, s2⟩ := hs.top
              obtain ⟨s3, s4⟩ := s2.top
              have s1 : sk (r.length + 1) = y := s1
              rw [hl, pk_m1]
              have em : nI (r.length + 1) - 1 = nI r.length := nI_pred _
              rw [em, nI_clamp (n := r.length) (by omega), nI_clamp (n := r.length + 1) (by omega), s1, s3]
              exact ⟨fun y => absurd y (by omega), fun _ _ _ => sq1_joined h4 hm (fun _ => nx _ s4.push)⟩
          unfold kl_X1_reckon_100
          rw [q2, t0, nI_1, ok]
          have k138 : (c % 16 = 2 → st.length = 0) → kl_X1_reckon_138 worn cells (nI n) code cl (nI o) (nI (o + p.length)) (ll_X1_reckon_23 worn cells (nI n) code cl (nI o) (nI (o + p.length)) Φ m) Φ sk (nI st.length) (nI (o + p.length)) (nI (o + k)) (nI (c % 16)) := by
            intro h2
            unfold kl_X1_reckon_138
            rw [q3, t0, nI_1, ok]
            refine ⟨fun n3 => k175 (by omega), fun e3 => ⟨fun y => k175 (Or.inr (by omega)), fun y _ => ?_⟩⟩
            match st, hs, hb1, nx, y with
            | [], _, _, _, y => exact absurd (Nat.le_refl 0) y
            | x :: r, hs, hb1, nx, _ =>
              have hl : (x :: r).length = r.length + 1 := rfl
              have e : pv1 cells (fun x => worn (lnOf x n)) (x :: r) c = nt x :: r := by
                unfold pv1
                rw [if_neg (by omega), if_neg (by omega)]
                show (if c % 16 = 2 then _ else if c % 16 = 3 then _ else _) = _
                rw [if_neg (by omega), if_pos e3]
              rw [e] at nx
              rw [hl] at hb1 ⊢
              obtain ⟨s1, s2⟩ := hs.top
              have em : nI (r.length + 1) - 1 = nI r.length := nI_pred _
              rw [em, nI_clamp (n := r.length) (by omega), s1]
              have nx9 := nx _ s2.push
              have hl2 : (nt x :: r).length = r.length + 1 := rfl
              rw [hl2] at nx9
              unfold nt at nx9
              refine ⟨fun z _ => ?_, fun z _ => ?_⟩
              · rw [if_neg z] at nx9; exact nx9
              · rw [if_pos z] at nx9; exact nx9
          refine ⟨fun n2 => k138 (fun z => absurd z n2), fun e2 => ⟨fun y => k138 (fun _ => by omega), fun y _ => ?_⟩⟩
          match st, hs, hb1, nx, y with
          | [], _, _, _, y => exact absurd (Nat.le_refl 0) y
          | x :: r, hs, hb1, nx, _ =>
            have hl : (x :: r).length = r.length + 1 := rfl
            have e : pv1 cells (fun x => worn (lnOf x n)) (x :: r) c = worn (lnOf x n) :: r := by
              unfold pv1
              rw [if_neg (by omega), if_neg (by omega)]
              show (if c % 16 = 2 then _ else if c % 16 = 3 then _ else _) = _
              rw [if_pos e2]
            rw [e] at nx
            rw [hl] at hb1 ⊢
            obtain ⟨s1, s2⟩ := hs.top
            have em : nI (r.length + 1) - 1 = nI r.length := nI_pred _
            rw [em, nI_clamp (n := r.length) (by omega), s1]
            have hln := lnOf_lt x h0
            refine sq1_lineOf h0 h16 (fun _ _ => ?_)
            rw [nI_clamp (n := lnOf x n) (by omega)]
            exact nx _ s2.push
        · -- a cell
          have e : pv1 cells (fun x => worn (lnOf x n)) st c = cells (c / 16) :: st := by
            unfold pv1
            rw [if_neg z0, if_pos (by omega)]
          rw [e] at nx
          rw [nI_clamp (n := c / 16) (by omega), nI_clamp (n := st.length) (by omega), nI_1, ok]
          exact nx _ hs.push
        · -- a number
          have e : pv1 cells (fun x => worn (lnOf x n)) st c = nI (c / 16) :: st := by
            unfold pv1
            rw [if_pos z0]
          rw [e] at nx
          rw [nI_clamp (n := st.length) (by omega), nI_1, ok]
          exact nx _ hs.push
  have ecl : (if nI cl < nI (o + p.length) then nI cl else nI (o + p.length)) = nI (o + p.length) := if_neg (fun y => absurd ((nI_ltI (by omega) (by omega)).mp y) (by omega))
  have eo : (if (0 : Int32) < nI o then nI o else (0 : Int32)) = nI o := by
    by_cases e : 0 < o
    · exact if_pos ((nI_ltI (a := 0) (b := o) (by decide) (by omega)).mpr e)
    · have : o = 0 := by omega
      subst this
      rfl
  unfold wl_X1_reckon
  rw [ecl, eo]
  exact fun m => key m 0 sk (Nat.zero_le _) (fun j x hj => by simp [pvs] at hj)
end CK9
