def upM {α : Type} (f : Nat → α) (k : Nat) (x : α) : Nat → α := fun i => cond (Nat.beq i k) x (f i)
def mi5 (a b c d e : Int32) : Nat → Int32
  | 0 => a
  | 1 => b
  | 2 => c
  | 3 => d
  | _ => e
def ma6 (a b c d e f : Nat → Int32) : Nat → Nat → Int32
  | 0 => a
  | 1 => b
  | 2 => c
  | 3 => d
  | 4 => e
  | _ => f
def ma4 (a b c d : Nat → Int32) : Nat → Nat → Int32
  | 0 => a
  | 1 => b
  | 2 => c
  | _ => d
/-- all cells of the object but those of programmes -/
def XL (ak : Nat → ClassId) (ad : Nat → Nat) (h7 : Nat) (xa ta ra ma wa ga sa la gq mk : Nat → Nat) (ka : Nat → Nat → Nat) (n : Nat) (M : Nat → Nat × (Nat → Int32) × (Nat → Nat → Int32)) (tr : ((Int32) × (Nat → Int32) × (Nat → Nat) × (Nat → Int32) × (Nat → Int64) × (Int32) × (Nat) × (Int32) × (Nat) × (Int32) × (Int64) × (Int32) × (Nat → Int64) × (Nat → Int64) × (Nat → Int32))) (bm : Nat → Int32) (sf : Option Nat) (sn : Int32) (so : Nat → Nat → Int32) (lp : Nat) (lu : Int32) (lt : Int32) (lk : Nat → Int32) (lr : Nat → Nat → Int32) : va_W := [(h7, .inr (6, wob xa)), (xa 0, .inr (5, tob ta (nI n) (tr.1))), (ta 0, .inl (ak 2, 1000, .inl (tr.2.1))), (ta 1, .inl (ak 4, 1001, .inr (.inr (.inr (.inr (tokA ad (tr.2.2.1))))))), (ta 2, .inl (ak 0, 1001, .inl (tr.2.2.2.1))), (ta 3, .inl (ak 1, 1001, .inr (.inl (tr.2.2.2.2.1)))), (xa 2, .inr (3, rob ad ra (xa 0) (tr.2.2.2.2.2.1) (tr.2.2.2.2.2.2.1) (tr.2.2.2.2.2.2.2.1) (tr.2.2.2.2.2.2.2.2.1) (tr.2.2.2.2.2.2.2.2.2.1) (tr.2.2.2.2.2.2.2.2.2.2.1) (tr.2.2.2.2.2.2.2.2.2.2.2.1))), (ra 0, .inl (ak 1, 4, .inr (.inl (tr.2.2.2.2.2.2.2.2.2.2.2.2.1)))), (ra 1, .inl (ak 1, 6, .inr (.inl (tr.2.2.2.2.2.2.2.2.2.2.2.2.2.1)))), (ra 2, .inl (ak 0, 1000, .inl (tr.2.2.2.2.2.2.2.2.2.2.2.2.2.2))), (xa 3, .inr (1, xob ma ((M 0).1) (((M 0).2.1 0)) (((M 0).2.1 1)) (((M 0).2.1 2)) (((M 0).2.1 3)) (((M 0).2.1 4)))), (ma 0, .inl (ak 0, 16, .inl ((M 0).2.2 0))), (ma 1, .inl (ak 0, 16, .inl ((M 0).2.2 1))), (ma 2, .inl (ak 0, 16, .inl ((M 0).2.2 2))), (ma 3, .inl (ak 0, 6, .inl ((M 0).2.2 3))), (ma 4, .inl (ak 0, 200, .inl ((M 0).2.2 4))), (ma 5, .inl (ak 0, 32, .inl ((M 0).2.2 5))), (xa 4, .inr (1, xob wa ((M 1).1) (((M 1).2.1 0)) (((M 1).2.1 1)) (((M 1).2.1 2)) (((M 1).2.1 3)) (((M 1).2.1 4)))), (wa 0, .inl (ak 0, 16, .inl ((M 1).2.2 0))), (wa 1, .inl (ak 0, 16, .inl ((M 1).2.2 1))), (wa 2, .inl (ak 0, 16, .inl ((M 1).2.2 2))), (wa 3, .inl (ak 0, 6, .inl ((M 1).2.2 3))), (wa 4, .inl (ak 0, 1000, .inl ((M 1).2.2 4))), (wa 5, .inl (ak 0, 32, .inl ((M 1).2.2 5))), (xa 5, .inr (1, xob ga ((M 2).1) (((M 2).2.1 0)) (((M 2).2.1 1)) (((M 2).2.1 2)) (((M 2).2.1 3)) (((M 2).2.1 4)))), (ga 0, .inl (ak 0, 16, .inl ((M 2).2.2 0))), (ga 1, .inl (ak 0, 16, .inl ((M 2).2.2 1))), (ga 2, .inl (ak 0, 16, .inl ((M 2).2.2 2))), (ga 3, .inl (ak 0, 6, .inl ((M 2).2.2 3))), (ga 4, .inl (ak 0, 1000, .inl ((M 2).2.2 4))), (ga 5, .inl (ak 0, 32, .inl ((M 2).2.2 5))), (xa 6, .inl (ak 5, 4, .inr (.inr (.inr (.inr (mkA mk)))))), (xa 7, .inl (ak 3, 4, .inl bm)), (mk 0, .inr (1, xob (ka 0) ((M 3).1) (((M 3).2.1 0)) (((M 3).2.1 1)) (((M 3).2.1 2)) (((M 3).2.1 3)) (((M 3).2.1 4)))), ((ka 0) 0, .inl (ak 0, 16, .inl ((M 3).2.2 0))), ((ka 0) 1, .inl (ak 0, 16, .inl ((M 3).2.2 1))), ((ka 0) 2, .inl (ak 0, 16, .inl ((M 3).2.2 2))), ((ka 0) 3, .inl (ak 0, 6, .inl ((M 3).2.2 3))), ((ka 0) 4, .inl (ak 0, 200, .inl ((M 3).2.2 4))), ((ka 0) 5, .inl (ak 0, 32, .inl ((M 3).2.2 5))), (mk 1, .inr (1, xob (ka 1) ((M 4).1) (((M 4).2.1 0)) (((M 4).2.1 1)) (((M 4).2.1 2)) (((M 4).2.1 3)) (((M 4).2.1 4)))), ((ka 1) 0, .inl (ak 0, 16, .inl ((M 4).2.2 0))), ((ka 1) 1, .inl (ak 0, 16, .inl ((M 4).2.2 1))), ((ka 1) 2, .inl (ak 0, 16, .inl ((M 4).2.2 2))), ((ka 1) 3, .inl (ak 0, 6, .inl ((M 4).2.2 3))), ((ka 1) 4, .inl (ak 0, 200, .inl ((M 4).2.2 4))), ((ka 1) 5, .inl (ak 0, 32, .inl ((M 4).2.2 5))), (mk 2, .inr (1, xob (ka 2) ((M 5).1) (((M 5).2.1 0)) (((M 5).2.1 1)) (((M 5).2.1 2)) (((M 5).2.1 3)) (((M 5).2.1 4)))), ((ka 2) 0, .inl (ak 0, 16, .inl ((M 5).2.2 0))), ((ka 2) 1, .inl (ak 0, 16, .inl ((M 5).2.2 1))), ((ka 2) 2, .inl (ak 0, 16, .inl ((M 5).2.2 2))), ((ka 2) 3, .inl (ak 0, 6, .inl ((M 5).2.2 3))), ((ka 2) 4, .inl (ak 0, 200, .inl ((M 5).2.2 4))), ((ka 2) 5, .inl (ak 0, 32, .inl ((M 5).2.2 5))), (mk 3, .inr (1, xob (ka 3) ((M 6).1) (((M 6).2.1 0)) (((M 6).2.1 1)) (((M 6).2.1 2)) (((M 6).2.1 3)) (((M 6).2.1 4)))), ((ka 3) 0, .inl (ak 0, 16, .inl ((M 6).2.2 0))), ((ka 3) 1, .inl (ak 0, 16, .inl ((M 6).2.2 1))), ((ka 3) 2, .inl (ak 0, 16, .inl ((M 6).2.2 2))), ((ka 3) 3, .inl (ak 0, 6, .inl ((M 6).2.2 3))), ((ka 3) 4, .inl (ak 0, 200, .inl ((M 6).2.2 4))), ((ka 3) 5, .inl (ak 0, 32, .inl ((M 6).2.2 5))), (xa 8, .inr (4, sob sa sf sn)), (sa 0, .inl (ak 0, 16, .inl (so 0))), (sa 1, .inl (ak 0, 16, .inl (so 1))), (sa 2, .inl (ak 0, 16, .inl (so 2))), (sa 3, .inl (ak 0, 16, .inl (so 3))), (xa 9, .inr (0, lob la lp lu lt)), (la 0, .inl (ak 0, 16, .inl lk)), (la 1, .inl (ak 6, 17, .inr (.inr (.inr (.inr (grA gq))))))] ++ gRows ak gq lr
theorem XL_len {ak : Nat → ClassId} {ad : Nat → Nat} {h7 : Nat} {xa ta ra ma wa ga sa la gq mk : Nat → Nat} {ka : Nat → Nat → Nat} {n : Nat} {M : Nat → Nat × (Nat → Int32) × (Nat → Nat → Int32)} {tr : ((Int32) × (Nat → Int32) × (Nat → Nat) × (Nat → Int32) × (Nat → Int64) × (Int32) × (Nat) × (Int32) × (Nat) × (Int32) × (Int64) × (Int32) × (Nat → Int64) × (Nat → Int64) × (Nat → Int32))} {bm : Nat → Int32} {sf : Option Nat} {sn : Int32} {so : Nat → Nat → Int32} {lp : Nat} {lu : Int32} {lt : Int32} {lk : Nat → Int32} {lr : Nat → Nat → Int32} : (XL ak ad h7 xa ta ra ma wa ga sa la gq mk ka n M tr bm sf sn so lp lu lt lk lr).length = 86 := rfl
/-- the cells of a programme -/
def PWl (ak : Nat → ClassId) (pg : Nat) (pa : Nat → Nat) (cl : Nat) (x0 x1 x2 x3 : Int32) (be co to_ gc le gr ac sq tg fr mi en cd : Nat → Int32) : va_W := [(pg, .inr (2, pob pa x0 x1 x2 x3)), (pa 0, .inl (ak 0, 4, .inl be)), (pa 1, .inl (ak 0, 4, .inl co)), (pa 2, .inl (ak 0, 6, .inl to_)), (pa 3, .inl (ak 0, 2, .inl gc)), (pa 4, .inl (ak 0, 2, .inl le)), (pa 5, .inl (ak 0, 2, .inl gr)), (pa 6, .inl (ak 0, 16, .inl ac)), (pa 7, .inl (ak 0, 16, .inl sq)), (pa 8, .inl (ak 0, 16, .inl tg)), (pa 9, .inl (ak 0, 16, .inl fr)), (pa 10, .inl (ak 0, 16, .inl mi)), (pa 11, .inl (ak 0, 16, .inl en)), (pa 12, .inl (ak 0, cl, .inl cd))]
/-- a good programme lies in the pool -/
def PGo (ak : Nat → ClassId) (PL : va_W) (p : Nat) : Prop := ∃ (pa : Nat → Nat) (cl ps pe pi_ pn : Nat) (be co to_ gc le gr ac sq tg fr mi en cd : Nat → Int32), PK ps pe pi_ pn sq tg cl cd ∧ ∀ q ∈ PWl ak p pa cl (nI ps) (nI pe) (nI pi_) (nI pn) be co to_ gc le gr ac sq tg fr mi en cd, q ∈ PL
def MI (ak : Nat → ClassId) (PL : va_W) (p : Nat) (c d : Int32) (st : Nat → Int32) : Prop := PGo ak PL p ∧ HC c d ∧ AS st
theorem PGo.app {ak : Nat → ClassId} {PL w : va_W} {p : Nat} (h : PGo ak PL p) : PGo ak (PL ++ w) p := by
  obtain ⟨pa, cl, ps, pe, pi_, pn, be, co, to_, gc, le, gr, ac, sq, tg, fr, mi, en, cd, h1, h2⟩ := h
  exact ⟨pa, cl, ps, pe, pi_, pn, be, co, to_, gc, le, gr, ac, sq, tg, fr, mi, en, cd, h1, fun q hq => List.mem_append_left _ (h2 q hq)⟩
theorem MI.app {ak : Nat → ClassId} {PL w : va_W} {p : Nat} {c d : Int32} {st : Nat → Int32} (h : MI ak PL p c d st) : MI ak (PL ++ w) p c d st := ⟨h.1.app, h.2⟩
/-- what is shown of an object: the signs on the tape; which marks are laid -/
abbrev VW : Type := List Nat × (Nat → Bool)
def v0 : VW := ([], fun _ => false)
def VB4 (v : VW) (bm : Nat → Int32) : Prop := ∀ k, k < 4 → (bm k = 0 ↔ v.2 k = false)
def s_feed (v : VW) (a b c : Int64) : VW := (fts a b c 24 0 v.1, v.2)
def f_feed (v : VW) (a b c : Int64) : Int32 := nI (fts a b c 24 0 v.1).length
def s_programme (v : VW) : VW := ([], v.2)
def f_programme (v : VW) : Int32 := match parse v.1 with | .inl e => nI e | .inr _ => 0
theorem f_pb {v : VW} {e : Nat} (h : parse v.1 = .inl e) : nI e = f_programme v := by unfold f_programme; rw [h]
theorem f_pg {v : VW} {g : PGr} (h : parse v.1 = .inr g) : (0 : Int32) = f_programme v := by unfold f_programme; rw [h]
def f_mark (v : VW) (k : Nat) (x : Int32) : Int32 := if ¬ x = 0 ∧ v.2 k = false then 0 else 1
def s_mark (v : VW) (k : Nat) (x : Int32) : VW := if x = 0 then (v.1, fun i => if i = k then true else v.2 i) else v
theorem vb_mark {v : VW} {bm : Nat → Int32} {k : Nat} (h : VB4 v bm) : VB4 (v.1, fun i => if i = k then true else v.2 i) (upd bm k (vp_nar .boolean 1)) := by
  intro i hi
  show _ ↔ (if i = k then true else v.2 i) = false
  by_cases e : i = k
  · subst e
    rw [pk_us, if_pos rfl]
    exact ⟨fun z => absurd z (by decide), fun z => absurd z (by decide)⟩
  · rw [pk_un e, if_neg e]
    exact h i hi
theorem vb_back {v : VW} {bm : Nat → Int32} {k : Nat} (h : VB4 v bm) (hk : k < 4) (hb : ¬ bm k = 0) : VB4 v (upd bm k (vp_nar .boolean 1)) := by
  intro i hi
  by_cases e : i = k
  · subst e
    rw [pk_us]
    exact ⟨fun z => absurd z (by decide), fun z => absurd ((h i hi).mpr z) hb⟩
  · rw [pk_un e]
    exact h i hi
theorem f_mark0 {v : VW} {bm : Nat → Int32} {k : Nat} {x : Int32} (h : VB4 v bm) (hk : k < 4) (hx : ¬ x = 0) (hb : bm k = 0) : (0 : Int32) = f_mark v k x ∧ v = s_mark v k x := ⟨(if_pos ⟨hx, (h k hk).mp hb⟩).symm, (if_neg hx).symm⟩
theorem f_mark1 {v : VW} {k : Nat} {x : Int32} (hx : x = 0) : (1 : Int32) = f_mark v k x ∧ (v.1, fun i => if i = k then true else v.2 i) = s_mark v k x := ⟨(if_neg (fun z => z.1 hx)).symm, (if_pos hx).symm⟩
theorem f_mark2 {v : VW} {bm : Nat → Int32} {k : Nat} {x : Int32} (h : VB4 v bm) (hk : k < 4) (hx : ¬ x = 0) (hb : ¬ bm k = 0) : (1 : Int32) = f_mark v k x ∧ v = s_mark v k x := ⟨(if_neg (fun z => hb ((h k hk).mpr z.2))).symm, (if_neg hx).symm⟩
/-- the object stands well, and shows v -/
def IX (ak : Nat → ClassId) (ad : Nat → Nat) (h7 : Nat) (v : VW) (L : va_W) : Prop := ∃ (xa ta ra ma wa ga sa la gq mk : Nat → Nat) (ka : Nat → Nat → Nat) (M : Nat → Nat × (Nat → Int32) × (Nat → Nat → Int32)) (tr : ((Int32) × (Nat → Int32) × (Nat → Nat) × (Nat → Int32) × (Nat → Int64) × (Int32) × (Nat) × (Int32) × (Nat) × (Int32) × (Int64) × (Int32) × (Nat → Int64) × (Nat → Int64) × (Nat → Int32))) (bm : Nat → Int32) (sf : Option Nat) (sn : Int32) (so : Nat → Nat → Int32) (lp : Nat) (lu : Int32) (lt : Int32) (lk : Nat → Int32) (lr : Nat → Nat → Int32) (PL : va_W), L = XL ak ad h7 xa ta ra ma wa ga sa la gq mk ka v.1.length M tr bm sf sn so lp lu lt lk lr ++ PL ∧ TL v.1 tr.2.1 ∧ SO sf lp ∧ MI ak PL (M 0).1 ((M 0).2.1 3) ((M 0).2.1 4) ((M 0).2.2 0) ∧ MI ak PL (M 3).1 ((M 3).2.1 3) ((M 3).2.1 4) ((M 3).2.2 0) ∧ MI ak PL (M 4).1 ((M 4).2.1 3) ((M 4).2.1 4) ((M 4).2.2 0) ∧ MI ak PL (M 5).1 ((M 5).2.1 3) ((M 5).2.1 4) ((M 5).2.2 0) ∧ MI ak PL (M 6).1 ((M 6).2.1 3) ((M 6).2.1 4) ((M 6).2.2 0) ∧ VB4 v bm
theorem st2 {X X1 X2 : va_W} {w : va_W} (is1 is2 : List Nat) (hl : is1.length ≤ w.length) (h1 : setAll X is1 (w.take is1.length) = X1) (h2 : setAll X1 is2 (w.drop is1.length) = X2) : setAll X (is1 ++ is2) w = X2 := by
  subst h1
  subst h2
  induction is1 generalizing X w with
  | nil => rfl
  | cons i is ih =>
    cases w with
    | nil => simp at hl
    | cons q w =>
      show setAll (X.set i q) (is ++ is2) w = setAll (setAll (X.set i q) is (w.take is.length)) is2 (w.drop is.length)
      exact ih (by simpa using hl)
theorem set_tail : ∀ (T P T1 : va_W), T1.length = T.length → setAll (P ++ T) (List.range' P.length T.length) T1 = P ++ T1 := by
  intro T
  induction T with
  | nil =>
    intro P T1 h
    cases T1 with
    | nil => rfl
    | cons q w => simp at h
  | cons x T ih =>
    intro P T1 h
    cases T1 with
    | nil => simp at h
    | cons q w =>
      have h1 := ih (P ++ [q]) w (by simpa using h)
      rw [List.length_append, List.append_assoc, List.append_assoc] at h1
      show setAll ((P ++ x :: T).set P.length q) (List.range' (P.length + 1) T.length) w = _
      rw [List.set_append_right _ _ (Nat.le_refl _), Nat.sub_self]
      exact h1
theorem mem_of_map {ck Pw : va_W} (is : List Nat) (h : is.map (fun i => Pw[i]?) = ck.map some) : ∀ q ∈ ck, q ∈ Pw := by
  intro q hq
  obtain ⟨k, hk⟩ := List.getElem?_of_mem hq
  obtain ⟨i, _, h2⟩ := va_in_of is h hk
  exact List.mem_of_getElem? h2
