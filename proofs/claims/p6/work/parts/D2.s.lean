def upM {α : Type} (f : Nat → α) (k : Nat) (x : α) : Nat → α := fun i => cond (Nat.beq i k) x (f i)
def mi5 (a b c d e : Int32) : Nat → Int32
  | 0 => a
  | 1 => b
  | 2 => c
  | 3 => d
  | _ => e
def ma6 (a b c d e f : Nat → Int32) : Nat → Nat → Int32
  | 0 => a
  | 1 => b
  | 2 => c
  | 3 => d
  | 4 => e
  | _ => f
def ma4 (a b c d : Nat → Int32) : Nat → Nat → Int32
  | 0 => a
  | 1 => b
  | 2 => c
  | _ => d
/-- all cells of the object but those of programmes -/
def XL (ak : Nat → ClassId) (ad : Nat → Nat) (h7 : Nat) (xa ta ra ma wa ga sa la gq mk : Nat → Nat) (ka : Nat → Nat → Nat) (n : Nat) (M : Nat → Nat × (Nat → Int32) × (Nat → Nat → Int32)) (tr : ((Int32) × (Nat → Int32) × (Nat → Nat) × (Nat → Int32) × (Nat → Int64) × (Int32) × (Nat) × (Int32) × (Nat) × (Int32) × (Int64) × (Int32) × (Nat → Int64) × (Nat → Int64) × (Nat → Int32))) (bm : Nat → Int32) (sf : Option Nat) (sn : Int32) (so : Nat → Nat → Int32) (lp : Nat) (lu : Int32) (lt : Int32) (lk : Nat → Int32) (lr : Nat → Nat → Int32) : va_W := [(h7, .inr (6, wob xa)), (xa 0, .inr (5, tob ta (nI n) (tr.1))), (ta 0, .inl (ak 2, 1000, .inl (tr.2.1))), (ta 1, .inl (ak 4, 1001, .inr (.inr (.inr (.inr (tokA ad (tr.2.2.1))))))), (ta 2, .inl (ak 0, 1001, .inl (tr.2.2.2.1))), (ta 3, .inl (ak 1, 1001, .inr (.inl (tr.2.2.2.2.1)))), (xa 2, .inr (3, rob ad ra (xa 0) (tr.2.2.2.2.2.1) (tr.2.2.2.2.2.2.1) (tr.2.2.2.2.2.2.2.1) (tr.2.2.2.2.2.2.2.2.1) (tr.2.2.2.2.2.2.2.2.2.1) (tr.2.2.2.2.2.2.2.2.2.2.1) (tr.2.2.2.2.2.2.2.2.2.2.2.1))), (ra 0, .inl (ak 1, 4, .inr (.inl (tr.2.2.2.2.2.2.2.2.2.2.2.2.1)))), (ra 1, .inl (ak 1, 6, .inr (.inl (tr.2.2.2.2.2.2.2.2.2.2.2.2.2.1)))), (ra 2, .inl (ak 0, 1000, .inl (tr.2.2.2.2.2.2.2.2.2.2.2.2.2.2))), (xa 3, .inr (1, xob ma ((M 0).1) (((M 0).2.1 0)) (((M 0).2.1 1)) (((M 0).2.1 2)) (((M 0).2.1 3)) (((M 0).2.1 4)))), (ma 0, .inl (ak 0, 16, .inl ((M 0).2.2 0))), (ma 1, .inl (ak 0, 16, .inl ((M 0).2.2 1))), (ma 2, .inl (ak 0, 16, .inl ((M 0).2.2 2))), (ma 3, .inl (ak 0, 6, .inl ((M 0).2.2 3))), (ma 4, .inl (ak 0, 200, .inl ((M 0).2.2 4))), (ma 5, .inl (ak 0, 32, .inl ((M 0).2.2 5))), (xa 4, .inr (1, xob wa ((M 1).1) (((M 1).2.1 0)) (((M 1).2.1 1)) (((M 1).2.1 2)) (((M 1).2.1 3)) (((M 1).2.1 4)))), (wa 0, .inl (ak 0, 16, .inl ((M 1).2.2 0))), (wa 1, .inl (ak 0, 16, .inl ((M 1).2.2 1))), (wa 2, .inl (ak 0, 16, .inl ((M 1).2.2 2))), (wa 3, .inl (ak 0, 6, .inl ((M 1).2.2 3))), (wa 4, .inl (ak 0, 1000, .inl ((M 1).2.2 4))), (wa 5, .inl (ak 0, 32, .inl ((M 1).2.2 5))), (xa 5, .inr (1, xob ga ((M 2).1) (((M 2).2.1 0)) (((M 2).2.1 1)) (((M 2).2.1 2)) (((M 2).2.1 3)) (((M 2).2.1 4)))), (ga 0, .inl (ak 0, 16, .inl ((M 2).2.2 0))), (ga 1, .inl (ak 0, 16, .inl ((M 2).2.2 1))), (ga 2, .inl (ak 0, 16, .inl ((M 2).2.2 2))), (ga 3, .inl (ak 0, 6, .inl ((M 2).2.2 3))), (ga 4, .inl (ak 0, 1000, .inl ((M 2).2.2 4))), (ga 5, .inl (ak 0, 32, .inl ((M 2).2.2 5))), (xa 6, .inl (ak 5, 4, .inr (.inr (.inr (.inr (mkA mk)))))), (xa 7, .inl (ak 3, 4, .inl bm)), (mk 0, .inr (1, xob (ka 0) ((M 3).1) (((M 3).2.1 0)) (((M 3).2.1 1)) (((M 3).2.1 2)) (((M 3).2.1 3)) (((M 3).2.1 4)))), ((ka 0) 0, .inl (ak 0, 16, .inl ((M 3).2.2 0))), ((ka 0) 1, .inl (ak 0, 16, .inl ((M 3).2.2 1))), ((ka 0) 2, .inl (ak 0, 16, .inl ((M 3).2.2 2))), ((ka 0) 3, .inl (ak 0, 6, .inl ((M 3).2.2 3))), ((ka 0) 4, .inl (ak 0, 200, .inl ((M 3).2.2 4))), ((ka 0) 5, .inl (ak 0, 32, .inl ((M 3).2.2 5))), (mk 1, .inr (1, xob (ka 1) ((M 4).1) (((M 4).2.1 0)) (((M 4).2.1 1)) (((M 4).2.1 2)) (((M 4).2.1 3)) (((M 4).2.1 4)))), ((ka 1) 0, .inl (ak 0, 16, .inl ((M 4).2.2 0))), ((ka 1) 1, .inl (ak 0, 16, .inl ((M 4).2.2 1))), ((ka 1) 2, .inl (ak 0, 16, .inl ((M 4).2.2 2))), ((ka 1) 3, .inl (ak 0, 6, .inl ((M 4).2.2 3))), ((ka 1) 4, .inl (ak 0, 200, .inl ((M 4).2.2 4))), ((ka 1) 5, .inl (ak 0, 32, .inl ((M 4).2.2 5))), (mk 2, .inr (1, xob (ka 2) ((M 5).1) (((M 5).2.1 0)) (((M 5).2.1 1)) (((M 5).2.1 2)) (((M 5).2.1 3)) (((M 5).2.1 4)))), ((ka 2) 0, .inl (ak 0, 16, .inl ((M 5).2.2 0))), ((ka 2) 1, .inl (ak 0, 16, .inl ((M 5).2.2 1))), ((ka 2) 2, .inl (ak 0, 16, .inl ((M 5).2.2 2))), ((ka 2) 3, .inl (ak 0, 6, .inl ((M 5).2.2 3))), ((ka 2) 4, .inl (ak 0, 200, .inl ((M 5).2.2 4))), ((ka 2) 5, .inl (ak 0, 32, .inl ((M 5).2.2 5))), (mk 3, .inr (1, xob (ka 3) ((M 6).1) (((M 6).2.1 0)) (((M 6).2.1 1)) (((M 6).2.1 2)) (((M 6).2.1 3)) (((M 6).2.1 4)))), ((ka 3) 0, .inl (ak 0, 16, .inl ((M 6).2.2 0))), ((ka 3) 1, .inl (ak 0, 16, .inl ((M 6).2.2 1))), ((ka 3) 2, .inl (ak 0, 16, .inl ((M 6).2.2 2))), ((ka 3) 3, .inl (ak 0, 6, .inl ((M 6).2.2 3))), ((ka 3) 4, .inl (ak 0, 200, .inl ((M 6).2.2 4))), ((ka 3) 5, .inl (ak 0, 32, .inl ((M 6).2.2 5))), (xa 8, .inr (4, sob sa sf sn)), (sa 0, .inl (ak 0, 16, .inl (so 0))), (sa 1, .inl (ak 0, 16, .inl (so 1))), (sa 2, .inl (ak 0, 16, .inl (so 2))), (sa 3, .inl (ak 0, 16, .inl (so 3))), (xa 9, .inr (0, lob la lp lu lt)), (la 0, .inl (ak 0, 16, .inl lk)), (la 1, .inl (ak 6, 17, .inr (.inr (.inr (.inr (grA gq))))))] ++ gRows ak gq lr
theorem XL_len {ak : Nat → ClassId} {ad : Nat → Nat} {h7 : Nat} {xa ta ra ma wa ga sa la gq mk : Nat → Nat} {ka : Nat → Nat → Nat} {n : Nat} {M : Nat → Nat × (Nat → Int32) × (Nat → Nat → Int32)} {tr : ((Int32) × (Nat → Int32) × (Nat → Nat) × (Nat → Int32) × (Nat → Int64) × (Int32) × (Nat) × (Int32) × (Nat) × (Int32) × (Int64) × (Int32) × (Nat → Int64) × (Nat → Int64) × (Nat → Int32))} {bm : Nat → Int32} {sf : Option Nat} {sn : Int32} {so : Nat → Nat → Int32} {lp : Nat} {lu : Int32} {lt : Int32} {lk : Nat → Int32} {lr : Nat → Nat → Int32} : (XL ak ad h7 xa ta ra ma wa ga sa la gq mk ka n M tr bm sf sn so lp lu lt lk lr).length = 86 := rfl
/-- the cells of a programme -/
def PWl (ak : Nat → ClassId) (pg : Nat) (pa : Nat → Nat) (cl : Nat) (x0 x1 x2 x3 : Int32) (be co to_ gc le gr ac sq tg fr mi en cd : Nat → Int32) : va_W := [(pg, .inr (2, pob pa x0 x1 x2 x3)), (pa 0, .inl (ak 0, 4, .inl be)), (pa 1, .inl (ak 0, 4, .inl co)), (pa 2, .inl (ak 0, 6, .inl to_)), (pa 3, .inl (ak 0, 2, .inl gc)), (pa 4, .inl (ak 0, 2, .inl le)), (pa 5, .inl (ak 0, 2, .inl gr)), (pa 6, .inl (ak 0, 16, .inl ac)), (pa 7, .inl (ak 0, 16, .inl sq)), (pa 8, .inl (ak 0, 16, .inl tg)), (pa 9, .inl (ak 0, 16, .inl fr)), (pa 10, .inl (ak 0, 16, .inl mi)), (pa 11, .inl (ak 0, 16, .inl en)), (pa 12, .inl (ak 0, cl, .inl cd))]
/-- a good programme lies in the pool; it is g -/
def PGo (ak : Nat → ClassId) (PL : va_W) (g : PGr) (p : Nat) : Prop := ∃ (pa : Nat → Nat) (cl ps pe pi_ pn : Nat) (be co to_ gc le gr ac sq tg fr mi en cd : Nat → Int32), PK ps pe pi_ pn sq tg cl cd ∧ PQ9 g (nI ps) (nI pe) (nI pi_) (nI pn) be co to_ gc le gr ac sq tg fr mi en cl cd ∧ ∀ q ∈ PWl ak p pa cl (nI ps) (nI pe) (nI pi_) (nI pn) be co to_ gc le gr ac sq tg fr mi en cd, q ∈ PL
/-- a machine stands well, and is m -/
def MI (ak : Nat → ClassId) (PL : va_W) (GA : Nat → PGr) (m : MS) (X : Nat × (Nat → Int32) × (Nat → Nat → Int32)) : Prop := PGo ak PL m.1 X.1 ∧ HC (X.2.1 3) (X.2.1 4) ∧ AS (X.2.2 0) ∧ CMV m (X.2.1 0) (X.2.1 1) (X.2.1 2) (X.2.1 3) (X.2.1 4) (X.2.2 0) (X.2.2 1) (X.2.2 2) (X.2.2 3) (X.2.2 4) ∧ m.1 = GA X.1
theorem PGo.app {ak : Nat → ClassId} {PL w : va_W} {g : PGr} {p : Nat} (h : PGo ak PL g p) : PGo ak (PL ++ w) g p := by
  obtain ⟨pa, cl, ps, pe, pi_, pn, be, co, to_, gc, le, gr, ac, sq, tg, fr, mi, en, cd, h1, h2, h3⟩ := h
  exact ⟨pa, cl, ps, pe, pi_, pn, be, co, to_, gc, le, gr, ac, sq, tg, fr, mi, en, cd, h1, h2, fun q hq => List.mem_append_left _ (h3 q hq)⟩
theorem PGo.eq {ak : Nat → ClassId} {PL : va_W} {g g' : PGr} {p : Nat} (h : PGo ak PL g p) (e : g' = g) : PGo ak PL g' p := by rw [e]; exact h
theorem PGo.mem {ak : Nat → ClassId} {PL : va_W} {g : PGr} {p : Nat} (h : PGo ak PL g p) : ∃ e, (p, e) ∈ PL := by
  obtain ⟨pa, cl, ps, pe, pi_, pn, be, co, to_, gc, le, gr, ac, sq, tg, fr, mi, en, cd, h1, h2, h3⟩ := h
  exact ⟨_, h3 _ List.mem_cons_self⟩
theorem MI.app {ak : Nat → ClassId} {PL w : va_W} {GA GA' : Nat → PGr} {m : MS} {X : Nat × (Nat → Int32) × (Nat → Nat → Int32)} (h : MI ak PL GA m X) (ne : ∀ a, (∃ e, (a, e) ∈ PL) → GA' a = GA a) : MI ak (PL ++ w) GA' m X := ⟨h.1.app, h.2.1, h.2.2.1, h.2.2.2.1, by rw [ne _ h.1.mem]; exact h.2.2.2.2⟩
/-- what the survey and the layout keep, by the programme's address -/
def CKc (PL : va_W) (GA : Nat → PGr) (sf : Option Nat) (sn : Int32) (of by_ pk : Nat → Int32) (lp : Nat) (lk : Nat → Int32) (lr : Nat → Nat → Int32) : Prop := ∀ a, sf = some a → SRg (GA a) a sn of by_ pk lp lk lr ∧ ∃ e, (a, e) ∈ PL
theorem CKc.app {PL w : va_W} {GA GA' : Nat → PGr} {sf : Option Nat} {sn : Int32} {of by_ pk : Nat → Int32} {lp : Nat} {lk : Nat → Int32} {lr : Nat → Nat → Int32} (h : CKc PL GA sf sn of by_ pk lp lk lr) (ne : ∀ a, (∃ e, (a, e) ∈ PL) → GA' a = GA a) : CKc (PL ++ w) GA' sf sn of by_ pk lp lk lr := fun a ea => by
  obtain ⟨c1, c2⟩ := h a ea
  exact ⟨by rw [ne a c2]; exact c1, c2.elim (fun e he => ⟨e, List.mem_append_left _ he⟩)⟩
theorem CKc.kok {PL : va_W} {GA : Nat → PGr} {g : PGr} {p : Nat} (hg : g = GA p) (hp : ∃ e, (p, e) ∈ PL) : KOK (CKc PL GA) g p := fun sn of by_ pk lp lk lr => ⟨fun h => by rw [hg]; exact (h p rfl).1, fun h a ea => by
  have ea : p = a := Option.some.inj ea
  subst ea
  exact ⟨by rw [← hg]; exact h, hp⟩⟩
/-- no address twice -/
def DIS (L : va_W) : Prop := ∀ (i j : Nat) (p q : Nat × va_E), L[i]? = some p → L[j]? = some q → p.1 = q.1 → i = j
theorem dis_ne {X PL W : va_W} {a p : Nat} {e e' : va_E} (hd : DIS (X ++ (PL ++ ((p, e') :: W)))) (h : (a, e) ∈ PL) : ¬ a = p := by
  intro ea
  obtain ⟨i, hi⟩ := List.getElem?_of_mem h
  have hl : i < PL.length := (List.getElem?_eq_some_iff.mp hi).1
  have h1 : (X ++ (PL ++ ((p, e') :: W)))[X.length + i]? = some (a, e) := by
    rw [List.getElem?_append_right (by omega), show X.length + i - X.length = i by omega, List.getElem?_append_left hl]
    exact hi
  have h2 : (X ++ (PL ++ ((p, e') :: W)))[X.length + PL.length]? = some (p, e') := by
    rw [List.getElem?_append_right (by omega), show X.length + PL.length - X.length = PL.length by omega, List.getElem?_append_right (Nat.le_refl _), Nat.sub_self]
    rfl
  have := hd _ _ _ _ h1 h2 ea
  omega
theorem Met.disZ {l : Launch} {y : MethodName} {ws : List Cond} {rm : Room} {D : va_G} {ak : Nat → ClassId} {ad : Nat → Nat} {av : List Value} {L : va_W} {sz mc ms : Nat} {free : Addr → Prop} {R R' : Int32 → va_W → Prop} (h : Met l y ws rm (cPre D ak ad av L sz) (cI D (S := va_W) R (fun L1 => L1) L sz) mc ms free) (hR : ∀ r L1, R r L1 → DIS L1 → R' r L1) : Met l y ws rm (cPre D ak ad av L sz) (cI D (S := va_W) R' (fun L1 => L1) L sz) mc ms free :=
  h.mono (fun _ _ q => q) (fun a s o t _ q => by
    obtain ⟨⟨r, u, h1, h2, h3, h4⟩, h5⟩ := q
    exact ⟨⟨r, u, h1, hR r u h2 h4.1, h3, h4⟩, h5⟩) (fun _ q => q)
/-- what is shown of an object: the signs on the tape; which marks are laid; the hand; the marks -/
abbrev VW : Type := List Nat × (Nat → Bool) × MS × (Nat → MS)
def v0 : VW := ([], fun _ => false, tdG e0g, fun _ => tdG e0g)
def VB4 (v : VW) (bm : Nat → Int32) : Prop := ∀ k, k < 4 → (bm k = 0 ↔ v.2.1 k = false)
/-- another hand -/
abbrev setH (v : VW) (m : MS) : VW := (v.1, v.2.1, m, v.2.2.2)
def s_feed (v : VW) (a b c : Int64) : VW := (fts a b c 24 0 v.1, v.2)
def f_feed (v : VW) (a b c : Int64) : Int32 := nI (fts a b c 24 0 v.1).length
def hdP (v : VW) : MS := match parse v.1 with | .inl _ => v.2.2.1 | .inr g => tdG g
abbrev s_programme (v : VW) : VW := ([], v.2.1, hdP v, v.2.2.2)
def f_programme (v : VW) : Int32 := match parse v.1 with | .inl e => nI e | .inr _ => 0
theorem f_pb {v : VW} {e : Nat} (h : parse v.1 = .inl e) : nI e = f_programme v := by unfold f_programme; rw [h]
theorem f_pg {v : VW} {g : PGr} (h : parse v.1 = .inr g) : (0 : Int32) = f_programme v := by unfold f_programme; rw [h]
theorem hdP_b {v : VW} {e : Nat} (h : parse v.1 = .inl e) : hdP v = v.2.2.1 := by unfold hdP; rw [h]
theorem hdP_g {v : VW} {g : PGr} (h : parse v.1 = .inr g) : hdP v = tdG g := by unfold hdP; rw [h]
def f_mark (v : VW) (k : Nat) (x : Int32) : Int32 := if ¬ x = 0 ∧ v.2.1 k = false then 0 else 1
def s_mark (v : VW) (k : Nat) (x : Int32) : VW := if x = 0 then (v.1, (fun i => if i = k then true else v.2.1 i), v.2.2.1, updS v.2.2.2 k v.2.2.1) else if v.2.1 k = false then v else (v.1, v.2.1, v.2.2.2 k, v.2.2.2)
theorem s_mark_0 {v : VW} {k : Nat} {x : Int32} (h : x = 0) : s_mark v k x = (v.1, (fun i => if i = k then true else v.2.1 i), v.2.2.1, updS v.2.2.2 k v.2.2.1) := if_pos h
theorem s_mark_1 {v : VW} {k : Nat} {x : Int32} (h : ¬ x = 0) (h2 : v.2.1 k = false) : s_mark v k x = v := by unfold s_mark; rw [if_neg h, if_pos h2]
theorem s_mark_2 {v : VW} {k : Nat} {x : Int32} (h : ¬ x = 0) (h2 : ¬ v.2.1 k = false) : s_mark v k x = (v.1, v.2.1, v.2.2.2 k, v.2.2.2) := by unfold s_mark; rw [if_neg h, if_neg h2]
theorem s_mark_t {v : VW} {k : Nat} {x : Int32} : (s_mark v k x).1 = v.1 := by
  by_cases h : x = 0
  · rw [s_mark_0 h]
  · by_cases h2 : v.2.1 k = false
    · rw [s_mark_1 h h2]
    · rw [s_mark_2 h h2]
theorem s_mark_n {v : VW} {k j : Nat} {x : Int32} (hj : ¬ j = k) : (s_mark v k x).2.2.2 j = v.2.2.2 j := by
  by_cases h : x = 0
  · rw [s_mark_0 h]; exact updS_n hj
  · by_cases h2 : v.2.1 k = false
    · rw [s_mark_1 h h2]
    · rw [s_mark_2 h h2]
theorem f_mark_0 {v : VW} {k : Nat} {x : Int32} (h : x = 0) : (1 : Int32) = f_mark v k x := (if_neg (fun z => z.1 h)).symm
theorem f_mark_1 {v : VW} {k : Nat} {x : Int32} (h : ¬ x = 0) (h2 : v.2.1 k = false) : (0 : Int32) = f_mark v k x := (if_pos ⟨h, h2⟩).symm
theorem f_mark_2 {v : VW} {k : Nat} {x : Int32} (h2 : ¬ v.2.1 k = false) : (1 : Int32) = f_mark v k x := (if_neg (fun z => h2 z.2)).symm
theorem vb_mark {v : VW} {bm : Nat → Int32} {k : Nat} {h : MS} {m : Nat → MS} (hV : VB4 v bm) : VB4 (v.1, (fun i => if i = k then true else v.2.1 i), h, m) (upd bm k (vp_nar .boolean 1)) := by
  intro i hi
  show _ ↔ (if i = k then true else v.2.1 i) = false
  by_cases e : i = k
  · subst e
    rw [pk_us, if_pos rfl]
    exact ⟨fun z => absurd z (by decide), fun z => absurd z (by decide)⟩
  · rw [pk_un e, if_neg e]
    exact hV i hi
theorem vb_back {v : VW} {bm : Nat → Int32} {k : Nat} {h : MS} {m : Nat → MS} (hV : VB4 v bm) (hk : k < 4) (hb : ¬ bm k = 0) : VB4 (v.1, v.2.1, h, m) (upd bm k (vp_nar .boolean 1)) := by
  intro i hi
  show _ ↔ v.2.1 i = false
  by_cases e : i = k
  · subst e
    rw [pk_us]
    exact ⟨fun z => absurd z (by decide), fun z => absurd ((hV i hi).mpr z) hb⟩
  · rw [pk_un e]
    exact hV i hi
def f_same (v : VW) (x : Int32) : Int32 := match ixO x 4 with
  | some k => if v.2.1 k = false then -2 else sameM v.2.2.1 (v.2.2.2 k)
  | none => -2
theorem f_same_k {v : VW} {k : Nat} (hk : k < 4) : f_same v (nI k) = if v.2.1 k = false then -2 else sameM v.2.2.1 (v.2.2.2 k) := by
  unfold f_same
  rw [ixO_nI (by decide) hk]
theorem f_same_0 {v : VW} {bm : Nat → Int32} {k : Nat} (h : VB4 v bm) (hk : k < 4) (e : bm k = 0) : (-2 : Int32) = f_same v (nI k) := by rw [f_same_k hk, if_pos ((h k hk).mp e)]
theorem f_same_1 {v : VW} {bm : Nat → Int32} {k : Nat} (h : VB4 v bm) (hk : k < 4) (e : ¬ bm k = 0) : sameM v.2.2.1 (v.2.2.2 k) = f_same v (nI k) := by rw [f_same_k hk, if_neg (fun z => e ((h k hk).mpr z))]
theorem f_same_x {v : VW} {x : Int32} (h : x < 0 ∨ 4 ≤ x) : (-2 : Int32) = f_same v x := by
  unfold f_same
  rcases h with h | h
  · rw [ixO_lt h]
  · rw [ixO_ge (n := 4) h]
/-- the object stands well, and shows v -/
def IX (ak : Nat → ClassId) (ad : Nat → Nat) (h7 : Nat) (v : VW) (L : va_W) : Prop := ∃ (xa ta ra ma wa ga sa la gq mk : Nat → Nat) (ka : Nat → Nat → Nat) (M : Nat → Nat × (Nat → Int32) × (Nat → Nat → Int32)) (tr : ((Int32) × (Nat → Int32) × (Nat → Nat) × (Nat → Int32) × (Nat → Int64) × (Int32) × (Nat) × (Int32) × (Nat) × (Int32) × (Int64) × (Int32) × (Nat → Int64) × (Nat → Int64) × (Nat → Int32))) (bm : Nat → Int32) (sf : Option Nat) (sn : Int32) (so : Nat → Nat → Int32) (lp : Nat) (lu : Int32) (lt : Int32) (lk : Nat → Int32) (lr : Nat → Nat → Int32) (PL : va_W) (GA : Nat → PGr), L = XL ak ad h7 xa ta ra ma wa ga sa la gq mk ka v.1.length M tr bm sf sn so lp lu lt lk lr ++ PL ∧ TL v.1 tr.2.1 ∧ SO sf lp ∧ MI ak PL GA v.2.2.1 (M 0) ∧ MI ak PL GA (v.2.2.2 0) (M 3) ∧ MI ak PL GA (v.2.2.2 1) (M 4) ∧ MI ak PL GA (v.2.2.2 2) (M 5) ∧ MI ak PL GA (v.2.2.2 3) (M 6) ∧ VB4 v bm ∧ CKc PL GA sf sn (so 0) (so 1) (so 2) lp lk lr
theorem st2 {X X1 X2 : va_W} {w : va_W} (is1 is2 : List Nat) (hl : is1.length ≤ w.length) (h1 : setAll X is1 (w.take is1.length) = X1) (h2 : setAll X1 is2 (w.drop is1.length) = X2) : setAll X (is1 ++ is2) w = X2 := by
  subst h1
  subst h2
  induction is1 generalizing X w with
  | nil => rfl
  | cons i is ih =>
    cases w with
    | nil => simp at hl
    | cons q w =>
      show setAll (X.set i q) (is ++ is2) w = setAll (setAll (X.set i q) is (w.take is.length)) is2 (w.drop is.length)
      exact ih (by simpa using hl)
theorem set_tail : ∀ (T P T1 : va_W), T1.length = T.length → setAll (P ++ T) (List.range' P.length T.length) T1 = P ++ T1 := by
  intro T
  induction T with
  | nil =>
    intro P T1 h
    cases T1 with
    | nil => rfl
    | cons q w => simp at h
  | cons x T ih =>
    intro P T1 h
    cases T1 with
    | nil => simp at h
    | cons q w =>
      have h1 := ih (P ++ [q]) w (by simpa using h)
      rw [List.length_append, List.append_assoc, List.append_assoc] at h1
      show setAll ((P ++ x :: T).set P.length q) (List.range' (P.length + 1) T.length) w = _
      rw [List.set_append_right _ _ (Nat.le_refl _), Nat.sub_self]
      exact h1
theorem mem_of_map {ck Pw : va_W} (is : List Nat) (h : is.map (fun i => Pw[i]?) = ck.map some) : ∀ q ∈ ck, q ∈ Pw := by
  intro q hq
  obtain ⟨k, hk⟩ := List.getElem?_of_mem hq
  obtain ⟨i, _, h2⟩ := va_in_of is h hk
  exact List.mem_of_getElem? h2
