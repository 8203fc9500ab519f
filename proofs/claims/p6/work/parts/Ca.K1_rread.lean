/-- the reference reads the token list L -/
def RR (ts : List Nat) (L : List Tok) (q b : Nat) (T : Int32) (w : Int64) (td : Int32) : Prop := ∃ k r, L = k :: r ∧ CR ts q b T w td k ∧ (¬ k.1 = 0 → r = tokL ts q) ∧ (k.1 = 0 → r = []) ∧ VT k
section RRS
variable {ts : List Nat} {t : Nat → Int32} {L : List Tok} {q b : Nat} {T td : Int32} {w : Int64}
theorem RR.VTZ (h : RR ts L q b T w td) : VT (hdt L) := by
  obtain ⟨k, r, e, _, _, _, hV⟩ := h
  rw [e]
  exact hV
theorem RR.CRZ (h : RR ts L q b T w td) : CR ts q b T w td (hdt L) := by
  obtain ⟨k, r, e, hC, _⟩ := h
  rw [e]
  exact hC
theorem RR.advZ (hT : TL ts t) (h : RR ts L q b T w td) {B2 T2 d2 : Int32} {w2 : Int64} {Φ : Int32 → Int32 → Int32 → Int64 → Int32 → Prop} (hΦ : ∀ q' b' T' w' td', RR ts (adv L) q' b' T' w' td' → Φ (nI q') (nI b') T' w' td') : wp_X8_nextToken (nI ts.length) t (nI q) B2 T2 w2 d2 Φ := by
  obtain ⟨k, r, e, hC, h1, h2, hV⟩ := h
  refine sq_X8_nextToken hT hC.2.2.2.1 (fun k' r' q' b' T' w' d' e' g1 g2 hC' => hΦ q' b' T' w' d' ?_)
  have hq := hC.2.2.2.1
  have hk' : VT k' := tokL_VT hT.1 (ts.length - q) q (Nat.le_refl _) hq k' (by rw [e']; exact List.mem_cons_self)
  by_cases e0 : k.1 = 0
  · have hz := hC.2.2.2.2.2.1 e0
    rw [tokL_end (by omega)] at e'
    rw [h2 e0] at e
    have e3 : (0, q, []) = k' ∧ [] = r' := List.cons.inj e'
    refine ⟨k', r', ?_, hC', g1, g2, hk'⟩
    rw [e, ← e3.2, ← e3.1]
    show [k] = [(0, q, [])]
    have : k = (0, q, []) := by
      have a1 := hC.1
      obtain ⟨k1, k2, k3⟩ := k
      have b1 : k1 = 0 := e0
      have b2 : k2 = b := a1
      have b3 : k3 = [] := hC.2.2.2.2.2.2.2.2.2.2 e0
      rw [b1, b2, b3, hz.2]
    rw [this]
  · refine ⟨k', r', ?_, hC', g1, g2, hk'⟩
    rw [e, h1 e0, e']
    rfl
end RRS
/-- the word that the reference makes of each kept word -/
def kwT : List Int64 := [10506516, 1162531, 1903978, 63030, 5070782, 243140, 220309, 79, 14006, 12584543, 204, 249, 60114, 259906, 158537, 464144, 10631, 1111, 423]
theorem KW_19 : ∀ i : Fin 19, KW.getD i.val [] ∈ KW ∧ kwI (KW.getD i.val []) = 12 + i.val ∧ eW (KW.getD i.val []) = kwT.getD i.val 0 := by decide +kernel
theorem sgI_127 : ∀ c s : Fin 127, 4 ≤ sgI s.val → sgI c.val = sgI s.val → c.val = s.val := by decide +kernel
theorem sgI_r (c : Nat) : sgI c = 1 ∨ (4 ≤ sgI c ∧ sgI c ≤ 11) := by
  unfold sgI
  repeat' split
  all_goals omega
theorem kwI_r (w : List Nat) : kwI w = 3 ∨ (12 ≤ kwI w ∧ kwI w ≤ 30 ∧ w ∈ KW ∧ kwI w = 12 + KW.idxOf w) := by
  unfold kwI
  by_cases h : w ∈ KW
  · rw [if_pos h]
    have : KW.idxOf w < KW.length := List.idxOf_lt_length_of_mem h
    have e : KW.length = 19 := rfl
    exact Or.inr ⟨by omega, by omega, h, rfl⟩
  · rw [if_neg h]
    exact Or.inl rfl
theorem kw_inj {w z : List Nat} (hw : w ∈ KW) (hz : z ∈ KW) (h : kwI w = kwI z) : w = z := by
  unfold kwI at h
  rw [if_pos hw, if_pos hz] at h
  have e : KW.idxOf w = KW.idxOf z := by omega
  have h1 : KW[KW.idxOf w]? = some w := (List.getElem?_eq_getElem (List.idxOf_lt_length_of_mem hw)).trans (congrArg some (List.getElem_idxOf (List.idxOf_lt_length_of_mem hw)))
  have h2 : KW[KW.idxOf z]? = some z := (List.getElem?_eq_getElem (List.idxOf_lt_length_of_mem hz)).trans (congrArg some (List.getElem_idxOf (List.idxOf_lt_length_of_mem hz)))
  rw [e, h2] at h1
  exact (Option.some.inj h1).symm
section RQ8
variable {ts : List Nat} {t : Nat → Int32} {L : List Tok} {q b : Nat} {T td wr : Int32} {w : Int64}
theorem RR.tT (h : RR ts L q b T w td) (j : Nat) (hj : j ≤ 4) : T = nI j ↔ (hdt L).1 = j := by
  have := h.CRZ
  rw [this.2.1]
  have h4 := this.2.2.1
  exact nI_eq (by omega) (by omega)
theorem RR.le (h : RR ts L q b T w td) : b ≤ q ∧ q ≤ ts.length := ⟨h.CRZ.2.2.2.2.1, h.CRZ.2.2.2.1⟩
theorem RR.pl (h : RR ts L q b T w td) : (hdt L).2.1 = b := h.CRZ.1
theorem RR.ix3 (h : RR ts L q b T w td) : (hdt L).1 = 3 → ix (hdt L) = sgI (sgn ts b) ∧ b < ts.length := by
  intro e
  have hC := h.CRZ
  refine ⟨?_, hC.2.2.2.2.2.2.1 (by omega)⟩
  unfold ix
  rw [if_neg (by omega), if_neg (by omega), if_neg (by omega), if_pos e, hC.2.2.2.2.2.2.2.2.2.1 e]
  rfl
theorem RR.ix1 (h : RR ts L q b T w td) : (hdt L).1 = 1 → ix (hdt L) = kwI (hdt L).2.2 ∧ w = eW (hdt L).2.2 ∧ WD (hdt L).2.2 := by
  intro e
  refine ⟨?_, h.CRZ.2.2.2.2.2.2.2.1 e, (h.VTZ.2.2.1 e).1⟩
  unfold ix
  rw [if_neg (by omega), if_pos e]
theorem ix_k (k : Tok) : (k.1 = 0 ∧ ix k = 0) ∨ (k.1 = 1 ∧ ix k = kwI k.2.2) ∨ (k.1 = 2 ∧ ix k = 2) ∨ (k.1 = 3 ∧ ix k = sgI (k.2.2.headD 0)) ∨ ix k = 1 := by
  unfold ix
  by_cases e0 : k.1 = 0
  · exact Or.inl ⟨e0, if_pos e0⟩
  rw [if_neg e0]
  by_cases e1 : k.1 = 1
  · exact Or.inr (Or.inl ⟨e1, if_pos e1⟩)
  rw [if_neg e1]
  by_cases e2 : k.1 = 2
  · exact Or.inr (Or.inr (Or.inl ⟨e2, if_pos e2⟩))
  rw [if_neg e2]
  by_cases e3 : k.1 = 3
  · exact Or.inr (Or.inr (Or.inr (Or.inl ⟨e3, if_pos e3⟩)))
  · exact Or.inr (Or.inr (Or.inr (Or.inr (if_neg e3))))
theorem ix_sg {k : Tok} (h : 4 ≤ ix k) (h2 : ix k ≤ 11) : k.1 = 3 := by
  rcases ix_k k with ⟨_, e⟩ | ⟨_, e⟩ | ⟨_, e⟩ | ⟨e, _⟩ | e
  · omega
  · rcases kwI_r k.2.2 with g | g <;> omega
  · omega
  · exact e
  · omega
theorem ix_kw {k : Tok} (h : 12 ≤ ix k) : k.1 = 1 ∧ k.2.2 ∈ KW := by
  rcases ix_k k with ⟨_, e⟩ | ⟨e1, e⟩ | ⟨_, e⟩ | ⟨_, e⟩ | e
  · omega
  · rcases kwI_r k.2.2 with g | g
    · omega
    · exact ⟨e1, g.2.2.1⟩
  · omega
  · rcases sgI_r (k.2.2.headD 0) with g | g <;> omega
  · omega
theorem sq8_next {B2 T2 d2 : Int32} {w2 : Int64} {Φ : Int32 → Int32 → Int32 → Int64 → Int32 → Prop} (hT : TL ts t) (h : RR ts L q b T w td) (hΦ : ∀ q' b' T' w' td', RR ts (adv L) q' b' T' w' td' → Φ (nI q') (nI b') T' w' td') : wl_X8_nextToken (nI ts.length) t (nI q) B2 T2 w2 d2 Φ := iw_X8_nextToken (fun _ _ _ _ _ u => u) (h.advZ hT hΦ)
theorem sq8_sign {Φ : Int32 → Prop} (s : Nat) (hs : s < 127) (h4 : 4 ≤ sgI s) (hT : TL ts t) (h : RR ts L q b T w td) (h1 : ix (hdt L) = sgI s → Φ 1) (h0 : ¬ ix (hdt L) = sgI s → Φ 0) : wl_X8_isSign (nI b) T t (nI s) Φ := by
  have hr := sgI_r s
  have hb := h.le
  have hn := hT.1
  have e3 : T = 3 ↔ (hdt L).1 = 3 := h.tT 3 (by decide)
  unfold wl_X8_isSign
  refine ⟨fun z => h0 (fun e => z (e3.mpr (ix_sg (by omega) (by omega)))), fun z _ => ?_⟩
  obtain ⟨g1, g2⟩ := h.ix3 (e3.mp z)
  have hc := hT.lt b
  rw [nI_clamp (by omega), hT.at g2]
  have hi : (nI (sgn ts b) = nI s) ↔ sgn ts b = s := nI_eq (by omega) (by omega)
  rw [hi]
  exact ⟨fun y => h0 (fun e => y (sgI_127 ⟨_, hc⟩ ⟨s, hs⟩ h4 (g1.symm.trans e))), fun y => h1 (by rw [g1, y])⟩
theorem sq8_word {Φ : Int32 → Prop} (i : Nat) {x : Int64} (hi : i < 19) (hx : kwT.getD i 0 = x) (h : RR ts L q b T w td) (h1 : ix (hdt L) = 12 + i → Φ 1) (h0 : ¬ ix (hdt L) = 12 + i → Φ 0) : wl_X8_isWord T w x Φ := by
  have e1 : T = 1 ↔ (hdt L).1 = 1 := h.tT 1 (by decide)
  obtain ⟨k1, k2, k3⟩ := KW_19 ⟨i, hi⟩
  simp only at k1 k2 k3
  unfold wl_X8_isWord
  refine ⟨fun z => h0 (fun e => z (e1.mpr (ix_kw (by omega)).1)), fun z => ?_⟩
  obtain ⟨g1, g2, g3⟩ := h.ix1 (e1.mp z)
  rw [lg_cmp_eq, g2, ← hx, ← k3, eW_inj g3 (KW_wd _ k1)]
  refine ⟨fun y => h0 (fun e => y ?_), fun y => h1 ?_⟩
  · have hm := (ix_kw (k := hdt L) (by omega)).2
    exact kw_inj hm k1 (by rw [← g1, e, k2])
  · rw [g1, y, k2]
theorem sq8_kept {Φ : Int32 → Prop} (h : RR ts L q b T w td) (h1 : ¬ ix (hdt L) = 3 → Φ 1) (h0 : ix (hdt L) = 3 → Φ 0) : wl_X8_isKept T w Φ := by
  have e1 : T = 1 ↔ (hdt L).1 = 1 := h.tT 1 (by decide)
  unfold wl_X8_isKept
  refine ⟨fun z => ?_, fun z => h1 (fun e => z (e1.mpr (ix_3 e).1))⟩
  obtain ⟨g1, g2, g3⟩ := h.ix1 (e1.mp z)
  have hw : ∀ i : Nat, i < 19 → w = kwT.getD i 0 → ¬ ix (hdt L) = 3 := by
    intro i hi e
    obtain ⟨k1, k2, k3⟩ := KW_19 ⟨i, hi⟩
    simp only at k1 k2 k3
    have : (hdt L).2.2 = KW.getD i [] := (eW_inj g3 (KW_wd _ k1)).mp (g2.symm.trans (e.trans k3.symm))
    rw [g1, this, k2]
    omega
  simp only [lg_cmp_eq]
  have last : (¬ ∃ i, i < 19 ∧ w = kwT.getD i 0) → Φ 0 := by
    intro hno
    apply h0
    rcases kwI_r (hdt L).2.2 with g | ⟨g4, g5, g6, g7⟩
    · rw [g1]; exact g
    · exfalso
      obtain ⟨k1, k2, k3⟩ := KW_19 ⟨kwI (hdt L).2.2 - 12, by omega⟩
      simp only at k1 k2 k3
      have : (hdt L).2.2 = KW.getD (kwI (hdt L).2.2 - 12) [] := kw_inj g6 k1 (by rw [k2]; omega)
      exact hno ⟨kwI (hdt L).2.2 - 12, by omega, by rw [g2]; rw [← this] at k3; exact k3⟩
  refine ⟨fun y => h1 (hw 0 (by decide) y), fun y0 => ⟨fun y => h1 (hw 1 (by decide) y), fun y1 => ⟨fun y => h1 (hw 2 (by decide) y), fun y2 => ⟨fun y => h1 (hw 3 (by decide) y), fun y3 => ⟨fun y => h1 (hw 4 (by decide) y), fun y4 => ⟨fun y => h1 (hw 5 (by decide) y), fun y5 => ⟨fun y => h1 (hw 8 (by decide) y), fun y6 => ⟨fun y => h1 (hw 9 (by decide) y), fun y7 => ⟨fun y => h1 (hw 10 (by decide) y), fun y8 => ⟨fun y => h1 (hw 11 (by decide) y), fun y9 => ⟨fun y => h1 (hw 12 (by decide) y), fun y10 => ⟨fun y => h1 (hw 6 (by decide) y), fun y11 => ⟨fun y => h1 (hw 13 (by decide) y), fun y12 => ⟨fun y => h1 (hw 7 (by decide) y), fun y13 => ⟨fun y => h1 (hw 14 (by decide) y), fun y14 => ⟨fun y => h1 (hw 15 (by decide) y), fun y15 => ⟨fun y => h1 (hw 16 (by decide) y), fun y16 => ⟨fun y => h1 (hw 17 (by decide) y), fun y17 => ⟨fun y18 => last ?_, fun y => h1 (hw 18 (by decide) y)⟩⟩⟩⟩⟩⟩⟩⟩⟩⟩⟩⟩⟩⟩⟩⟩⟩⟩⟩
  rintro ⟨i, hi, e⟩
  match i, hi, e with
  | 0, _, e => exact y0 e
  | 1, _, e => exact y1 e
  | 2, _, e => exact y2 e
  | 3, _, e => exact y3 e
  | 4, _, e => exact y4 e
  | 5, _, e => exact y5 e
  | 6, _, e => exact y11 e
  | 7, _, e => exact y13 e
  | 8, _, e => exact y6 e
  | 9, _, e => exact y7 e
  | 10, _, e => exact y8 e
  | 11, _, e => exact y9 e
  | 12, _, e => exact y10 e
  | 13, _, e => exact y12 e
  | 14, _, e => exact y14 e
  | 15, _, e => exact y15 e
  | 16, _, e => exact y16 e
  | 17, _, e => exact y17 e
  | 18, _, e => exact y18 e
  | n + 19, h, _ => exact absurd h (by omega)
/-- a row of names, the reference's -/
def NB (ns : List (List Nat)) (an : Nat → Int64) : Prop := ns.length ≤ 6 ∧ (∀ w ∈ ns, WD w) ∧ ∀ i w, ns[i]? = some w → an i = eW w
theorem sq8_cellOf {ns : List (List Nat)} {z : List Nat} {cs : Nat → Int32} {an : Nat → Int64} {Φ : Int32 → Prop} (hN : NB ns an) (hk : cs 1 = nI ns.length) (hz : WD z) (h0 : fnd ns z = none → Φ (-1)) (h1 : ∀ j, fnd ns z = some j → Φ (nI j)) : wl_X8_cellOf (eW z) cs an Φ := by
  have h6 := hN.1
  have key : ∀ (n i : Nat), i ≤ ns.length → fnd ns z = fndF (ns.drop i) z i → ll_X8_cellOf_2 (eW z) cs an Φ n (nI i) := by
    intro n
    induction n with
    | zero => intro i _ _; trivial
    | succ n ih =>
      intro i hi he
      show bl_X8_cellOf_2 _ _ _ _ _ _
      unfold bl_X8_cellOf_2
      rw [hk, nI_leI (by omega) (by omega)]
      refine ⟨fun y => h0 ?_, fun y _ => ?_⟩
      · rw [he, List.drop_eq_nil_of_le y]; rfl
      · have hlt : i < ns.length := by omega
        have ha : an i = eW ns[i] := hN.2.2 i _ (List.getElem?_eq_getElem hlt)
        have hwi : WD ns[i] := hN.2.1 _ (List.getElem_mem hlt)
        rw [List.drop_eq_getElem_cons hlt] at he
        have he : fnd ns z = if ns[i] = z then some i else fndF (ns.drop (i + 1)) z (i + 1) := he
        rw [nI_clamp (n := i) (by omega), ha, lg_cmp_eq, eW_inj hwi hz, nI_1]
        exact ⟨fun z3 => ih (i + 1) (by omega) (by rw [he, if_neg z3]), fun z3 => h1 i (by rw [he, if_pos z3])⟩
  exact fun n => key n 0 (Nat.zero_le _) rfl
theorem sq8_stuffOf {ns : List (List Nat)} {z : List Nat} {cs : Nat → Int32} {an : Nat → Int64} {Φ : Int32 → Prop} (hN : NB ns an) (hk : cs 1 = nI ns.length) (hz : WD z) (h0 : fnd ns z = none → Φ (-1)) (h1 : ∀ j, fnd ns z = some j → Φ (nI j)) : wl_X8_stuffOf (eW z) cs an Φ := by
  have h6 := hN.1
  have key : ∀ (n i : Nat), i ≤ ns.length → fnd ns z = fndF (ns.drop i) z i → ll_X8_stuffOf_2 (eW z) cs an Φ n (nI i) := by
    intro n
    induction n with
    | zero => intro i _ _; trivial
    | succ n ih =>
      intro i hi he
      show bl_X8_stuffOf_2 _ _ _ _ _ _
      unfold bl_X8_stuffOf_2
      rw [hk, nI_leI (by omega) (by omega)]
      refine ⟨fun y => h0 ?_, fun y _ => ?_⟩
      · rw [he, List.drop_eq_nil_of_le y]; rfl
      · have hlt : i < ns.length := by omega
        have ha : an i = eW ns[i] := hN.2.2 i _ (List.getElem?_eq_getElem hlt)
        have hwi : WD ns[i] := hN.2.1 _ (List.getElem_mem hlt)
        rw [List.drop_eq_getElem_cons hlt] at he
        have he : fnd ns z = if ns[i] = z then some i else fndF (ns.drop (i + 1)) z (i + 1) := he
        rw [nI_clamp (n := i) (by omega), ha, lg_cmp_eq, eW_inj hwi hz, nI_1]
        exact ⟨fun z3 => ih (i + 1) (by omega) (by rw [he, if_neg z3]), fun z3 => h1 i (by rw [he, if_pos z3])⟩
  exact fun n => key n 0 (Nat.zero_le _) rfl
theorem RR.fltZ (h : RR ts L q b T w td) (k : Nat) : nI k + 16 * nI b = nI (flt k L) := by
  rw [show (16 : Int32) = nI 16 from rfl, pk_mul, nI_add, ← h.pl]
  rfl
end RQ8
