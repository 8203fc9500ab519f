/-- what is kept of what was written: the first kn -/
def KE9 (kn : Nat) (w : List Int32) (ke : Nat → Int32) : Prop := ∀ i y, w[i]? = some y → i < kn → ke i = y
theorem KE9.nil {kn : Nat} {ke : Nat → Int32} : KE9 kn [] ke := fun i y h => by simp at h
theorem KE9.push {kn : Nat} {w : List Int32} {ke : Nat → Int32} {v : Int32} (h : KE9 kn w ke) : KE9 kn (w ++ [v]) (upd ke w.length v) := by
  intro i y hi hk
  rcases app_get hi with h1 | ⟨e, e2⟩
  · have := get_lt h1
    rw [pk_un (by omega)]
    exact h i y h1 hk
  · rw [e, pk_us, e2]
theorem KE9.full {kn : Nat} {w : List Int32} {ke : Nat → Int32} {v : Int32} (h : KE9 kn w ke) (hf : kn ≤ w.length) : KE9 kn (w ++ [v]) ke := by
  intro i y hi hk
  rcases app_get hi with h1 | ⟨e, e2⟩
  · exact h i y h1 hk
  · omega
/-- agree ahead of n -/
def AGn (n : Nat) (f f' : Nat → Int32) : Prop := ∀ i, i < n → f' i = f i
theorem AGn.updZ {n : Nat} {f f' : Nat → Int32} {k : Nat} {v : Int32} (h : AGn n f f') : AGn n (upd f k v) (upd f' k v) := by
  intro i hi
  by_cases e : i = k
  · rw [e, pk_us, pk_us]
  · rw [pk_un e, pk_un e]; exact h i hi
theorem AGn.rf {n : Nat} {f : Nat → Int32} : AGn n f f := fun _ _ => rfl
/-- the lines as they are laid bear so much -/
def beS (g : PGr) (s : Nat) : Nat := (g.1.getD s ([], 0, 0)).2.1
def coS (g : PGr) (s : Nat) : Nat := (g.1.getD s ([], 0, 0)).2.2
def brG (g : PGr) (sf tf : Nat → Nat) (l : Nat) : Int32 := nI (beS g (sf l)) * nI (tf l)
/-- so may lines be laid -/
def LYo (g : PGr) (sf tf : Nat → Nat) : Prop := ∀ l, l < nL g → sf l < nS g ∧ 1 ≤ tf l ∧ tf l ≤ 4
def CLs (g : PGr) (sf tf : Nat → Nat) (st tw : Nat → Int32) : Prop := ∀ l, l < nL g → st l = nI (sf l) ∧ tw l = nI (tf l)
section CM
variable {g : PGr} {x : PM} {wy kn cl : Nat} {pst pce pgi pln : Int32} {be co to gc le gr ac sq tg fr mi en cd : Nat → Int32} {sf tf : Nat → Nat} {st tw : Nat → Int32}
theorem SA9.beZ (h : SA9 g.1 be co) {s : Nat} (hs : s < nS g) : be s = nI (beS g s) ∧ co s = nI (coS g s) := by
  have hs : s < g.1.length := hs
  have := h s _ (List.getElem?_eq_getElem hs)
  unfold beS coS
  rw [List.getD_eq_getElem?_getD, List.getElem?_eq_getElem hs]
  exact this
theorem sq1_bearing {l : Nat} {Φ : Int32 → Prop} (hS : SA9 g.1 be co) (hG : GK9 g) (hL : LYo g sf tf) (hc : CLs g sf tf st tw) (hl : l < nL g) (h : Φ (brG g sf tf l)) : wl_X1_bearing st tw be (nI l) Φ := by
  have h16 : nL g ≤ 16 := hG.2.2.2.2.2.2.2.2.1
  have h4 : nS g ≤ 4 := hG.1
  obtain ⟨h1, h2, h3⟩ := hL l hl
  unfold wl_X1_bearing
  rw [nI_clamp (n := l) (by omega), (hc l hl).1, (hc l hl).2, nI_clamp (n := sf l) (by omega), (hS.beZ h1).1]
  exact fun _ _ _ => h
/-- a line's own numbers in the class's rows -/
theorem LA9.atZ (hL : LA9 g.2.2.2 ac sq tg fr mi en) {l : Nat} (hl : l < nL g) : LR9 (cds g) (lnG g l) (ac l) (sq l) (tg l) (fr l) (mi l) (en l) := hL l _ (lnG_get hl)
theorem sq1_rk0 {X n : Int32} {wo ce sk : Nat → Int32} {Φ : Int32 → (Nat → Int32) → Prop} (h : Φ 0 sk) : wl_X1_reckon wo ce n cd cl X X sk Φ := by
  unfold wl_X1_reckon
  intro m
  cases m with
  | zero => trivial
  | succ m =>
    show bl_X1_reckon_23 _ _ _ _ _ _ _ _ _ _ _ _ _
    unfold bl_X1_reckon_23
    have hle : (if nI cl < X then nI cl else X) ≤ (if (0 : Int32) < X then X else (0 : Int32)) := by
      have h1 : (if nI cl < X then nI cl else X) ≤ X := by
        split
        · rename_i z; exact Int32.le_of_lt z
        · exact Int32.le_refl _
      refine Int32.le_trans h1 ?_
      split
      · exact Int32.le_refl _
      · rename_i z; exact Int32.not_lt.mp z
    exact ⟨fun _ => ⟨fun _ => h, fun z => absurd (by decide) z⟩, fun z => absurd hle z⟩
theorem sq1_rk {o : Nat} {e : EC} {wo ce C sk : Nat → Int32} {Φ : Int32 → (Nat → Int32) → Prop} (he : OE9 (nC g) e) (hG : GK9 g) (hp : 0 < nL g) (hcl : cl = (cds g).length) (hcl2 : cl < 1000) (hcd : ∀ i c, (cds g)[i]? = some c → cd i = nI c) (ho : ∀ j c, e.2[j]? = some c → (cds g)[o + j]? = some c) (hC : AGn (nC g) C ce) {wv : Int32 → Int32} (hwv : ∀ v, wo (lnOf v (nL g)) = wv v) (h : ∀ sk', Φ (FE e C wv) sk') : wl_X1_reckon wo ce (nI (nL g)) cd cl (nI o) (nI (o + e.2.length)) sk Φ := by
  have h16 : nL g ≤ 16 := hG.2.2.2.2.2.2.2.2.1
  have h6 : nC g ≤ 6 := hG.2.2.1
  have ew : (fun x => wo (lnOf x (nL g))) = wv := funext hwv
  by_cases e0 : e.2 = []
  · have h0 := h sk
    have ef : FE e C wv = 0 := by unfold FE; rw [e0]; rfl
    rw [ef] at h0
    rw [e0]
    exact sq1_rk0 h0
  · have hlen : 0 < e.2.length := List.length_pos_iff.mpr e0
    have ho2 : o + e.2.length ≤ cl := by
      have := get_lt (ho (e.2.length - 1) _ (List.getElem?_eq_getElem (by omega)))
      omega
    refine sq1_reckon hp h16 (by omega) ho2 (fun j c hj => ⟨hcd _ c (ho j c hj), ?_⟩) (fun k => he.bd h6 _ _ k) (fun sk' => ?_)
    · have := (he.cr c (List.mem_of_getElem? hj)).2
      omega
    · have h0 := h sk'
      rw [← he.cong hC, ← ew] at h0
      exact h0
theorem mx0_neg {x : Int32} (h : ¬ x ≤ 0) : mx0 (0 - x) = 0 := by
  unfold mx0
  have h1 : 0 < x.toInt := by
    have : ¬ x.toInt ≤ (0 : Int32).toInt := fun q => h (Int32.le_iff_toInt_le.mpr q)
    rw [show (0 : Int32).toInt = 0 from rfl] at this
    omega
  have h2 := x.toInt_lt
  have h3 : ((0 : Int32) - x).toInt = - x.toInt := by
    rw [Int32.toInt_sub, show (0 : Int32).toInt = 0 from rfl]
    rw [show (0 : Int) - x.toInt = - x.toInt by omega]
    apply Int.bmod_eq_of_le <;> omega
  rw [if_neg]
  intro q
  have := Int32.lt_iff_toInt_lt.mp q
  rw [h3, show (0 : Int32).toInt = 0 from rfl] at this
  omega
abbrev PWkC : Type := Int32 → Int32 → (Nat → Int32) → (Nat → Int32) → (Nat → Int32) → (Nat → Int32) → Prop
theorem sq1_work {wo ce ke sk : Nat → Int32} {Φ : PWkC} (hQ : PQ9 g pst pce pgi pln be co to gc le gr ac sq tg fr mi en cl cd) (hG : GK9 g) (hN : x.2.1 < nL g) (hO : AGn 16 (w1 wy x) wo) (hz : wy = 2 → ∀ i, i < 16 → w1 wy x i = 0) (hC : AGn (nC g) x.2.2.2.2.1 ce) (hk : KE9 kn x.2.2.2.2.2 ke) (hW : x.2.2.2.2.2.length < 2 ^ 30) (hkn : kn < 2 ^ 30)
    (h : ∀ wo' ce' ke' sk', AGn 16 (woG g wy x) wo' → AGn (nC g) (ceG g wy x) ce' → KE9 kn (wrG g wy x) ke' → Φ (nI (nxG g wy x)) (nI (wrG g wy x).length) wo' ce' ke' sk') : wl_X1_work pln ac tg fr mi en cd kn cl (nI x.2.1) (nI x.2.2.2.2.2.length) wo ce ke sk Φ := by
  obtain ⟨q1, q2, q3, q4, q5, q6, q7, q8, q9, q10, q11, q12, q13, q14⟩ := hQ
  have h16 : nL g ≤ 16 := q3
  have h6 : nC g ≤ 6 := q2
  have hp : 0 < nL g := by omega
  have eln : pln = nI (nL g) := q7
  obtain ⟨a1, a2, a3, o, a4, a5, a6, a7⟩ := LA9.atZ q11 hN
  have hwv : ∀ v, wo (lnOf v (nL g)) = wvG (nL g) wy (w1 wy x) v := by
    intro v
    have := lnOf_lt v hp
    unfold wvG
    rw [hO _ (by omega)]
    by_cases e : wy = 2
    · rw [if_pos e, hz e _ (by omega)]
    · rw [if_neg e]
  have g1 : ∀ j c, (lnG g x.2.1).2.2.2.1.2[j]? = some c → (cds g)[o + j]? = some c := fun j c hj => a7 j c (by rw [List.getElem?_append_left (get_lt hj)]; exact hj)
  have g2 : ∀ j c, (lnG g x.2.1).2.2.2.2.2[j]? = some c → (cds g)[o + (lnG g x.2.1).2.2.2.1.2.length + j]? = some c := fun j c hj => by
    rw [Nat.add_assoc]
    exact a7 _ c (by rw [List.getElem?_append_right (by omega), show (lnG g x.2.1).2.2.2.1.2.length + j - (lnG g x.2.1).2.2.2.1.2.length = j by omega]; exact hj)
  rw [List.length_append, ← Nat.add_assoc] at a6
  have ok := lnG_ok hG hN
  unfold wl_X1_work
  rw [eln, nI_clamp (n := x.2.1) (by omega), a4, a5, a6, a1, nI_1]
  refine fun _ _ => sq1_rk (lnG_e1 hG hN) hG hp q12 q13 q14 g1 hC hwv (fun sk1 => fun _ _ => sq1_rk (lnG_e2 hG hN) hG hp q12 q13 q14 g2 hC hwv (fun sk2 => fun _ => ?_))
  have one : FE (lnG g x.2.1).2.2.2.1 x.2.2.2.2.1 (wvG (nL g) wy (w1 wy x)) = oneG g wy x := rfl
  have two : FE (lnG g x.2.1).2.2.2.2 x.2.2.2.2.1 (wvG (nL g) wy (w1 wy x)) = twoG g wy x := rfl
  rw [one, two]
  have qq : ∀ j : Nat, j < 100 → (nI (lnG g x.2.1).1 = nI j ↔ (lnG g x.2.1).1 = j) := fun j hj => nI_eq (by have := ok.1; omega) (by omega)
  have q0 : nI (lnG g x.2.1).1 = 0 ↔ (lnG g x.2.1).1 = 0 := qq 0 (by decide)
  have q1' : nI (lnG g x.2.1).1 = 1 ↔ (lnG g x.2.1).1 = 1 := qq 1 (by decide)
  have q2' : nI (lnG g x.2.1).1 = 2 ↔ (lnG g x.2.1).1 = 2 := qq 2 (by decide)
  have q3' : nI (lnG g x.2.1).1 = 3 ↔ (lnG g x.2.1).1 = 3 := qq 3 (by decide)
  have q4' : nI (lnG g x.2.1).1 = 4 ↔ (lnG g x.2.1).1 = 4 := qq 4 (by decide)
  have q5' : nI (lnG g x.2.1).1 = 5 ↔ (lnG g x.2.1).1 = 5 := qq 5 (by decide)
  rw [q0, q1', q2', q3', q4', q5', nI_toInt (by have := ok.1; omega)]
  have fin : ∀ (n : Nat) (u : List Int32) (wo' ce' ke' : Nat → Int32), n = nxG g wy x → u = wrG g wy x → AGn 16 (woG g wy x) wo' → AGn (nC g) (ceG g wy x) ce' → KE9 kn (wrG g wy x) ke' → Φ (nI n) (nI u.length) wo' ce' ke' sk2 := by
    intro n u wo' ce' ke' e1 e2 e3 e4 e5
    rw [e1, e2]
    exact h _ _ _ _ e3 e4 e5
  generalize ha : (lnG g x.2.1).1 = a at *
  have wo_ : ¬ a = 5 → AGn 16 (woG g wy x) wo := fun e => by unfold woG; rw [ha, if_neg (fun q => e q.1)]; exact hO
  have ce_ : ¬ a = 0 → ¬ a = 4 → AGn (nC g) (ceG g wy x) ce := fun e e2 => by unfold ceG; rw [ha, if_neg e, if_neg e2]; exact hC
  have wr_ : ¬ a = 1 → wrG g wy x = x.2.2.2.2.2 := fun e => by unfold wrG; rw [ha, if_neg e]
  have ke_ : ¬ a = 1 → KE9 kn (wrG g wy x) ke := fun e => by rw [wr_ e]; exact hk
  refine ⟨fun e => ?_, fun e => ?_, fun e => ?_, fun e => ?_, fun e => ?_, fun e => ?_, fun e => ?_⟩
  · have tt : tg x.2.1 = nI (lnG g x.2.1).2.2.1 := a3 (Or.inl e)
    have t6 : (lnG g x.2.1).2.2.1 < nC g := ok.2.2.1 (Or.inl (ha.trans e))
    rw [tt, nI_clamp (n := (lnG g x.2.1).2.2.1) (by omega)]
    refine fun _ _ => fin _ _ _ _ _ ?_ (wr_ (by omega)).symm (wo_ (by omega)) ?_ (ke_ (by omega))
    · unfold nxG; rw [ha, if_neg (by omega), if_neg (by omega), if_neg (by omega)]
    · unfold ceG; rw [ha, if_pos e]; exact hC.updZ
  · have hnx : x.2.1 + 1 = nxG g wy x := by unfold nxG; rw [ha, if_neg (by omega), if_neg (by omega), if_neg (by omega)]
    have hwr : wrG g wy x = x.2.2.2.2.2 ++ [oneG g wy x] := by unfold wrG; rw [ha, if_pos e]
    have hlen : x.2.2.2.2.2.length + 1 = (x.2.2.2.2.2 ++ [oneG g wy x]).length := by rw [List.length_append]; rfl
    unfold wl_X1_write
    rw [nI_leI (by omega) (by omega), nI_clamp (n := x.2.2.2.2.2.length) (by omega), nI_1, hlen]
    refine ⟨fun z => fin _ _ _ _ _ hnx hwr.symm (wo_ (by omega)) (ce_ (by omega) (by omega)) ?_, fun z _ => fin _ _ _ _ _ hnx hwr.symm (wo_ (by omega)) (ce_ (by omega) (by omega)) ?_⟩
    · rw [hwr]; exact hk.full z
    · rw [hwr]; exact hk.push
  · refine sq1_lineOf hp h16 (fin _ _ _ _ _ ?_ (wr_ (by omega)).symm (wo_ (by omega)) (ce_ (by omega) (by omega)) (ke_ (by omega)))
    unfold nxG; rw [ha, if_pos (Or.inl e)]
  · refine ⟨fun z => fin _ _ _ _ _ ?_ (wr_ (by omega)).symm (wo_ (by omega)) (ce_ (by omega) (by omega)) (ke_ (by omega)), fun z => sq1_lineOf hp h16 (fin _ _ _ _ _ ?_ (wr_ (by omega)).symm (wo_ (by omega)) (ce_ (by omega) (by omega)) (ke_ (by omega)))⟩
    · unfold nxG; rw [ha, if_neg (by omega), if_neg (fun q => q.2 z), if_neg (by omega)]
    · unfold nxG; rw [ha, if_neg (by omega), if_pos ⟨e, z⟩]
  · have tt : tg x.2.1 = nI (lnG g x.2.1).2.2.1 := a3 (Or.inr e)
    have t6 : (lnG g x.2.1).2.2.1 < nC g := ok.2.2.1 (Or.inr (ha.trans e))
    rw [tt, nI_clamp (n := (lnG g x.2.1).2.2.1) (by omega)]
    refine fun _ _ => sq1_lineOf hp h16 (fin _ _ _ _ _ ?_ (wr_ (by omega)).symm (wo_ (by omega)) ?_ (ke_ (by omega)))
    · unfold nxG; rw [ha, if_pos (Or.inr e)]
    · unfold ceG; rw [ha, if_neg (by omega), if_pos e]; exact hC.updZ
  · have hnx : x.2.1 + 1 = nxG g wy x := by unfold nxG; rw [ha, if_neg (by omega), if_neg (by omega), if_neg (by omega)]
    have hlt := lnOf_lt (oneG g wy x) hp
    refine sq1_lineOf hp h16 ?_
    unfold wl_X1_mend
    rw [nI_clamp (n := lnOf (oneG g wy x) (nL g)) (by omega)]
    refine ⟨fun z => fin _ _ _ _ _ hnx (wr_ (by omega)).symm ?_ (ce_ (by omega) (by omega)) (ke_ (by omega)), fun z _ _ => fin _ _ _ _ _ hnx (wr_ (by omega)).symm ?_ (ce_ (by omega) (by omega)) (ke_ (by omega))⟩
    · unfold woG; rw [ha, if_neg (fun q => q.2.1 z)]; exact hO
    · have em : (if (0 : Int32) < wo (lnOf (oneG g wy x) (nL g)) - twoG g wy x then wo (lnOf (oneG g wy x) (nL g)) - twoG g wy x else (0 : Int32)) = mx0 (w1 wy x (lnOf (oneG g wy x) (nL g)) - twoG g wy x) := by
        rw [hO _ (by omega)]; rfl
      rw [em]
      unfold woG
      rw [ha]
      by_cases ew : wy = 2
      · rw [if_neg (fun q => q.2.2 ew)]
        intro i hi
        by_cases ei : i = lnOf (oneG g wy x) (nL g)
        · rw [ei, pk_us, hz ew _ (by omega), mx0_neg z]
        · rw [pk_un ei]; exact hO i hi
      · rw [if_pos ⟨e, z, ew⟩]
        exact hO.updZ
  · have e6 : a = 6 := by have := ok.1; omega
    refine fin _ _ _ _ _ ?_ (wr_ (by omega)).symm (wo_ (by omega)) (ce_ (by omega) (by omega)) (ke_ (by omega))
    unfold nxG; rw [ha, if_neg (by omega), if_neg (by omega), if_pos e6]
end CM
