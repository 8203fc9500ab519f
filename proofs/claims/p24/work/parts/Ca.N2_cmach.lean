section
/-- what is kept of what was written: the first kn -/
def KE9 (kn : Nat) (w : List Int32) (ke : Nat → Int32) : Prop := ∀ i y, w[i]? = some y → i < kn → ke i = y
theorem KE9.nil {kn : Nat} {ke : Nat → Int32} : KE9 kn [] ke := fun i y h => by simp at h
theorem KE9.push {kn : Nat} {w : List Int32} {ke : Nat → Int32} {v : Int32} (h : KE9 kn w ke) : KE9 kn (w ++ [v]) (upd ke w.length v) := by
  intro i y hi hk
  rcases app_get hi with h1 | ⟨e, e2⟩
  · have := get_lt h1
    rw [pk_un (by omega)]
    exact h i y h1 hk
  · rw [e, pk_us, e2]
theorem KE9.full {kn : Nat} {w : List Int32} {ke : Nat → Int32} {v : Int32} (h : KE9 kn w ke) (hf : kn ≤ w.length) : KE9 kn (w ++ [v]) ke := by
  intro i y hi hk
  rcases app_get hi with h1 | ⟨e, e2⟩
  · exact h i y h1 hk
  · omega
/-- agree ahead of n -/
def AGn (n : Nat) (f f' : Nat → Int32) : Prop := ∀ i, i < n → f' i = f i
theorem AGn.updZ {n : Nat} {f f' : Nat → Int32} {k : Nat} {v : Int32} (h : AGn n f f') : AGn n (upd f k v) (upd f' k v) := by
  intro i hi
  by_cases e : i = k
  · rw [e, pk_us, pk_us]
  · rw [pk_un e, pk_un e]; exact h i hi
theorem AGn.rf {n : Nat} {f : Nat → Int32} : AGn n f f := fun _ _ => rfl
/-- the lines as they are laid bear so much -/
def beS (g : PGr) (s : Nat) : Nat := (g.1.getD s ([], 0, 0)).2.1
def coS (g : PGr) (s : Nat) : Nat := (g.1.getD s ([], 0, 0)).2.2
def brG (g : PGr) (sf tf : Nat → Nat) (l : Nat) : Int32 := nI (beS g (sf l)) * nI (tf l)
/-- so may lines be laid -/
def LYo (g : PGr) (sf tf : Nat → Nat) : Prop := ∀ l, l < nL g → sf l < nS g ∧ 1 ≤ tf l ∧ tf l ≤ 4
def CLs (g : PGr) (sf tf : Nat → Nat) (st tw : Nat → Int32) : Prop := ∀ l, l < nL g → st l = nI (sf l) ∧ tw l = nI (tf l)
section CM
variable {g : PGr} {x : PM} {wy kn cl : Nat} {pst pce pgi pln : Int32} {be co to gc le gr ac sq tg fr mi en cd : Nat → Int32} {sf tf : Nat → Nat} {st tw : Nat → Int32}
theorem SA9.beZ (h : SA9 g.1 be co) {s : Nat} (hs : s < nS g) : be s = nI (beS g s) ∧ co s = nI (coS g s) := by
  have hs : s < g.1.length := hs
  have := h s _ (List.getElem?_eq_getElem hs)
  unfold beS coS
  rw [List.getD_eq_getElem?_getD, List.getElem?_eq_getElem hs]
  exact this
theorem sq1_bearing {l : Nat} {Φ : Int32 → Prop} (hS : SA9 g.1 be co) (hG : GK9 g) (hL : LYo g sf tf) (hc : CLs g sf tf st tw) (hl : l < nL g) (h : Φ (brG g sf tf l)) : wl_X1_bearing st tw be (nI l) Φ := by
  have h16 : nL g ≤ 16 := hG.2.2.2.2.2.2.2.2.1
  have h4 : nS g ≤ 4 := hG.1
  obtain ⟨h1, h2, h3⟩ := hL l hl
  unfold wl_X1_bearing
  rw [nI_clamp (n := l) (by omega), (hc l hl).1, (hc l hl).2, nI_clamp (n := sf l) (by omega), (hS.beZ h1).1]
  exact fun _ _ _ => h
/-- a line's own numbers in the class's rows -/
theorem LA9.atZ (hL : LA9 g.2.2.2 ac sq tg fr mi en) {l : Nat} (hl : l < nL g) : LR9 (cds g) (lnG g l) (ac l) (sq l) (tg l) (fr l) (mi l) (en l) := hL l _ (lnG_get hl)
theorem sq1_rk0 {X n : Int32} {wo ce sk : Nat → Int32} {Φ : Int32 → (Nat → Int32) → Prop} (h : Φ 0 sk) : wl_X1_reckon wo ce n cd cl X X sk Φ := by
  unfold wl_X1_reckon
  intro m
  cases m with
  | zero => trivial
  | succ m =>
    show bl_X1_reckon_23 _ _ _ _ _ _ _ _ _ _ _ _ _
    unfold bl_X1_reckon_23
    have hle : (if nI cl < X then nI cl else X) ≤ (if (0 : Int32) < X then X else (0 : Int32)) := by
      have h1 : (if nI cl < X then nI cl else X) ≤ X := by
        split
        · rename_i z; exact Int32.le_of_lt z
        · exact Int32.le_refl _
      refine Int32.le_trans h1 ?_
      split
      · exact Int32.le_refl _
      · rename_i z; exact Int32.not_lt.mp z
    exact ⟨fun _ => ⟨fun _ => h, fun z => absurd (by decide) z⟩, fun z => absurd hle z⟩
theorem sq1_rk {o : Nat} {e : EC} {wo ce C sk : Nat → Int32} {Φ : Int32 → (Nat → Int32) → Prop} (he : OE9 (nC g) e) (hG : GK9 g) (hp : 0 < nL g) (hcl : cl = (cds g).length) (hcl2 : cl < 1000) (hcd : ∀ i c, (cds g)[i]? = some c → cd i = nI c) (ho : ∀ j c, e.2[j]? = some c → (cds g)[o + j]? = some c) (hC : AGn (nC g) C ce) {wv : Int32 → Int32} (hwv : ∀ v, wo (lnOf v (nL g)) = wv v) (h : ∀ sk', Φ (FE e C wv) sk') : wl_X1_reckon wo ce (nI (nL g)) cd cl (nI o) (nI (o + e.2.length)) sk Φ := by
  have h16 : nL g ≤ 16 := hG.2.2.2.2.2.2.2.2.1
  have h6 : nC g ≤ 6 := hG.2.2.1
  have ew : (fun x => wo (lnOf x (nL g))) = wv := funext hwv
  by_cases e0 : e.2 = []
  · have h0 := h sk
    have ef : FE e C wv = 0 := by unfold FE; rw [e0]; rfl
    rw [ef] at h0
    rw [e0]
    exact sq1_rk0 h0
  · have hlen : 0 < e.2.length := List.length_pos_iff.mpr e0
    have ho2 : o + e.2.length ≤ cl := by
      have := get_lt (ho (e.2.length - 1) _ (List.getElem?_eq_getElem (by omega)))
      omega
    refine sq1_reckon hp h16 (by omega) ho2 (fun j c hj => ⟨hcd _ c (ho j c hj), ?_⟩) (fun k => he.bd h6 _ _ k) (fun sk' => ?_)
    · have := (he.cr c (List.mem_of_getElem? hj)).2
      omega
    · have h0 := h sk'
      rw [← he.cong hC, ← ew] at h0
      exact h0
theorem mx0_neg {x : Int32} (h : ¬ x ≤ 0) : mx0 (0 - x) = 0 := by
  unfold mx0
  have h1 : 0 < x.toInt := by
    have : ¬ x.toInt ≤ (0 : Int32).toInt := fun q => h (Int32.le_iff_toInt_le.mpr q)
    rw [show (0 : Int32).toInt = 0 from rfl] at this
    omega
  have h2 := x.toInt_lt
  have h3 : ((0 : Int32) - x).toInt = - x.toInt := by
    rw [Int32.toInt_sub, show (0 : Int32).toInt = 0 from rfl]
    rw [show (0 : Int) - x.toInt = - x.toInt by omega]
    apply Int.bmod_eq_of_le <;> omega
  rw [if_neg]
  intro q
  have := Int32.lt_iff_toInt_lt.mp q
  rw [h3, show (0 : Int32).toInt = 0 from rfl] at this
  omega
abbrev PWkC : Type := Int32 → Int32 → (Nat → Int32) → (Nat → Int32) → (Nat → Int32) → (Nat → Int32) → Prop
theorem sq1_work {wo ce ke sk : Nat → Int32} {Φ : PWkC} (hQ : PQ9 g pst pce pgi pln be co to gc le gr ac sq tg fr mi en cl cd) (hG : GK9 g) (hN : x.2.1 < nL g) (hO : AGn 16 (w1 wy x) wo) (hz : wy = 2 → ∀ i, i < 16 → w1 wy x i = 0) (hC : AGn (nC g) x.2.2.2.2.1 ce) (hk : KE9 kn x.2.2.2.2.2 ke) (hW : x.2.2.2.2.2.length < 2 ^ 30) (hkn : kn < 2 ^ 30)
    (h : ∀ wo' ce' ke' sk', AGn 16 (woG g wy x) wo' → AGn (nC g) (ceG g wy x) ce' → KE9 kn (wrG g wy x) ke' → Φ (nI (nxG g wy x)) (nI (wrG g wy x).length) wo' ce' ke' sk') : wl_X1_work pln ac tg fr mi en cd kn cl (nI x.2.1) (nI x.2.2.2.2.2.length) wo ce ke sk Φ := by
  obtain ⟨q1, q2, q3, q4, q5, q6, q7, q8, q9, q10, q11, q12, q13, q14⟩ := hQ
  have h16 : nL g ≤ 16 := q3
  have h6 : nC g ≤ 6 := q2
  have hp : 0 < nL g := by omega
  have eln : pln = nI (nL g) := q7
  obtain ⟨a1, a2, a3, o, a4, a5, a6, a7⟩ := LA9.atZ q11 hN
  have hwv : ∀ v, wo (lnOf v (nL g)) = wvG (nL g) wy (w1 wy x) v := by
    intro v
    have := lnOf_lt v hp
    unfold wvG
    rw [hO _ (by omega)]
    by_cases e : wy = 2
    · rw [if_pos e, hz e _ (by omega)]
    · rw [if_neg e]
  have g1 : ∀ j c, (lnG g x.2.1).2.2.2.1.2[j]? = some c → (cds g)[o + j]? = some c := fun j c hj => a7 j c (by rw [List.getElem?_append_left (get_lt hj)]; exact hj)
  have g2 : ∀ j c, (lnG g x.2.1).2.2.2.2.2[j]? = some c → (cds g)[o + (lnG g x.2.1).2.2.2.1.2.length + j]? = some c := fun j c hj => by
    rw [Nat.add_assoc]
    exact a7 _ c (by rw [List.getElem?_append_right (by omega), show (lnG g x.2.1).2.2.2.1.2.length + j - (lnG g x.2.1).2.2.2.1.2.length = j by omega]; exact hj)
  rw [List.length_append, ← Nat.add_assoc] at a6
  have ok := lnG_ok hG hN
  unfold wl_X1_work
  rw [eln, nI_clamp (n := x.2.1) (by omega), a4, a5, a6, a1, nI_1]
  refine fun _ _ => sq1_rk (lnG_e1 hG hN) hG hp q12 q13 q14 g1 hC hwv (fun sk1 => fun _ _ => sq1_rk (lnG_e2 hG hN) hG hp q12 q13 q14 g2 hC hwv (fun sk2 => fun _ => ?_))
  have one : FE (lnG g x.2.1).2.2.2.1 x.2.2.2.2.1 (wvG (nL g) wy (w1 wy x)) = oneG g wy x := rfl
  have two : FE (lnG g x.2.1).2.2.2.2 x.2.2.2.2.1 (wvG (nL g) wy (w1 wy x)) = twoG g wy x := rfl
  rw [one, two]
  have qq : ∀ j : Nat, j < 100 → (nI (lnG g x.2.1).1 = nI j ↔ (lnG g x.2.1).1 = j) := fun j hj => nI_eq (by have := ok.1; omega) (by omega)
  have q0 : nI (lnG g x.2.1).1 = 0 ↔ (lnG g x.2.1).1 = 0 := qq 0 (by decide)
  have q1' : nI (lnG g x.2.1).1 = 1 ↔ (lnG g x.2.1).1 = 1 := qq 1 (by decide)
  have q2' : nI (lnG g x.2.1).1 = 2 ↔ (lnG g x.2.1).1 = 2 := qq 2 (by decide)
  have q3' : nI (lnG g x.2.1).1 = 3 ↔ (lnG g x.2.1).1 = 3 := qq 3 (by decide)
  have q4' : nI (lnG g x.2.1).1 = 4 ↔ (lnG g x.2.1).1 = 4 := qq 4 (by decide)
  have q5' : nI (lnG g x.2.1).1 = 5 ↔ (lnG g x.2.1).1 = 5 := qq 5 (by decide)
  rw [q0, q1', q2', q3', q4', q5', nI_toInt (by have := ok.1; omega)]
  have fin : ∀ (n : Nat) (u : List Int32) (wo' ce' ke' : Nat → Int32), n = nxG g wy x → u = wrG g wy x → AGn 16 (woG g wy x) wo' → AGn (nC g) (ceG g wy x) ce' → KE9 kn (wrG g wy x) ke' → Φ (nI n) (nI u.length) wo' ce' ke' sk2 := by
    intro n u wo' ce' ke' e1 e2 e3 e4 e5
    rw [e1, e2]
    exact h _ _ _ _ e3 e4 e5
  generalize ha : (lnG g x.2.1).1 = a at *
  have wo_ : ¬ a = 5 → AGn 16 (woG g wy x) wo := fun e => by unfold woG; rw [ha, if_neg (fun q => e q.1)]; exact hO
  have ce_ : ¬ a = 0 → ¬ a = 4 → AGn (nC g) (ceG g wy x) ce := fun e e2 => by unfold ceG; rw [ha, if_neg e, if_neg e2]; exact hC
  have wr_ : ¬ a = 1 → wrG g wy x = x.2.2.2.2.2 := fun e => by unfold wrG; rw [ha, if_neg e]
  have ke_ : ¬ a = 1 → KE9 kn (wrG g wy x) ke := fun e => by rw [wr_ e]; exact hk
  refine ⟨fun e => ?_, fun e => ?_, fun e => ?_, fun e => ?_, fun e => ?_, fun e => ?_, fun e => ?_⟩
  · have tt : tg x.2.1 = nI (lnG g x.2.1).2.2.1 := a3 (Or.inl e)
    have t6 : (lnG g x.2.1).2.2.1 < nC g := ok.2.2.1 (Or.inl (ha.trans e))
    rw [tt, nI_clamp (n := (lnG g x.2.1).2.2.1) (by omega)]
    refine fun _ _ => fin _ _ _ _ _ ?_ (wr_ (by omega)).symm (wo_ (by omega)) ?_ (ke_ (by omega))
    · unfold nxG; rw [ha, if_neg (by omega), if_neg (by omega), if_neg (by omega)]
    · unfold ceG; rw [ha, if_pos e]; exact hC.updZ
  · have hnx : x.2.1 + 1 = nxG g wy x := by unfold nxG; rw [ha, if_neg (by omega), if_neg (by omega), if_neg (by omega)]
    have hwr : wrG g wy x = x.2.2.2.2.2 ++ [oneG g wy x] := by unfold wrG; rw [ha, if_pos e]
    have hlen : x.2.2.2.2.2.length + 1 = (x.2.2.2.2.2 ++ [oneG g wy x]).length := by rw [List.length_append]; rfl
    unfold wl_X1_write
    rw [nI_leI (by omega) (by omega), nI_clamp (n := x.2.2.2.2.2.length) (by omega), nI_1, hlen]
    refine ⟨fun z => fin _ _ _ _ _ hnx hwr.symm (wo_ (by omega)) (ce_ (by omega) (by omega)) ?_, fun z _ => fin _ _ _ _ _ hnx hwr.symm (wo_ (by omega)) (ce_ (by omega) (by omega)) ?_⟩
    · rw [hwr]; exact hk.full z
    · rw [hwr]; exact hk.push
  · refine sq1_lineOf hp h16 (fin _ _ _ _ _ ?_ (wr_ (by omega)).symm (wo_ (by omega)) (ce_ (by omega) (by omega)) (ke_ (by omega)))
    unfold nxG; rw [ha, if_pos (Or.inl e)]
  · refine ⟨fun z => fin _ _ _ _ _ ?_ (wr_ (by omega)).symm (wo_ (by omega)) (ce_ (by omega) (by omega)) (ke_ (by omega)), fun z => sq1_lineOf hp h16 (fin _ _ _ _ _ ?_ (wr_ (by omega)).symm (wo_ (by omega)) (ce_ (by omega) (by omega)) (ke_ (by omega)))⟩
    · unfold nxG; rw [ha, if_neg (by omega), if_neg (fun q => q.2 z), if_neg (by omega)]
    · unfold nxG; rw [ha, if_neg (by omega), if_pos ⟨e, z⟩]
  · have tt : tg x.2.1 = nI (lnG g x.2.1).2.2.1 := a3 (Or.inr e)
    have t6 : (lnG g x.2.1).2.2.1 < nC g := ok.2.2.1 (Or.inr (ha.trans e))
    rw [tt, nI_clamp (n := (lnG g x.2.1).2.2.1) (by omega)]
    refine fun _ _ => sq1_lineOf hp h16 (fin _ _ _ _ _ ?_ (wr_ (by omega)).symm (wo_ (by omega)) ?_ (ke_ (by omega)))
    · unfold nxG; rw [ha, if_pos (Or.inr e)]
    · unfold ceG; rw [ha, if_neg (by omega), if_pos e]; exact hC.updZ
  · have hnx : x.2.1 + 1 = nxG g wy x := by unfold nxG; rw [ha, if_neg (by omega), if_neg (by omega), if_neg (by omega)]
    have hlt := lnOf_lt (oneG g wy x) hp
    refine sq1_lineOf hp h16 ?_
    unfold wl_X1_mend
    rw [nI_clamp (n := lnOf (oneG g wy x) (nL g)) (by omega)]
    refine ⟨fun z => fin _ _ _ _ _ hnx (wr_ (by omega)).symm ?_ (ce_ (by omega) (by omega)) (ke_ (by omega)), fun z _ _ => fin _ _ _ _ _ hnx (wr_ (by omega)).symm ?_ (ce_ (by omega) (by omega)) (ke_ (by omega))⟩
    · unfold woG; rw [ha, if_neg (fun q => q.2.1 z)]; exact hO
    · have em : (if (0 : Int32) < wo (lnOf (oneG g wy x) (nL g)) - twoG g wy x then wo (lnOf (oneG g wy x) (nL g)) - twoG g wy x else (0 : Int32)) = mx0 (w1 wy x (lnOf (oneG g wy x) (nL g)) - twoG g wy x) := by
        rw [hO _ (by omega)]; rfl
      rw [em]
      unfold woG
      rw [ha]
      by_cases ew : wy = 2
      · rw [if_neg (fun q => q.2.2 ew)]
        intro i hi
        by_cases ei : i = lnOf (oneG g wy x) (nL g)
        · rw [ei, pk_us, hz ew _ (by omega), mx0_neg z]
        · rw [pk_un ei]; exact hO i hi
      · rw [if_pos ⟨e, z, ew⟩]
        exact hO.updZ
  · have e6 : a = 6 := by have := ok.1; omega
    refine fin _ _ _ _ _ ?_ (wr_ (by omega)).symm (wo_ (by omega)) (ce_ (by omega) (by omega)) (ke_ (by omega))
    unfold nxG; rw [ha, if_neg (by omega), if_neg (by omega), if_pos e6]
end CM
end
section
def wid (y : Nat × Nat × Nat) : Nat := y.2.2 - y.2.1 + 1
def atG (g : PGr) (c : Nat) : Nat := (g.2.1.getD c ([], 0)).2
/-- what a cell is as an input begins -/
def inpL (a0 c i : Nat) : List (Nat × Nat × Nat) → Nat
  | [] => a0
  | [a] => if a.1 = c then a.2.1 + i % wid a else a0
  | a :: b :: _ => if a.1 = c then a.2.1 + i / wid b else if b.1 = c then b.2.1 + i % wid b else a0
def inpG (g : PGr) (i c : Nat) : Nat := inpL (atG g c) c i g.2.2.1
/-- begun with an input -/
def bgG (g : PGr) (i : Nat) (wo : Nat → Int32) : PM := (1, 0, 0, wo, fun c => nI (inpG g i c), [])
def inN (g : PGr) : Nat := many g.2.2.1
/-- asked about: 1,000 steps from the input's begin, nothing worn -/
def rnG (g : PGr) (be : Nat → Int32) (wy : Nat) (x : PM) : PM := pfl be wy (itG g be wy 1000 x)
theorem PMo.bg {g : PGr} {wy i : Nat} {wo : Nat → Int32} (h : 0 < nL g) (hz : wy = 2 → ∀ j, j < 16 → wo j = 0) : PMo g wy (bgG g i wo) := ⟨(by decide : 1 ≤ 4), Nat.zero_le _, fun _ => h, Nat.zero_le _, hz⟩
theorem many_1 (a : Nat × Nat × Nat) : many [a] = wid a := Nat.one_mul _
theorem many_2 (a b : Nat × Nat × Nat) : many [a, b] = wid a * wid b := by
  show 1 * (a.2.2 - a.2.1 + 1) * (b.2.2 - b.2.1 + 1) = _
  rw [Nat.one_mul]
  rfl
theorem wid_pos (a : Nat × Nat × Nat) : 0 < wid a := Nat.succ_pos _
theorem pfl_2 {be : Nat → Int32} {wy : Nat} (y : PM) : (pfl be wy y).2 = y.2 := by
  unfold pfl
  split <;> rfl
theorem rnG_2 {g : PGr} {be : Nat → Int32} {wy : Nat} (x : PM) : (rnG g be wy x).2 = (itG g be wy 1000 x).2 := pfl_2 _
section CS
variable {g : PGr} {x : PM} {wy kn cl : Nat} {pst pce pgi pln : Int32} {be co to gc le gr ac sq tg fr mi en cd : Nat → Int32} {sf tf : Nat → Nat} {st tw : Nat → Int32}
theorem sq2_icount {l : List (Nat × Nat × Nat)} {le gr : Nat → Int32} {Φ : Int32 → Prop} (hI : IA l le gr) (h : Φ (nI (many l))) : wl_X2_inputCount (nI l.length) le gr Φ := by
  have hl := hI.1
  have key : ∀ (n i a : Nat), i ≤ l.length → many l = (l.drop i).foldl (fun a x => a * (x.2.2 - x.2.1 + 1)) a → ll_X2_inputCount_4 (nI l.length) le gr Φ n (nI a) (nI i) := by
    intro n
    induction n with
    | zero => intro i a _ _; trivial
    | succ n ih =>
      intro i a hi he
      refine ⟨fun z => ?_, fun z _ _ => ?_⟩
      · rw [nI_leI (by omega) (by omega)] at z
        rw [List.drop_eq_nil_of_le z] at he
        rw [he] at h
        exact h
      · have hlt : i < l.length := by
          rw [nI_leI (by omega) (by omega)] at z
          omega
        obtain ⟨e1, e2⟩ := hI.2.2 i _ (List.getElem?_eq_getElem hlt)
        obtain ⟨b1, b2⟩ := hI.2.1 _ (List.getElem_mem hlt)
        rw [List.drop_eq_getElem_cons hlt, List.foldl_cons] at he
        have h9 := ih (i + 1) _ (by omega) he
        rw [nI_clamp (n := i) (by omega), e1, e2, nI_1, pk_sub b1, nI_1]
        have ew : (if (1 : Int32) < nI (l[i].2.2 - l[i].2.1 + 1) then nI (l[i].2.2 - l[i].2.1 + 1) else (1 : Int32)) = nI (l[i].2.2 - l[i].2.1 + 1) := by
          by_cases e : 1 < l[i].2.2 - l[i].2.1 + 1
          · exact if_pos ((nI_ltI (a := 1) (by decide) (by omega)).mpr e)
          · show (if nI 1 < nI (l[i].2.2 - l[i].2.1 + 1) then nI (l[i].2.2 - l[i].2.1 + 1) else nI 1) = _
            rw [if_neg (fun y => e ((nI_ltI (a := 1) (by decide) (by omega)).mp y))]
            have : l[i].2.2 - l[i].2.1 + 1 = 1 := by omega
            rw [this]
        rw [ew]
        show ll_X2_inputCount_4 (nI l.length) le gr Φ n (nI a * nI (l[i].2.2 - l[i].2.1 + 1)) (nI (i + 1))
        rw [pk_mul]
        exact h9
  exact fun n => key n 0 1 (Nat.zero_le _) rfl
theorem at_end {n : Nat} {gi v w : Int32} {xi xc : Int32} {Φ : Int32 → Prop} (h : Φ v) : ll_X2_atFirst_18 gi to gc le gr xi xc Φ n v w (nI 0 + (-1)) := by
  cases n with
  | zero => trivial
  | succ n => exact ⟨fun _ => h, fun z => absurd (by decide) z⟩
theorem at_step {l : List (Nat × Nat × Nat)} {j c v w : Nat} {y : Nat × Nat × Nat} {gi xi : Int32} {Φ : Int32 → Prop} (hI : IA l le gr) (hg : ∀ (i : Nat) (y : Nat × Nat × Nat), l[i]? = some y → gc i = nI y.1) (hj : l[j]? = some y) (hc : c < 1000) (hy : y.1 < 1000) (hw : w < 2 ^ 31) (hb : ∀ n, ll_X2_atFirst_18 gi to gc le gr xi (nI c) Φ n (nI (if y.1 = c then y.2.1 + w % wid y else v)) (nI (w / wid y)) (nI j + (-1))) : ∀ n, ll_X2_atFirst_18 gi to gc le gr xi (nI c) Φ n (nI v) (nI w) (nI j) := by
  intro n
  cases n with
  | zero => trivial
  | succ n =>
    have hl := get_lt hj
    have hl2 := hI.1
    obtain ⟨e1, e2⟩ := hI.2.2 j y hj
    obtain ⟨b1, b2⟩ := hI.2.1 y (List.mem_of_getElem? hj)
    have hw9 : wid y ≤ 10000 := by unfold wid; omega
    have hp := wid_pos y
    have hb := hb n
    have eq9 : nI y.1 = nI c ↔ y.1 = c := nI_eq (by omega) (by omega)
    refine ⟨fun z => absurd z (nI_pos (by omega)), fun _ => ?_⟩
    unfold wl_X2_width
    rw [nI_clamp (n := j) (by omega), e1, e2, pk_sub b1, nI_1, hg j y hj, eq9]
    have ew : (if (1 : Int32) < nI (y.2.2 - y.2.1 + 1) then nI (y.2.2 - y.2.1 + 1) else (1 : Int32)) = nI (wid y) := by
      by_cases e : 1 < wid y
      · exact if_pos ((nI_ltI (a := 1) (by decide) (by omega)).mpr e)
      · show (if nI 1 < nI (wid y) then nI (wid y) else nI 1) = _
        rw [if_neg (fun y => e ((nI_ltI (a := 1) (by decide) (by omega)).mp y))]
        have : wid y = 1 := by omega
        rw [this]
    rw [ew]
    refine fun _ _ _ => ⟨fun z _ => ?_, fun z _ _ _ => ?_⟩
    · rw [if_neg z, ← pk_div hw hp (by omega)] at hb; exact hb
    · rw [if_pos z, ← nI_add, ← pk_rem hw hp (by omega), ← pk_div hw hp (by omega)] at hb; exact hb
theorem atG_to (hT : CA9 g.2.1 to) {c : Nat} (hc : c < nC g) : to c = nI (atG g c) := by
  have hc : c < g.2.1.length := hc
  have := hT c _ (List.getElem?_eq_getElem hc)
  unfold atG
  rw [List.getD_eq_getElem?_getD, List.getElem?_eq_getElem hc]
  exact this
theorem sq2_atFirst {i c : Nat} {Φ : Int32 → Prop} (hQ : PQ9 g pst pce pgi pln be co to gc le gr ac sq tg fr mi en cl cd) (hG : GK9 g) (hi : i < inN g) (hc : c < nC g) (h : Φ (nI (inpG g i c))) : wl_X2_atFirst pgi to gc le gr (nI i) (nI c) Φ := by
  obtain ⟨q1, q2, q3, q4, q5, q6, q7, q8, q9, ⟨i1, i2, i3, i4⟩, q11, q12, q13, q14⟩ := hQ
  have h6 : nC g ≤ 6 := q2
  have h64 : inN g ≤ 64 := i2
  unfold wl_X2_atFirst
  rw [q6, nI_clamp (n := c) (by omega), atG_to q9 hc]
  intro _
  unfold inpG at h
  unfold inN at hi
  have hl2 := i1.1
  have h5 := hG.2.2.2.2.2.1
  match hl : g.2.2.1, h, hi, i1, i4, hl2, h5 with
  | [], h, _, _, _, _, _ =>
    intro n
    exact at_end (n := n) (w := nI i) h
  | [a], h, hi, i1, i4, _, h5 =>
    rw [many_1] at hi
    have h1 := (h5 a List.mem_cons_self).1
    have := at_step (to := to) (gi := nI [a].length) (xi := nI i) (Φ := Φ) (c := c) (v := atG g c) (w := i) i1 i4 (j := 0) (y := a) rfl (by omega) (by unfold nC at h6; omega) (by omega) (fun n => at_end (show Φ (nI (if a.1 = c then a.2.1 + i % wid a else atG g c)) from h))
    rw [show nI [a].length - 1 = nI 0 from nI_pred 0]
    exact this
  | [a, b], h, hi, i1, i4, _, h5 =>
    rw [many_2] at hi
    have h1 := (h5 a List.mem_cons_self).1
    have h2 := (h5 b (List.mem_cons_of_mem _ List.mem_cons_self)).1
    have hd : i / wid b < wid a := Nat.div_lt_of_lt_mul (by rw [Nat.mul_comm]; exact hi)
    have ed : i / wid b % wid a = i / wid b := Nat.mod_eq_of_lt hd
    have hdi : i / wid b ≤ i := Nat.div_le_self _ _
    have h : Φ (nI (if a.1 = c then a.2.1 + i / wid b else if b.1 = c then b.2.1 + i % wid b else atG g c)) := h
    rw [← ed] at h
    have s0 := at_step (to := to) (gi := nI [a, b].length) (xi := nI i) (Φ := Φ) (c := c) (v := if b.1 = c then b.2.1 + i % wid b else atG g c) (w := i / wid b) i1 i4 (j := 0) (y := a) rfl (by omega) (by unfold nC at h6; omega) (by omega) (fun n => at_end h)
    have s1 := at_step (to := to) (gi := nI [a, b].length) (xi := nI i) (Φ := Φ) (c := c) (v := atG g c) (w := i) i1 i4 (j := 1) (y := b) rfl (by omega) (by unfold nC at h6; omega) (by omega) (fun n => by rw [pk_m1]; exact s0 n)
    rw [show nI [a, b].length - 1 = nI 1 from nI_pred 1]
    exact s1
  | a :: b :: c' :: r, _, _, _, _, hl2, _ => exact absurd hl2 (by show ¬ (r.length + 3 ≤ 2); omega)
theorem sq1_start {i : Nat} {s0 n0 a0 b0 : Int32} {ce : Nat → Int32} {Φ : Int32 → Int32 → Int32 → Int32 → (Nat → Int32) → Prop} (hQ : PQ9 g pst pce pgi pln be co to gc le gr ac sq tg fr mi en cl cd) (hG : GK9 g) (hi : i < inN g) (h : ∀ ce', AGn (nC g) (fun c => nI (inpG g i c)) ce' → Φ 1 0 0 0 ce') : wl_X1_start pce pgi to gc le gr (nI i) s0 n0 a0 b0 ce Φ := by
  have q5 : pce = nI (nC g) := hQ.2.2.2.2.1
  have h6 : nC g ≤ 6 := hQ.2.1
  have key : ∀ (m c : Nat) (s0 n0 a0 b0 : Int32) (ce : Nat → Int32), c ≤ nC g → AGn c (fun c => nI (inpG g i c)) ce → ll_X1_start_2 pce pgi to gc le gr (nI i) Φ m s0 n0 a0 b0 ce (nI c) := by
    intro m
    induction m with
    | zero => intros; trivial
    | succ m ih =>
      intro c s0 n0 a0 b0 ce hc ha
      show bl_X1_start_2 _ _ _ _ _ _ _ _ _ _ _ _ _ _ _
      unfold bl_X1_start_2
      rw [q5, nI_leI (by omega) (by omega), ← q5]
      refine ⟨fun z => h ce (by rw [show nC g = c by omega]; exact ha), fun z => sq2_atFirst hQ hG hi (by omega) (fun _ => ?_)⟩
      rw [nI_clamp (n := c) (by omega), nI_1]
      refine ih (c + 1) _ _ _ _ _ (by omega) (fun j hj => ?_)
      by_cases e : j = c
      · rw [e, pk_us]
      · rw [pk_un e]; exact ha j (by omega)
  exact fun m => key m 0 _ _ _ _ ce (Nat.zero_le _) (fun j hj => absurd hj (Nat.not_lt_zero _))
theorem sq7_in {i n : Nat} {Φ : Int32 → Prop} (hi : i < n) (hn : n < 2 ^ 31) (h : Φ 1) : wl_X7_within (nI i) (nI n) Φ := ⟨fun z => absurd z (nI_pos (by omega)), fun _ => ⟨fun z => absurd ((nI_leI (by omega) (by omega)).mp z) (by omega), fun _ => h⟩⟩
/-- the class's machine as the pure one -/
def CM9 (g : PGr) (kn : Nat) (x : PM) (s n k u : Int32) (wo ce ke : Nat → Int32) : Prop := s = nI x.1 ∧ n = nI x.2.1 ∧ k = nI x.2.2.1 ∧ u = nI x.2.2.2.2.2.length ∧ AGn 16 x.2.2.2.1 wo ∧ AGn (nC g) x.2.2.2.2.1 ce ∧ KE9 kn x.2.2.2.2.2 ke
theorem sq1_fall {s n k u : Int32} {wo ce ke : Nat → Int32} {Φ : Int32 → Prop} (hQ : PQ9 g pst pce pgi pln be co to gc le gr ac sq tg fr mi en cl cd) (hG : GK9 g) (hL : LYo g sf tf) (hc : CLs g sf tf st tw) (hP : PMo g wy x) (hw : wy ≤ 2) (hM : CM9 g kn x s n k u wo ce ke) (h : Φ (nI (pfl (brG g sf tf) wy x).1)) : wl_X1_fallIfHole (nI wy) n st tw wo pln be s Φ := by
  obtain ⟨m1, m2, m3, m4, m5, m6, m7⟩ := hM
  have h16 : nL g ≤ 16 := hG.2.2.2.2.2.2.2.2.1
  have eln : pln = nI (nL g) := hQ.2.2.2.2.2.2.1
  have hS : SA9 g.1 be co := hQ.2.2.2.2.2.2.2.1
  have hx4 := hP.1
  have q1 : nI x.1 = 1 ↔ x.1 = 1 := nI_eq (b := 1) (by omega) (by decide)
  have q0 : nI wy = 0 ↔ wy = 0 := nI_eq (b := 0) (by omega) (by decide)
  unfold wl_X1_fallIfHole
  rw [m1, m2, eln, q1, q0]
  unfold pfl at h
  refine ⟨fun z => ?_, fun z => ⟨fun y => ?_, fun y => ?_⟩⟩
  · rw [if_neg (fun q => z q.1)] at h; exact h
  · rw [if_neg (fun q => y q.2.1)] at h; exact h
  · have hN := hP.2.2.1 (Or.inl z)
    refine sq7_in hN (by omega) ⟨fun q => absurd q (by decide), fun _ _ => sq1_bearing hS hG hL hc hN ?_⟩
    rw [nI_clamp (n := x.2.1) (by omega), m5 _ (by omega)]
    refine ⟨fun q => ?_, fun q => ?_⟩
    · rw [if_neg (fun p => p.2.2 q)] at h; exact h
    · rw [if_pos ⟨z, y, q⟩] at h; exact h
theorem sq1_step {s n k u : Int32} {wo ce ke sk : Nat → Int32} {Φ : PSq} (hQ : PQ9 g pst pce pgi pln be co to gc le gr ac sq tg fr mi en cl cd) (hG : GK9 g) (hL : LYo g sf tf) (hc : CLs g sf tf st tw) (hP : PMo g wy x) (hw : wy ≤ 2) (hM : CM9 g kn x s n k u wo ce ke) (hK : x.2.2.1 + 1 < 2 ^ 30) (hkn : kn < 2 ^ 30)
    (h : ∀ r s' n' k' u' wo' ce' ke' sk', CM9 g kn (stp g (brG g sf tf) wy x) s' n' k' u' wo' ce' ke' → ((r = 1 ∧ (stp g (brG g sf tf) wy x).2.2.1 = x.2.2.1 + 1) ∨ (r = 0 ∧ ¬ (stp g (brG g sf tf) wy x).1 = 1 ∧ (stp g (brG g sf tf) wy x).2.2.1 = x.2.2.1)) → Φ r s' n' k' u' wo' ce' ke' sk') : wl_X1_step (nI wy) st tw pln be ac tg fr mi en cd kn cl s n k u wo ce ke sk Φ := by
  have h16 : nL g ≤ 16 := hG.2.2.2.2.2.2.2.2.1
  have eln : pln = nI (nL g) := hQ.2.2.2.2.2.2.1
  unfold wl_X1_step
  refine sq1_fall hQ hG hL hc hP hw hM ?_
  obtain ⟨m1, m2, m3, m4, m5, m6, m7⟩ := hM
  have hx4 := hP.1
  by_cases z : x.1 = 1
  · by_cases y : hol (brG g sf tf) wy x
    · have es := stp_hol (g := g) z y
      have ep : pfl (brG g sf tf) wy x = (3, x.2) := if_pos ⟨z, y⟩
      rw [ep]
      rw [es] at h
      refine ⟨fun _ => h _ _ _ _ _ _ _ _ _ ⟨rfl, m2, m3, m4, m5, m6, m7⟩ (Or.inr ⟨rfl, by (try dsimp only); decide, rfl⟩), fun q => absurd q (by (try dsimp only); decide)⟩
    · have es := stp_wrk (g := g) z y
      have ep : pfl (brG g sf tf) wy x = x := if_neg (fun q => y q.2)
      rw [ep]
      rw [es] at h
      have hN := hP.2.2.1 (Or.inl z)
      have e1 : nI x.1 = 1 := by rw [z]; rfl
      refine ⟨fun q => absurd e1 q, fun _ => ?_⟩
      have k52 : ∀ wo' : Nat → Int32, AGn 16 (w1 wy x) wo' → kl_X1_step_52 (nI wy) st tw pln be ac tg fr mi en cd kn cl Φ (nI x.1) n k u wo' ce ke sk := by
        intro wo' ho
        unfold kl_X1_step_52
        rw [m2, m4]
        refine sq1_work hQ hG hN ho (fun e => ?_) m6 m7 (by have := hP.2.2.2.1; omega) hkn (fun wo2 ce2 ke2 sk2 h1 h2 h3 => ?_)
        · rw [w1_plain e]; exact hP.2.2.2.2 e
        · rw [eln, nI_ltI (by have := nxG_le (wy := wy) hN; omega) (by omega), m3, nI_1]
          refine ⟨fun q => h _ _ _ _ _ _ _ _ _ ⟨?_, rfl, rfl, rfl, h1, h2, h3⟩ (Or.inl ⟨rfl, rfl⟩), fun q => h _ _ _ _ _ _ _ _ _ ⟨?_, rfl, rfl, rfl, h1, h2, h3⟩ (Or.inl ⟨rfl, rfl⟩)⟩
          · show nI x.1 = nI (if nL g ≤ nxG g wy x then 2 else 1)
            rw [if_neg (by omega), z]
          · show 2 = nI (if nL g ≤ nxG g wy x then 2 else 1)
            rw [if_pos (by omega)]
            rfl
      rw [m2, eln]
      refine sq7_in hN (by omega) ⟨fun _ => ?_, fun q => absurd q (by decide)⟩
      rw [← m2, ← eln]
      have q2 : nI wy = 2 ↔ wy = 2 := nI_eq (b := 2) (by omega) (by decide)
      rw [q2]
      refine ⟨fun e => k52 _ ?_, fun e _ _ => k52 _ ?_⟩
      · rw [w1_plain e]; exact m5
      · rw [m2, nI_clamp (n := x.2.1) (by omega), m5 _ (by omega), w1_else e]
        exact m5.updZ
  · have es := stp_off (g := g) (be := brG g sf tf) (wy := wy) z
    have ep : pfl (brG g sf tf) wy x = x := if_neg (fun q => z q.1)
    rw [ep]
    rw [es] at h
    refine ⟨fun _ => h _ _ _ _ _ _ _ _ _ ⟨rfl, m2, m3, m4, m5, m6, m7⟩ (Or.inr ⟨rfl, z, rfl⟩), fun q => absurd ((nI_eq (b := 1) (by omega) (by decide)).mp q) z⟩
theorem sq1_go {M : Nat} {s n k u : Int32} {wo ce ke sk : Nat → Int32} {Φ : PSq} (hQ : PQ9 g pst pce pgi pln be co to gc le gr ac sq tg fr mi en cl cd) (hG : GK9 g) (hL : LYo g sf tf) (hc : CLs g sf tf st tw) (hP : PMo g wy x) (hw : wy ≤ 2) (hM : CM9 g kn x s n k u wo ce ke) (hK : x.2.2.1 + M < 2 ^ 30) (hkn : kn < 2 ^ 30)
    (h : ∀ s' n' k' u' wo' ce' ke' sk', CM9 g kn (itG g (brG g sf tf) wy M x) s' n' k' u' wo' ce' ke' → Φ (nI ((itG g (brG g sf tf) wy M x).2.2.1 - x.2.2.1)) s' n' k' u' wo' ce' ke' sk') : wl_X1_go (nI wy) st tw pln be ac tg fr mi en cd kn cl (nI M) s n k u wo ce ke sk Φ := by
  have key : ∀ (m i : Nat) (s n k u : Int32) (wo ce ke sk : Nat → Int32), i ≤ M → CM9 g kn (itG g (brG g sf tf) wy i x) s n k u wo ce ke → (itG g (brG g sf tf) wy i x).2.2.1 = x.2.2.1 + i → ll_X1_go_4 (nI wy) st tw pln be ac tg fr mi en cd kn cl (nI M) Φ m s n k u wo ce ke sk (nI i) (nI i) := by
    intro m
    induction m with
    | zero => intros; trivial
    | succ m ih =>
      intro i s n k u wo ce ke sk hi hm hk
      show bl_X1_go_4 _ _ _ _ _ _ _ _ _ _ _ _ _ _ _ _ _ _ _ _ _ _ _ _ _ _
      unfold bl_X1_go_4
      rw [nI_leI (by omega) (by omega), nI_1]
      refine ⟨fun z => ?_, fun z => ?_⟩
      · have e : i = M := by omega
        subst e
        have := h s n k u wo ce ke sk hm
        rw [hk, Nat.add_sub_cancel_left] at this
        exact this
      · refine sq1_step hQ hG hL hc (PMo.itZ i x hP) hw hm (by omega) hkn (fun r s' n' k' u' wo' ce' ke' sk' hm' hr => ?_)
        rw [← it_one] at hm' hr
        rcases hr with ⟨hr, hk'⟩ | ⟨hr, hs, hk'⟩
        · refine ⟨fun q => absurd (hr.symm.trans q) (by decide), fun _ => ih (i + 1) _ _ _ _ _ _ _ _ (by omega) hm' (by omega)⟩
        · refine ⟨fun _ => ?_, fun q => absurd hr q⟩
          have e : itG g (brG g sf tf) wy M x = itG g (brG g sf tf) wy (i + 1) x := by
            have := it_add (g := g) (be := brG g sf tf) (wy := wy) (i + 1) (M - (i + 1)) x
            rw [show i + 1 + (M - (i + 1)) = M by omega, it_off _ hs] at this
            exact this
          have := h s' n' k' u' wo' ce' ke' sk' (by rw [e]; exact hm')
          rw [e, hk', hk, Nat.add_sub_cancel_left] at this
          exact this
  exact fun m => key m 0 s n k u wo ce ke sk (Nat.zero_le _) hM rfl
theorem CLs.cpy {os ot : Nat → Int32} (hc : CLs g sf tf st tw) (h16 : nL g ≤ 16) : CLs g sf tf (va_cpy st os 0 0 16) (va_cpy tw ot 0 0 16) := by
  intro l hl
  rw [pk_cpy_in (Nat.zero_le _) (by omega), pk_cpy_in (Nat.zero_le _) (by omega), show 0 + (l - 0) = l by omega]
  exact hc l hl
theorem sq7_walk {i pg mp : Nat} {w s n a b : Int32} {os ot wo ce ke sk : Nat → Int32} {Φ : PWq} (hQ : PQ9 g pst pce pgi pln be co to gc le gr ac sq tg fr mi en cl cd) (hG : GK9 g) (hL : LYo g sf tf) (hc : CLs g sf tf st tw) (hw : wy ≤ 2) (hn : 0 < nL g) (hi : i < inN g) (hkn : kn < 2 ^ 30)
    (h : ∀ s' n' k' u' st' tw' wo' ce' ke' sk', CM9 g kn (rnG g (brG g sf tf) wy (bgG g i (fun _ => 0))) s' n' k' u' wo' ce' ke' → Φ pg (nI wy) s' n' k' u' st' tw' wo' ce' ke' sk') : wl_X7_walk st tw pce pgi pln be to gc le gr ac tg fr mi en cd kn cl pg (nI wy) (nI i) mp w s n a b os ot wo ce ke sk Φ := by
  have h16 : nL g ≤ 16 := hG.2.2.2.2.2.2.2.2.1
  unfold wl_X7_walk wl_X1_layLike
  refine sq_fill (rl := 16) (by decide) (fun wo' h0 _ _ => sq1_start hQ hG hi (fun ce' hce => ?_))
  have hP : PMo g wy (bgG g i (fun _ => 0)) := PMo.bg hn (fun _ _ _ => rfl)
  refine sq1_go (M := 1000) (x := bgG g i (fun _ => 0)) hQ hG hL (hc.cpy h16) hP hw ⟨rfl, rfl, rfl, rfl, fun j hj => h0 j hj, hce, KE9.nil⟩ (show 0 + 1000 < 2 ^ 30 by decide) hkn (fun s' n' k' u' wo2 ce2 ke2 sk2 hM => ?_)
  refine sq1_fall hQ hG hL (hc.cpy h16) (PMo.itZ 1000 _ hP) hw hM ?_
  obtain ⟨m1, m2, m3, m4, m5, m6, m7⟩ := hM
  refine h _ _ _ _ _ _ _ _ _ _ ?_
  have hx : (rnG g (brG g sf tf) wy (bgG g i (fun _ => 0))).2 = (itG g (brG g sf tf) wy 1000 (bgG g i (fun _ => 0))).2 := rnG_2 _
  refine ⟨rfl, ?_, ?_, ?_, ?_, ?_, ?_⟩
  · rw [hx]; exact m2
  · rw [hx]; exact m3
  · rw [hx]; exact m4
  · rw [hx]; exact m5
  · rw [hx]; exact m6
  · rw [hx]; exact m7
theorem sq7_canWalk {xi : Int32} {Φ : Int32 → Prop} (hQ : PQ9 g pst pce pgi pln be co to gc le gr ac sq tg fr mi en cl cd) (h0 : ¬ (0 < nL g ∧ ∃ i, i < inN g ∧ xi = nI i) → Φ 0) (h1 : ∀ i, 0 < nL g → i < inN g → xi = nI i → Φ 1) : wl_X7_canWalk pgi pln le gr xi Φ := by
  obtain ⟨q1, q2, q3, q4, q5, q6, q7, q8, q9, ⟨i1, i2, i3, i4⟩, q11, q12, q13, q14⟩ := hQ
  have h16 : nL g ≤ 16 := q3
  have eln : pln = nI (nL g) := q7
  have h64 : many g.2.2.1 ≤ 64 := i2
  unfold wl_X7_canWalk
  rw [eln, q6]
  have z0 : nI (nL g) ≤ 0 ↔ nL g ≤ 0 := nI_leI (b := 0) (by omega) (by decide)
  rw [z0]
  refine ⟨fun z => h0 (fun q => by omega), fun z => sq2_icount i1 ⟨fun y => ⟨fun _ => h0 (fun q => ?_), fun y => absurd rfl y⟩, fun y => ⟨fun y2 => ⟨fun _ => h0 (fun q => ?_), fun y => absurd rfl y⟩, fun y2 => ⟨fun y => absurd y (by decide), fun _ => ?_⟩⟩⟩⟩
  · obtain ⟨_, i, hi, e⟩ := q
    have hi : i < many g.2.2.1 := hi
    rw [e] at y
    exact nI_pos (by omega) y
  · obtain ⟨_, i, hi, e⟩ := q
    have hi : i < many g.2.2.1 := hi
    rw [e, nI_leI (by omega) (by omega)] at y2
    omega
  · obtain ⟨j, hj, e, _⟩ := pk_mu y y2 (by omega)
    exact h1 j (by omega) hj e
end CS
end
section
section RW9
variable {g : PGr} {p wy : Nat} {x : PM} {st ce ip ln be co ca ic il im ac aC ls tw lf lt cd : Nat → Int32} {sf tf : Nat → Nat}
theorem sq8_lineOf {n : Nat} {v : Int32} {Φ : Int32 → Prop} (hp : p < 6) (hl : ln p = nI n) (h0 : 0 < n) (h16 : n ≤ 16) (h : Φ (nI (lnOf v n))) : wl_X8_lineOf (nI p) ln v Φ := by
  unfold wl_X8_lineOf
  rw [nI_clamp (n := p) (by omega), hl]
  have e := lnOf_eq v (v - v / nI n * nI n) h0 h16 rfl
  refine fun _ _ => ⟨fun z => ?_, fun z => ?_⟩
  · rw [e.2 (Int32.not_lt.mpr z)]; exact h
  · rw [e.1 (Int32.not_le.mp z)]; exact h
theorem sq8_wornness {n : Nat} {wo we : Nat → Int32} {v : Int32} {Φ : Int32 → Prop} (hp : p < 6) (hl : ln p = nI n) (h0 : 0 < n) (h16 : n ≤ 16) (hw : wy ≤ 2) (ho : AGn 16 wo we) (h : Φ (wvG n wy wo v)) : wl_X8_wornness (nI p) (nI wy) ln we v Φ := by
  have q2 : nI wy = 2 ↔ wy = 2 := nI_eq (b := 2) (by omega) (by decide)
  have hlt := lnOf_lt v h0
  unfold wl_X8_wornness
  rw [q2]
  unfold wvG at h
  refine ⟨fun z => sq8_lineOf hp hl h0 h16 (fun _ => ?_), fun z => ?_⟩
  · rw [if_neg z] at h
    rw [nI_clamp (n := lnOf v n) (by omega), ho _ (by omega)]
    exact h
  · rw [if_pos z] at h; exact h
theorem sq8_worked {k : Nat} {e : EC} {F : EF} {w : Int32} {vo we k1 k2 k3 k4 k5 k6 k7 k8 k9 c0 : Nat → Int32} {wv : Int32 → Int32} {Φ : PW9} (hp : p < 6) (hk : k < 32) (hR : ER9 p k e.1 lf lt cd) (hF : IX9 0 0 e.1 F) (hvo : ∀ c, c < 6 → vo (1 + c) = c0 c) (hwv : ∀ (x : Int32) (Ψ : Int32 → Prop), Ψ (wv x) → wl_X8_wornness (nI p) w ln we x Ψ) (h : ∀ b1 b2 b3 b4 b5 b6 b7 b8 b9, Φ (F c0 wv) b1 b2 b3 b4 b5 b6 b7 b8 b9) : wl_X8_worked (nI p) w ln lf lt cd vo we (nI (32 * p + k)) k1 k2 k3 k4 k5 k6 k7 k8 k9 Φ := by
  obtain ⟨o, h1, h2, h3, h4⟩ := hR
  unfold wl_X8_worked
  refine sq8_opens (d := 0) (R := rg9 k1 k2 k3 k4 k5 k6 k7 k8 k9) (by decide) ?_
  intro _ n
  rw [nI_clamp (n := 32 * p + k) (by omega), h1]
  have hci : CI9 lt cd (nI (32 * p + k)) (1000 * p + o) e.1 := ⟨⟨1000 * p + o + e.1.length, by rw [nI_clamp (n := 32 * p + k) (by omega)]; exact h2, Nat.le_refl _, by omega⟩, h4⟩
  refine hF (nI p) w ln lf lt cd vo we (nI (32 * p + k)) Φ c0 wv hvo hwv n (1000 * p + o) (rg9 k1 (upd k2 0 0) k3 (upd k4 0 0) (upd k5 0 0) (upd k6 0 20) k7 (upd k8 0 0) k9) hci ⟨fun _ => pk_us, fun _ => ⟨pk_us, pk_us⟩, fun _ => pk_us, fun _ => pk_us, Or.inr rfl⟩ (fun n' R' hpt => ?_)
  cases n' with
  | zero => trivial
  | succ n' =>
    obtain ⟨ha, hb⟩ := hpt
    have hb : XV9 R' 0 = F c0 wv ∧ SM9r [8] 0 _ R' := hb
    show bl_X8_worked_14 _ _ _ _ _ _ _ _ _ _ _ _ _ _ _ _ _ _ _ _ _ _
    unfold bl_X8_worked_14
    rw [nI_clamp (n := 32 * p + k) (by omega), h2]
    refine fun _ => ⟨fun _ => sq8_tests (d := 0) (R := R') (by decide) ?_, fun z => absurd (Int32.le_refl _) z⟩
    rw [pk_us, hb.1]
    exact h _ _ _ _ _ _ _ _ _
theorem sq8_works {l v : Nat} {e : EC} {w : Int32} {he we k1 k2 k3 k4 k5 k6 k7 k8 k9 vo C : Nat → Int32} {wv : Int32 → Int32} {Φ : PWk} (hG : GK9 g) (hp : p < 6) (hk : 2 * l + v < 32) (hR : ER9 p (2 * l + v) e.1 lf lt cd) (hE : OKE (nC g) e) (hC : AGn (nC g) C he) (hwv : ∀ (x : Int32) (Ψ : Int32 → Prop), Ψ (wv x) → wl_X8_wornness (nI p) w ln we x Ψ) (h : ∀ b1 b2 b3 b4 b5 b6 b7 b8 b9 vo', Φ (FE e C wv) b1 b2 b3 b4 b5 b6 b7 b8 b9 vo') : wl_X8_works (nI p) w ln lf lt cd he we (nI l) (nI v) k1 k2 k3 k4 k5 k6 k7 k8 k9 vo Φ := by
  have h6 : nC g ≤ 6 := hG.2.2.1
  obtain ⟨F, hev, hix⟩ := hE.me h6
  have eF : F he wv = FE e C wv := by rw [← FE_of hev]; exact (show OE9 (nC g) e from Or.inl hE).cong hC
  have key : ∀ (n k : Nat) (vo : Nat → Int32), k ≤ 6 → (∀ c, c < k → vo (1 + c) = he c) → ll_X8_works_2 (nI p) w ln lf lt cd he we (nI l) (nI v) Φ n k1 k2 k3 k4 k5 k6 k7 k8 k9 vo (nI k) := by
    intro n
    induction n with
    | zero => intros; trivial
    | succ n ih =>
      intro k vo hk' hvo
      show bl_X8_works_2 _ _ _ _ _ _ _ _ _ _ _ _ _ _ _ _ _ _ _ _ _ _ _
      unfold bl_X8_works_2
      have q6 : (6 : Int32) ≤ nI k ↔ 6 ≤ k := nI_leI (a := 6) (by decide) (by omega)
      rw [q6]
      refine ⟨fun z => ?_, fun z _ _ => ?_⟩
      · have ex : ((32 : Int32) * nI p) + (2 * nI l) + nI v = nI (32 * p + (2 * l + v)) := by
          rw [show (32 : Int32) = nI 32 from rfl, show (2 : Int32) = nI 2 from rfl, pk_mul, pk_mul, nI_add, nI_add]
          exact congrArg nI (by omega)
        rw [ex]
        refine sq8_worked hp hk hR hix (fun c hc => hvo c (by omega)) hwv (fun b1 b2 b3 b4 b5 b6 b7 b8 b9 => ?_)
        rw [eF]
        exact h _ _ _ _ _ _ _ _ _ _
      · have e1 : (1 : Int32) + nI k = nI (1 + k) := nI_add 1 k
        rw [e1, nI_1, nI_clamp (n := 1 + k) (by omega), nI_clamp (n := k) (by omega)]
        refine ih (k + 1) _ (by omega) (fun c hc => ?_)
        by_cases ec : c = k
        · rw [ec, pk_us]
        · rw [pk_un (by omega)]; exact hvo c (by omega)
  exact fun n => key n 0 vo (Nat.zero_le _) (fun c hc => absurd hc (Nat.not_lt_zero _))
/-- the reference's machine as the pure one -/
def RM9 (g : PGr) (x : PM) (n e f u : Int32) (he we sr : Nat → Int32) : Prop := (e = if x.1 = 2 then 1 else 0) ∧ (f = if x.1 = 3 then 1 else 0) ∧ (¬ x.1 = 2 → n = nI x.2.1) ∧ u = nI x.2.2.2.2.2.length ∧ AGn (nC g) x.2.2.2.2.1 he ∧ AGn 16 x.2.2.2.1 we ∧ KE9 1001 x.2.2.2.2.2 sr
theorem sq8_wrk {n e f u : Int32} {he we sr k1 k2 k3 k4 k5 k6 k7 k8 k9 vo : Nat → Int32} {Φ : PSt} (hG : GK9 g) (hp : p < 6) (hL : LBd p g.2.2.2 ln ac aC lf lt cd) (hw : wy ≤ 2) (hN : x.2.1 < nL g) (hx1 : x.1 = 1) (hM : RM9 g x n e f u he we sr) (hW : x.2.2.2.2.2.length < 2 ^ 30)
    (h : ∀ n' e' f' u' b1 b2 b3 b4 b5 b6 b7 b8 b9 vo' he' we' sr', RM9 g (wrk g wy x) n' e' f' u' he' we' sr' → Φ n' e' f' u' b1 b2 b3 b4 b5 b6 b7 b8 b9 vo' he' we' sr') : kl_X8_stepsOn_62 (nI p) (nI wy) ln be ac aC ls tw lf lt cd Φ n e f u k1 k2 k3 k4 k5 k6 k7 k8 k9 vo he we sr n ((16 * nI p) + n) := by
  obtain ⟨m1, m2, m3, m4, m5, m6, m7⟩ := hM
  have m3 := m3 (by rw [hx1]; decide)
  have m2 : f = 0 := m2.trans (if_neg (by rw [hx1]; decide))
  have h16 : nL g ≤ 16 := hG.2.2.2.2.2.2.2.2.1
  have h6 : nC g ≤ 6 := hG.2.2.1
  have hp0 : 0 < nL g := by omega
  have hln : ln p = nI (nL g) := hL.1
  have ok := lnG_ok hG hN
  obtain ⟨l1, l2, l3, l4⟩ := hL.2 _ _ (lnG_get hN)
  have e16 : ((16 : Int32) * nI p) + n = nI (16 * p + x.2.1) := by rw [m3, show (16 : Int32) = nI 16 from rfl, pk_mul, nI_add]
  have qq : ∀ j : Nat, j < 100 → (nI (lnG g x.2.1).1 = nI j ↔ (lnG g x.2.1).1 = j) := fun j hj => nI_eq (by have := ok.1; omega) (by omega)
  have q0 : nI (lnG g x.2.1).1 = 0 ↔ (lnG g x.2.1).1 = 0 := qq 0 (by decide)
  have q1 : nI (lnG g x.2.1).1 = 1 ↔ (lnG g x.2.1).1 = 1 := qq 1 (by decide)
  have q2 : nI (lnG g x.2.1).1 = 2 ↔ (lnG g x.2.1).1 = 2 := qq 2 (by decide)
  have q3 : nI (lnG g x.2.1).1 = 3 ↔ (lnG g x.2.1).1 = 3 := qq 3 (by decide)
  have q4 : nI (lnG g x.2.1).1 = 4 ↔ (lnG g x.2.1).1 = 4 := qq 4 (by decide)
  have q5 : nI (lnG g x.2.1).1 = 5 ↔ (lnG g x.2.1).1 = 5 := qq 5 (by decide)
  have q6 : nI (lnG g x.2.1).1 = 6 ↔ (lnG g x.2.1).1 = 6 := qq 6 (by decide)
  have qw : nI wy = 2 ↔ wy = 2 := nI_eq (b := 2) (by omega) (by decide)
  have oke1 := ok.2.2.2.1
  have oke2 := ok.2.2.2.2.1
  have okc := ok.2.2.1
  have ok6 := ok.1
  have hnx : nxG g wy x ≤ nL g := nxG_le hN
  have one : FE (lnG g x.2.1).2.2.2.1 x.2.2.2.2.1 (wvG (nL g) wy (w1 wy x)) = oneG g wy x := rfl
  have two : FE (lnG g x.2.1).2.2.2.2 x.2.2.2.2.1 (wvG (nL g) wy (w1 wy x)) = twoG g wy x := rfl
  have wv : ∀ {we' : Nat → Int32}, AGn 16 (w1 wy x) we' → ∀ (v : Int32) (Ψ : Int32 → Prop), Ψ (wvG (nL g) wy (w1 wy x) v) → wl_X8_wornness (nI p) (nI wy) ln we' v Ψ := fun ho v Ψ hΨ => sq8_wornness hp hln hp0 h16 hw ho hΨ
  have fin : ∀ n' e' f' u' b1 b2 b3 b4 b5 b6 b7 b8 b9 vo' he' we' sr', (e' = if nL g ≤ nxG g wy x then 1 else 0) → f' = 0 → (¬ nL g ≤ nxG g wy x → n' = nI (nxG g wy x)) → u' = nI (wrG g wy x).length → AGn (nC g) (ceG g wy x) he' → AGn 16 (woG g wy x) we' → KE9 1001 (wrG g wy x) sr' → Φ n' e' f' u' b1 b2 b3 b4 b5 b6 b7 b8 b9 vo' he' we' sr' := by
    intro n' e' f' u' b1 b2 b3 b4 b5 b6 b7 b8 b9 vo' he' we' sr' h1 h2 h3 h4 h5 h6 h7
    have w2 : nL g ≤ nxG g wy x → (wrk g wy x).1 = 2 := fun z => if_pos z
    have w0 : ¬ nL g ≤ nxG g wy x → (wrk g wy x).1 = 1 := fun z => if_neg z
    refine h _ _ _ _ _ _ _ _ _ _ _ _ _ _ _ _ _ ⟨?_, ?_, ?_, h4, h5, h6, h7⟩
    · rw [h1]
      by_cases z : nL g ≤ nxG g wy x
      · rw [if_pos z, w2 z]; rfl
      · rw [if_neg z, w0 z]; rfl
    · rw [h2]
      by_cases z : nL g ≤ nxG g wy x
      · rw [w2 z]; rfl
      · rw [w0 z]; rfl
    · intro y
      by_cases z : nL g ≤ nxG g wy x
      · exact absurd (w2 z) y
      · exact h3 z
  generalize ha : (lnG g x.2.1).1 = a at *
  have k298 : ∀ n' u' b1 b2 b3 b4 b5 b6 b7 b8 b9 vo' he' we' sr', (a = 6 ∨ n' = nI (nxG g wy x)) → u' = nI (wrG g wy x).length → AGn (nC g) (ceG g wy x) he' → AGn 16 (woG g wy x) we' → KE9 1001 (wrG g wy x) sr' → kl_X8_stepsOn_298 (nI p) (nI wy) ln be ac aC ls tw lf lt cd Φ n' e f u' b1 b2 b3 b4 b5 b6 b7 b8 b9 vo' he' we' sr' (nI a) := by
    intro n' u' b1 b2 b3 b4 b5 b6 b7 b8 b9 vo' he' we' sr' h1 h2 h3 h4 h5
    unfold kl_X8_stepsOn_298
    rw [q6, nI_clamp (n := p) (by omega), hln]
    refine ⟨fun z => fin _ _ _ _ _ _ _ _ _ _ _ _ _ _ _ _ _ ?_ m2 (fun y => ?_) h2 h3 h4 h5, fun z _ => ⟨fun y => fin _ _ _ _ _ _ _ _ _ _ _ _ _ _ _ _ _ ?_ m2 (fun _ => h1.resolve_left z) h2 h3 h4 h5, fun y => fin _ _ _ _ _ _ _ _ _ _ _ _ _ _ _ _ _ ?_ m2 (fun _ => h1.resolve_left z) h2 h3 h4 h5⟩⟩
    · have : nxG g wy x = nL g := by unfold nxG; rw [ha, if_neg (by omega), if_neg (by omega), if_pos z]
      rw [if_pos (by omega)]
    · have : nxG g wy x = nL g := by unfold nxG; rw [ha, if_neg (by omega), if_neg (by omega), if_pos z]
      omega
    · rw [h1.resolve_left z, nI_eq (by omega) (by omega)] at y
      rw [if_neg (by omega)]
    · rw [h1.resolve_left z, nI_eq (by omega) (by omega)] at y
      rw [if_pos (by omega)]
  have k251 : ∀ n' u' b1 b2 b3 b4 b5 b6 b7 b8 b9 vo' he' we' sr' v4 v5, (¬ a = 6 → v4 = oneG g wy x) → (a = 3 ∨ a = 5 → v5 = twoG g wy x) → (a = 6 ∨ n' = nI (nxG g wy x)) → u' = nI (wrG g wy x).length → AGn (nC g) (ceG g wy x) he' → AGn 16 (w1 wy x) we' → KE9 1001 (wrG g wy x) sr' → kl_X8_stepsOn_251 (nI p) (nI wy) ln be ac aC ls tw lf lt cd Φ n' e f u' b1 b2 b3 b4 b5 b6 b7 b8 b9 vo' he' we' sr' (nI a) v4 v5 := by
    intro n' u' b1 b2 b3 b4 b5 b6 b7 b8 b9 vo' he' we' sr' v4 v5 hv4 hv5 h1 h2 h3 h4 h5
    unfold kl_X8_stepsOn_251
    rw [q5, qw]
    have same : ¬ (a = 5 ∧ ¬ twoG g wy x ≤ 0 ∧ ¬ wy = 2) → AGn 16 (woG g wy x) we' := fun z => by unfold woG; rw [ha, if_neg z]; exact h4
    refine ⟨fun z => k298 _ _ _ _ _ _ _ _ _ _ _ _ _ _ _ h1 h2 h3 (same (fun q => z q.1)) h5, fun z => ⟨fun y => k298 _ _ _ _ _ _ _ _ _ _ _ _ _ _ _ h1 h2 h3 (same (fun q => ?_)) h5, fun y => ⟨fun w => k298 _ _ _ _ _ _ _ _ _ _ _ _ _ _ _ h1 h2 h3 (same (fun q => q.2.2 w)) h5, fun w => ?_⟩⟩⟩
    · rw [hv5 (Or.inr z)] at y; exact q.2.1 y
    · have hlt := lnOf_lt (oneG g wy x) hp0
      rw [hv5 (Or.inr z)] at y
      rw [hv4 (by omega), hv5 (Or.inr z)]
      refine sq8_lineOf hp hln hp0 h16 (sq8_lineOf hp hln hp0 h16 (fun _ _ => k298 _ _ _ _ _ _ _ _ _ _ _ _ _ _ _ h1 h2 h3 ?_ h5))
      rw [nI_clamp (n := lnOf (oneG g wy x) (nL g)) (by omega), h4 _ (by omega)]
      unfold woG
      rw [ha, if_pos ⟨z, y, w⟩]
      exact h4.updZ
  have k222 : ∀ n' u' b1 b2 b3 b4 b5 b6 b7 b8 b9 vo' he' we' sr' v4 v5, (¬ a = 6 → v4 = oneG g wy x) → (a = 3 ∨ a = 5 → v5 = twoG g wy x) → (a = 4 ∨ a = 6 ∨ n' = nI (nxG g wy x)) → u' = nI (wrG g wy x).length → (a = 4 → AGn (nC g) x.2.2.2.2.1 he') → (¬ a = 4 → AGn (nC g) (ceG g wy x) he') → AGn 16 (w1 wy x) we' → KE9 1001 (wrG g wy x) sr' → kl_X8_stepsOn_222 (nI p) (nI wy) ln be ac aC ls tw lf lt cd Φ n' e f u' b1 b2 b3 b4 b5 b6 b7 b8 b9 vo' he' we' sr' n (nI (16 * p + x.2.1)) (nI a) v4 v5 := by
    intro n' u' b1 b2 b3 b4 b5 b6 b7 b8 b9 vo' he' we' sr' v4 v5 hv4 hv5 h1 h2 h3 h3' h4 h5
    unfold kl_X8_stepsOn_222
    rw [q4]
    refine ⟨fun z => k251 _ _ _ _ _ _ _ _ _ _ _ _ _ _ _ _ _ hv4 hv5 (h1.resolve_left z) h2 (h3' z) h4 h5, fun z _ _ => ?_⟩
    have t6 := okc (Or.inr z)
    rw [nI_clamp (n := 16 * p + x.2.1) (by omega), l2 (Or.inr z), nI_clamp (n := (lnG g x.2.1).2.2.1) (by omega), hv4 (by omega), m3, nI_1]
    refine sq8_lineOf hp hln hp0 h16 (k251 _ _ _ _ _ _ _ _ _ _ _ _ _ _ _ _ _ (fun _ => rfl) hv5 (Or.inr ?_) h2 ?_ h4 h5)
    · unfold nxG; rw [ha, if_pos (Or.inr z)]
    · unfold ceG; rw [ha, if_neg (by omega), if_pos z]; exact (h3 z).updZ
  have k202 : ∀ n' u' b1 b2 b3 b4 b5 b6 b7 b8 b9 vo' he' we' sr' v4 v5, (¬ a = 6 → v4 = oneG g wy x) → (a = 3 ∨ a = 5 → v5 = twoG g wy x) → (a = 3 → n' = nI (x.2.1 + 1)) → (a = 3 ∨ a = 4 ∨ a = 6 ∨ n' = nI (nxG g wy x)) → u' = nI (wrG g wy x).length → (a = 4 → AGn (nC g) x.2.2.2.2.1 he') → (¬ a = 4 → AGn (nC g) (ceG g wy x) he') → AGn 16 (w1 wy x) we' → KE9 1001 (wrG g wy x) sr' → kl_X8_stepsOn_202 (nI p) (nI wy) ln be ac aC ls tw lf lt cd Φ n' e f u' b1 b2 b3 b4 b5 b6 b7 b8 b9 vo' he' we' sr' n (nI (16 * p + x.2.1)) (nI a) v4 v5 := by
    intro n' u' b1 b2 b3 b4 b5 b6 b7 b8 b9 vo' he' we' sr' v4 v5 hv4 hv5 h0 h1 h2 h3 h3' h4 h5
    unfold kl_X8_stepsOn_202
    rw [q3]
    refine ⟨fun z => k222 _ _ _ _ _ _ _ _ _ _ _ _ _ _ _ _ _ hv4 hv5 (h1.resolve_left z) h2 h3 h3' h4 h5, fun z => ?_⟩
    rw [hv4 (by omega), hv5 (Or.inl z)]
    refine ⟨fun y => k222 _ _ _ _ _ _ _ _ _ _ _ _ _ _ _ _ _ (fun _ => rfl) (fun _ => rfl) (Or.inr (Or.inr ?_)) h2 h3 h3' h4 h5, fun y => sq8_lineOf hp hln hp0 h16 (k222 _ _ _ _ _ _ _ _ _ _ _ _ _ _ _ _ _ (fun _ => rfl) (fun _ => rfl) (Or.inr (Or.inr ?_)) h2 h3 h3' h4 h5)⟩
    · rw [h0 z]; unfold nxG; rw [ha, if_neg (by omega), if_neg (fun q => q.2 y), if_neg (by omega)]
    · unfold nxG; rw [ha, if_neg (by omega), if_pos ⟨z, y⟩]
  have k187 : ∀ u' b1 b2 b3 b4 b5 b6 b7 b8 b9 vo' he' we' sr' v4 v5, (¬ a = 6 → v4 = oneG g wy x) → (a = 3 ∨ a = 5 → v5 = twoG g wy x) → u' = nI (wrG g wy x).length → (a = 4 → AGn (nC g) x.2.2.2.2.1 he') → (¬ a = 4 → AGn (nC g) (ceG g wy x) he') → AGn 16 (w1 wy x) we' → KE9 1001 (wrG g wy x) sr' → kl_X8_stepsOn_187 (nI p) (nI wy) ln be ac aC ls tw lf lt cd Φ (nI (x.2.1 + 1)) e f u' b1 b2 b3 b4 b5 b6 b7 b8 b9 vo' he' we' sr' n (nI (16 * p + x.2.1)) (nI a) v4 v5 := by
    intro u' b1 b2 b3 b4 b5 b6 b7 b8 b9 vo' he' we' sr' v4 v5 hv4 hv5 h2 h3 h3' h4 h5
    unfold kl_X8_stepsOn_187
    rw [q2]
    refine ⟨fun z => k202 _ _ _ _ _ _ _ _ _ _ _ _ _ _ _ _ _ hv4 hv5 (fun _ => rfl) ?_ h2 h3 h3' h4 h5, fun z => ?_⟩
    · by_cases e3 : a = 3
      · exact Or.inl e3
      by_cases e4 : a = 4
      · exact Or.inr (Or.inl e4)
      by_cases e6 : a = 6
      · exact Or.inr (Or.inr (Or.inl e6))
      · refine Or.inr (Or.inr (Or.inr ?_))
        unfold nxG; rw [ha, if_neg (by omega), if_neg (fun q => e3 q.1), if_neg e6]
    · rw [hv4 (by omega)]
      refine sq8_lineOf hp hln hp0 h16 (k202 _ _ _ _ _ _ _ _ _ _ _ _ _ _ _ _ _ (fun _ => rfl) hv5 (fun q => by omega) (Or.inr (Or.inr (Or.inr ?_))) h2 h3 h3' h4 h5)
      unfold nxG; rw [ha, if_pos (Or.inl z)]
  have k151 : ∀ b1 b2 b3 b4 b5 b6 b7 b8 b9 vo' he' we' v4 v5, (¬ a = 6 → v4 = oneG g wy x) → (a = 3 ∨ a = 5 → v5 = twoG g wy x) → (a = 4 → AGn (nC g) x.2.2.2.2.1 he') → (¬ a = 4 → AGn (nC g) (ceG g wy x) he') → AGn 16 (w1 wy x) we' → kl_X8_stepsOn_151 (nI p) (nI wy) ln be ac aC ls tw lf lt cd Φ (nI (x.2.1 + 1)) e f u b1 b2 b3 b4 b5 b6 b7 b8 b9 vo' he' we' sr n (nI (16 * p + x.2.1)) (nI a) v4 v5 := by
    intro b1 b2 b3 b4 b5 b6 b7 b8 b9 vo' he' we' v4 v5 hv4 hv5 h3 h3' h4
    unfold kl_X8_stepsOn_151
    have q1001 : (1001 : Int32) ≤ nI x.2.2.2.2.2.length ↔ 1001 ≤ x.2.2.2.2.2.length := nI_leI (a := 1001) (by decide) (by omega)
    rw [q1, m4, q1001, nI_1, nI_clamp (n := x.2.2.2.2.2.length) (by omega)]
    refine ⟨fun z => k187 _ _ _ _ _ _ _ _ _ _ _ _ _ _ _ _ hv4 hv5 ?_ h3 h3' h4 ?_, fun z => ⟨fun y => k187 _ _ _ _ _ _ _ _ _ _ _ _ _ _ _ _ hv4 hv5 ?_ h3 h3' h4 ?_, fun y _ => k187 _ _ _ _ _ _ _ _ _ _ _ _ _ _ _ _ hv4 hv5 ?_ h3 h3' h4 ?_⟩⟩
    · unfold wrG; rw [ha, if_neg z]
    · unfold wrG; rw [ha, if_neg z]; exact m7
    · unfold wrG; rw [ha, if_pos z, List.length_append]; rfl
    · unfold wrG; rw [ha, if_pos z]; exact m7.full y
    · unfold wrG; rw [ha, if_pos z, List.length_append]; rfl
    · unfold wrG; rw [ha, if_pos z, hv4 (by omega)]; exact m7.push
  have k125 : ∀ b1 b2 b3 b4 b5 b6 b7 b8 b9 vo' we' v4 v5, (¬ a = 6 → v4 = oneG g wy x) → (a = 3 ∨ a = 5 → v5 = twoG g wy x) → AGn 16 (w1 wy x) we' → kl_X8_stepsOn_125 (nI p) (nI wy) ln be ac aC ls tw lf lt cd Φ n e f u b1 b2 b3 b4 b5 b6 b7 b8 b9 vo' he we' sr n (nI (16 * p + x.2.1)) (nI a) v4 v5 := by
    intro b1 b2 b3 b4 b5 b6 b7 b8 b9 vo' we' v4 v5 hv4 hv5 h4
    unfold kl_X8_stepsOn_125
    rw [q0, m3, nI_1, ← m3]
    refine ⟨fun z => k151 _ _ _ _ _ _ _ _ _ _ _ _ _ _ hv4 hv5 (fun _ => m5) (fun y => ?_) h4, fun z _ _ => ?_⟩
    · unfold ceG; rw [ha, if_neg z, if_neg y]; exact m5
    · have t6 := okc (Or.inl z)
      rw [nI_clamp (n := 16 * p + x.2.1) (by omega), l2 (Or.inl z), nI_clamp (n := (lnG g x.2.1).2.2.1) (by omega)]
      refine k151 _ _ _ _ _ _ _ _ _ _ _ _ _ _ hv4 hv5 (fun y => by omega) (fun y => ?_) h4
      unfold ceG; rw [ha, if_pos z, hv4 (by omega)]; exact m5.updZ
  have k103 : ∀ b1 b2 b3 b4 b5 b6 b7 b8 b9 vo' we' v4, (¬ a = 6 → v4 = oneG g wy x) → AGn 16 (w1 wy x) we' → kl_X8_stepsOn_103 (nI p) (nI wy) ln be ac aC ls tw lf lt cd Φ n e f u b1 b2 b3 b4 b5 b6 b7 b8 b9 vo' he we' sr n (nI (16 * p + x.2.1)) (nI a) v4 := by
    intro b1 b2 b3 b4 b5 b6 b7 b8 b9 vo' we' v4 hv4 h4
    unfold kl_X8_stepsOn_103
    rw [q3, q5]
    have wk : a = 3 ∨ a = 5 → wl_X8_works (nI p) (nI wy) ln lf lt cd he we' n 1 b1 b2 b3 b4 b5 b6 b7 b8 b9 vo' (fun r b1 b2 b3 b4 b5 b6 b7 b8 b9 vo' => kl_X8_stepsOn_125 (nI p) (nI wy) ln be ac aC ls tw lf lt cd Φ n e f u b1 b2 b3 b4 b5 b6 b7 b8 b9 vo' he we' sr n (nI (16 * p + x.2.1)) (nI a) v4 r) := by
      intro z
      have := sq8_works (v := 1) (w := nI wy) (we := we') (k1 := b1) (k2 := b2) (k3 := b3) (k4 := b4) (k5 := b5) (k6 := b6) (k7 := b7) (k8 := b8) (k9 := b9) (vo := vo') (Φ := fun r b1 b2 b3 b4 b5 b6 b7 b8 b9 vo' => kl_X8_stepsOn_125 (nI p) (nI wy) ln be ac aC ls tw lf lt cd Φ n e f u b1 b2 b3 b4 b5 b6 b7 b8 b9 vo' he we' sr n (nI (16 * p + x.2.1)) (nI a) v4 r) hG hp (show 2 * x.2.1 + 1 < 32 by omega) (l4 z) (oke2 z) m5 (wv h4) (fun b1 b2 b3 b4 b5 b6 b7 b8 b9 vo' => k125 _ _ _ _ _ _ _ _ _ _ _ _ _ hv4 (fun _ => rfl) h4)
      rw [← m3] at this
      exact this
    refine ⟨fun z => wk (Or.inl z), fun z => ⟨fun y => k125 _ _ _ _ _ _ _ _ _ _ _ _ _ hv4 (fun q => q.elim (fun q => absurd q z) (fun q => absurd q y)) h4, fun y => wk (Or.inr y)⟩⟩
  have k80 : ∀ we', AGn 16 (w1 wy x) we' → kl_X8_stepsOn_80 (nI p) (nI wy) ln be ac aC ls tw lf lt cd Φ n e f u k1 k2 k3 k4 k5 k6 k7 k8 k9 vo he we' sr n (nI (16 * p + x.2.1)) := by
    intro we' h4
    unfold kl_X8_stepsOn_80
    rw [nI_clamp (n := 16 * p + x.2.1) (by omega), l1, q6]
    refine fun _ => ⟨fun z => ?_, fun z => k103 _ _ _ _ _ _ _ _ _ _ _ _ (fun y => absurd z y) h4⟩
    have := sq8_works (v := 0) (w := nI wy) (we := we') (k1 := k1) (k2 := k2) (k3 := k3) (k4 := k4) (k5 := k5) (k6 := k6) (k7 := k7) (k8 := k8) (k9 := k9) (vo := vo) (Φ := fun r b1 b2 b3 b4 b5 b6 b7 b8 b9 vo' => kl_X8_stepsOn_103 (nI p) (nI wy) ln be ac aC ls tw lf lt cd Φ n e f u b1 b2 b3 b4 b5 b6 b7 b8 b9 vo' he we' sr n (nI (16 * p + x.2.1)) (nI a) r) hG hp (show 2 * x.2.1 + 0 < 32 by omega) (l3 z) (oke1 z) m5 (wv h4) (fun b1 b2 b3 b4 b5 b6 b7 b8 b9 vo' => k103 _ _ _ _ _ _ _ _ _ _ _ _ (fun _ => rfl) h4)
    rw [← m3] at this
    exact this
  rw [e16]
  unfold kl_X8_stepsOn_62
  rw [qw]
  refine ⟨fun z => k80 _ ?_, fun z _ _ => k80 _ ?_⟩
  · rw [w1_plain z]; exact m6
  · rw [w1_else z, m3, nI_clamp (n := x.2.1) (by omega), m6 _ (by omega)]
    exact m6.updZ
end RW9
end
section
def mxI (a b : Int32) : Int32 := if a < b then b else a
/-- the machine, how often each line was gone over, how worn it was at most -/
abbrev PG9 : Type := PM × (Nat → Nat) × (Nat → Int32)
def gst (g : PGr) (be : Nat → Int32) (wy : Nat) (y : PG9) : PG9 := if y.1.1 = 1 ∧ ¬ hol be wy y.1 then (wrk g wy y.1, updN y.2.1 y.1.2.1 (y.2.1 y.1.2.1 + 1), upd y.2.2 y.1.2.1 (mxI (y.2.2 y.1.2.1) (y.1.2.2.2.1 y.1.2.1 + 1))) else (stp g be wy y.1, y.2)
def gitG (g : PGr) (be : Nat → Int32) (wy : Nat) : Nat → PG9 → PG9
  | 0, y => y
  | n + 1, y => gitG g be wy n (gst g be wy y)
def pg0 (x : PM) : PG9 := (x, fun _ => 0, fun _ => 0)
section GI
variable {g : PGr} {be : Nat → Int32} {wy : Nat} {y : PG9}
theorem gst_1 : (gst g be wy y).1 = stp g be wy y.1 := by
  unfold gst
  split
  · rename_i h
    exact (stp_wrk h.1 h.2).symm
  · rfl
theorem gst_off (h : ¬ y.1.1 = 1) : gst g be wy y = y := by
  unfold gst
  rw [if_neg (fun q => h q.1), stp_off h]
theorem gst_hol (h : y.1.1 = 1) (h2 : hol be wy y.1) : gst g be wy y = ((3, y.1.2), y.2) := by
  unfold gst
  rw [if_neg (fun q => q.2 h2), stp_hol h h2]
theorem gst_wrk (h : y.1.1 = 1) (h2 : ¬ hol be wy y.1) : gst g be wy y = (wrk g wy y.1, updN y.2.1 y.1.2.1 (y.2.1 y.1.2.1 + 1), upd y.2.2 y.1.2.1 (mxI (y.2.2 y.1.2.1) (y.1.2.2.2.1 y.1.2.1 + 1))) := if_pos ⟨h, h2⟩
theorem git_1 : ∀ (n : Nat) (y : PG9), (gitG g be wy n y).1 = itG g be wy n y.1 := by
  intro n
  induction n with
  | zero => intro y; rfl
  | succ n ih =>
    intro y
    show (gitG g be wy n (gst g be wy y)).1 = itG g be wy n (stp g be wy y.1)
    rw [ih, gst_1]
theorem git_add : ∀ (a b : Nat) (y : PG9), gitG g be wy (a + b) y = gitG g be wy b (gitG g be wy a y) := by
  intro a
  induction a with
  | zero => intro b x; rw [Nat.zero_add]; rfl
  | succ a ih =>
    intro b x
    rw [show a + 1 + b = a + b + 1 by omega]
    exact ih b (gst g be wy x)
theorem git_one (n : Nat) : gitG g be wy (n + 1) y = gst g be wy (gitG g be wy n y) := git_add n 1 y
theorem git_off (n : Nat) (h : ¬ y.1.1 = 1) : gitG g be wy n y = y := by
  induction n with
  | zero => rfl
  | succ n ih =>
    show gitG g be wy n (gst g be wy y) = y
    rw [gst_off h, ih]
theorem git_to {a b : Nat} (h : a ≤ b) (h1 : ¬ (gitG g be wy a y).1.1 = 1) : gitG g be wy b y = gitG g be wy a y := by
  have := git_add (g := g) (be := be) (wy := wy) a (b - a) y
  rw [show a + (b - a) = b by omega, git_off _ h1] at this
  exact this
end GI
section RG9
variable {g : PGr} {p wy : Nat} {x : PM} {st ce ip ln be co ca ic il im ac aC ls tw lf lt cd : Nat → Int32} {sf tf : Nat → Nat}
theorem SB.beZ (h : SB p g.1 st be co) {s : Nat} (hs : s < nS g) : be (4 * p + s) = nI (beS g s) ∧ co (4 * p + s) = nI (coS g s) := by
  have hs : s < g.1.length := hs
  have := h.2 s _ (List.getElem?_eq_getElem hs)
  unfold beS coS
  rw [List.getD_eq_getElem?_getD, List.getElem?_eq_getElem hs]
  exact this
theorem bear_eq {l : Nat} (hS : SB p g.1 st be co) (hG : GK9 g) (hL : LYo g sf tf) (hY : YB p (nL g) sf tf ls tw) (hp : p < 6) (hl : l < nL g) : be ((4 * nI p) + ls ((16 * nI p) + nI l).toNatClampNeg).toNatClampNeg * tw ((16 * nI p) + nI l).toNatClampNeg = brG g sf tf l := by
  have h16 : nL g ≤ 16 := hG.2.2.2.2.2.2.2.2.1
  have h4 : nS g ≤ 4 := hG.1
  obtain ⟨h1, h2, h3⟩ := hL l hl
  obtain ⟨y1, y2⟩ := hY l hl
  have e16 : ((16 : Int32) * nI p) + nI l = nI (16 * p + l) := by rw [show (16 : Int32) = nI 16 from rfl, pk_mul, nI_add]
  rw [e16, nI_clamp (n := 16 * p + l) (by omega), y1, y2, show (4 : Int32) = nI 4 from rfl, pk_mul, nI_add, nI_clamp (n := 4 * p + sf l) (by omega), (hS.beZ h1).1]
  rfl
theorem sq8_stepsOn {n e f u : Int32} {he we sr k1 k2 k3 k4 k5 k6 k7 k8 k9 vo : Nat → Int32} {Φ : PSt} (hG : GK9 g) (hp : p < 6) (hR : RP8 p g st ce ip ln be co ca ic il im ac aC lf lt cd) (hY : YB p (nL g) sf tf ls tw) (hLy : LYo g sf tf) (hw : wy ≤ 2) (hN : x.2.1 < nL g) (hx1 : x.1 = 1) (hM : RM9 g x n e f u he we sr) (hW : x.2.2.2.2.2.length < 2 ^ 30)
    (h : ∀ n' e' f' u' b1 b2 b3 b4 b5 b6 b7 b8 b9 vo' he' we' sr', RM9 g (stp g (brG g sf tf) wy x) n' e' f' u' he' we' sr' → Φ n' e' f' u' b1 b2 b3 b4 b5 b6 b7 b8 b9 vo' he' we' sr') : wl_X8_stepsOn (nI p) (nI wy) ln be ac aC ls tw lf lt cd n e f u k1 k2 k3 k4 k5 k6 k7 k8 k9 vo he we sr Φ := by
  obtain ⟨rS, rC, rI, rL⟩ := hR
  have h16 : nL g ≤ 16 := hG.2.2.2.2.2.2.2.2.1
  have q0 : nI wy = 0 ↔ wy = 0 := nI_eq (b := 0) (by omega) (by decide)
  have hn : n = nI x.2.1 := hM.2.2.1 (by rw [hx1]; decide)
  unfold wl_X8_stepsOn
  rw [q0]
  have go : ¬ hol (brG g sf tf) wy x → kl_X8_stepsOn_62 (nI p) (nI wy) ln be ac aC ls tw lf lt cd Φ n e f u k1 k2 k3 k4 k5 k6 k7 k8 k9 vo he we sr n ((16 * nI p) + n) := fun z => by
    rw [stp_wrk hx1 z] at h
    exact sq8_wrk hG hp rL hw hN hx1 hM hW h
  refine ⟨fun z => go (fun q => z q.1), fun z _ _ _ _ => ?_⟩
  have ew : we n.toNatClampNeg = x.2.2.2.1 x.2.1 := by rw [hn, nI_clamp (n := x.2.1) (by omega)]; exact hM.2.2.2.2.2.1 _ (by omega)
  rw [ew, hn, bear_eq rS hG hLy hY hp hN, ← hn]
  refine ⟨fun y => go (fun q => q.2 y), fun y => ?_⟩
  rw [stp_hol hx1 ⟨z, y⟩] at h
  obtain ⟨m1, m2, m3, m4, m5, m6, m7⟩ := hM
  exact h _ _ _ _ _ _ _ _ _ _ _ _ _ _ _ _ _ ⟨m1.trans (by rw [if_neg (by rw [hx1]; decide)]; rfl), rfl, fun _ => hn, m4, m5, m6, m7⟩
theorem RM9.e0 {n e f u : Int32} {he we sr : Nat → Int32} (h : RM9 g x n e f u he we sr) : (e = 0 ↔ ¬ x.1 = 2) ∧ (f = 0 ↔ ¬ x.1 = 3) := by
  obtain ⟨m1, m2, _⟩ := h
  rw [m1, m2]
  refine ⟨⟨fun q z => ?_, fun z => if_neg z⟩, ⟨fun q z => ?_, fun z => if_neg z⟩⟩
  · rw [if_pos z] at q; exact absurd q (by decide)
  · rw [if_pos z] at q; exact absurd q (by decide)
/-- gone over, worn at most -/
def GP9 (y : PG9) (go pk : Nat → Int32) : Prop := (∀ l, l < 16 → go l = nI (y.2.1 l)) ∧ AGn 16 y.2.2 pk
theorem sq8_goesOn33 {Φ : PG} {y0 : PG9} (hG : GK9 g) (hp : p < 6) (hR : RP8 p g st ce ip ln be co ca ic il im ac aC lf lt cd) (hY : YB p (nL g) sf tf ls tw) (hLy : LYo g sf tf) (hw : wy ≤ 2) (hP0 : PMo g wy y0.1) (hK0 : y0.1.2.2.1 < 2 ^ 29)
    (h : ∀ n e f u ma k1 k2 k3 k4 k5 k6 k7 k8 k9 vo he we sr go pk, RM9 g (pfl (brG g sf tf) wy (gitG g (brG g sf tf) wy 1000 y0).1) n e f u he we sr → ma = nI ((gitG g (brG g sf tf) wy 1000 y0).1.2.2.1 - y0.1.2.2.1) → GP9 (gitG g (brG g sf tf) wy 1000 y0) go pk → Φ n e f u ma k1 k2 k3 k4 k5 k6 k7 k8 k9 vo he we sr go pk) : ∀ (m i : Nat) (n e f u : Int32) (k1 k2 k3 k4 k5 k6 k7 k8 k9 vo he we sr go pk : Nat → Int32), i ≤ 1000 → RM9 g (gitG g (brG g sf tf) wy i y0).1 n e f u he we sr → ((gitG g (brG g sf tf) wy i y0).1.1 = 1 ∨ (gitG g (brG g sf tf) wy i y0).1.1 = 2) → (gitG g (brG g sf tf) wy i y0).1.2.2.1 = y0.1.2.2.1 + i → GP9 (gitG g (brG g sf tf) wy i y0) go pk → ll_X8_goesOn_33 (nI p) (nI wy) ln be ac aC ls tw lf lt cd Φ m n e f u (nI i) k1 k2 k3 k4 k5 k6 k7 k8 k9 vo he we sr go pk := by
  have h16 : nL g ≤ 16 := hG.2.2.2.2.2.2.2.2.1
  intro m
  induction m with
  | zero => intros; trivial
  | succ m ih =>
    intro i n e f u k1 k2 k3 k4 k5 k6 k7 k8 k9 vo he we sr go pk hi hM hs hk hgp
    have hP : PMo g wy (gitG g (brG g sf tf) wy i y0).1 := by rw [git_1]; exact PMo.itZ i _ hP0
    have e12 := hM.e0
    have hWl : (gitG g (brG g sf tf) wy i y0).1.2.2.2.2.2.length < 2 ^ 30 := by have := hP.2.2.2.1; omega
    show bl_X8_goesOn_33 _ _ _ _ _ _ _ _ _ _ _ _ _ _ _ _ _ _ _ _ _ _ _ _ _ _ _ _ _ _ _ _ _
    unfold bl_X8_goesOn_33
    -- the end has come
    have off : ¬ (gitG g (brG g sf tf) wy i y0).1.1 = 1 → Φ n e f u (nI i) k1 k2 k3 k4 k5 k6 k7 k8 k9 vo he we sr go pk := by
      intro z
      have eg := git_to hi z
      refine h _ _ _ _ _ _ _ _ _ _ _ _ _ _ _ _ _ _ _ _ ?_ ?_ ?_
      · rw [eg]
        have ep : pfl (brG g sf tf) wy (gitG g (brG g sf tf) wy i y0).1 = (gitG g (brG g sf tf) wy i y0).1 := if_neg (fun q => z q.1)
        rw [ep]
        exact hM
      · rw [eg, hk, Nat.add_sub_cancel_left]
      · rw [eg]; exact hgp
    refine ⟨fun z => off (fun q => z (e12.1.mpr (by omega))), fun z => ⟨fun y => off (fun q => y (e12.2.mpr (by omega))), fun y => ?_⟩⟩
    have h1 : (gitG g (brG g sf tf) wy i y0).1.1 = 1 := hs.resolve_right (e12.1.mp z)
    have hN := hP.2.2.1 (Or.inl h1)
    have hn : n = nI (gitG g (brG g sf tf) wy i y0).1.2.1 := hM.2.2.1 (by omega)
    have q1000 : nI i = 1000 ↔ i = 1000 := nI_eq (b := 1000) (by omega) (by decide)
    have ew : we n.toNatClampNeg = (gitG g (brG g sf tf) wy i y0).1.2.2.2.1 (gitG g (brG g sf tf) wy i y0).1.2.1 := by rw [hn, nI_clamp (n := _) (by omega)]; exact hM.2.2.2.2.2.1 _ (by omega)
    -- a step is tried
    have st122 : (i = 1000 → hol (brG g sf tf) wy (gitG g (brG g sf tf) wy i y0).1) → kl_X8_goesOn_122 (nI p) (nI wy) ln be ac aC ls tw lf lt cd (ll_X8_goesOn_33 (nI p) (nI wy) ln be ac aC ls tw lf lt cd Φ m) Φ n e f u (nI i) k1 k2 k3 k4 k5 k6 k7 k8 k9 vo he we sr go pk n (we n.toNatClampNeg) := by
      intro hh
      unfold kl_X8_goesOn_122
      refine sq8_stepsOn hG hp hR hY hLy hw hN h1 hM hWl (fun n' e' f' u' b1 b2 b3 b4 b5 b6 b7 b8 b9 vo' he' we' sr' hM' => ?_)
      have f12 := hM'.e0
      by_cases ho : hol (brG g sf tf) wy (gitG g (brG g sf tf) wy i y0).1
      · have es := stp_hol (g := g) h1 ho
        rw [es] at hM' f12
        refine ⟨fun q => absurd rfl (f12.2.mp q), fun _ => ?_⟩
        by_cases ei : i = 1000
        · subst ei
          refine h _ _ _ _ _ _ _ _ _ _ _ _ _ _ _ _ _ _ _ _ ?_ ?_ hgp
          · have ep : pfl (brG g sf tf) wy (gitG g (brG g sf tf) wy 1000 y0).1 = (3, (gitG g (brG g sf tf) wy 1000 y0).1.2) := if_pos ⟨h1, ho⟩
            rw [ep]
            exact hM'
          · rw [hk, Nat.add_sub_cancel_left]
        · have eg1 : gitG g (brG g sf tf) wy (i + 1) y0 = ((3, (gitG g (brG g sf tf) wy i y0).1.2), (gitG g (brG g sf tf) wy i y0).2) := by rw [git_one, gst_hol h1 ho]
          have n1 : ¬ (gitG g (brG g sf tf) wy (i + 1) y0).1.1 = 1 := by rw [eg1]; exact (by decide : ¬ (3 : Nat) = 1)
          have eg := git_to (show i + 1 ≤ 1000 by omega) n1
          refine h _ _ _ _ _ _ _ _ _ _ _ _ _ _ _ _ _ _ _ _ ?_ ?_ ?_
          · rw [eg]
            have ep : pfl (brG g sf tf) wy (gitG g (brG g sf tf) wy (i + 1) y0).1 = (gitG g (brG g sf tf) wy (i + 1) y0).1 := if_neg (fun q => n1 q.1)
            rw [ep, eg1]
            exact hM'
          · rw [eg, eg1]
            show _ = nI ((gitG g (brG g sf tf) wy i y0).1.2.2.1 - y0.1.2.2.1)
            rw [hk, Nat.add_sub_cancel_left]
          · rw [eg, eg1]; exact hgp
      · have es := stp_wrk (g := g) h1 ho
        have ei : ¬ i = 1000 := fun q => ho (hh q)
        have eg1 := git_one (g := g) (be := brG g sf tf) (wy := wy) (y := y0) i
        rw [gst_wrk h1 ho] at eg1
        rw [es] at hM' f12
        have hsw : (wrk g wy (gitG g (brG g sf tf) wy i y0).1).1 = 1 ∨ (wrk g wy (gitG g (brG g sf tf) wy i y0).1).1 = 2 := by
          show (if _ then 2 else 1) = 1 ∨ (if _ then 2 else 1) = 2
          split
          · exact Or.inr rfl
          · exact Or.inl rfl
        refine ⟨fun _ _ _ _ _ => ?_, fun q => absurd (f12.2.mpr (by omega)) q⟩
        rw [nI_1]
        refine ih (i + 1) _ _ _ _ _ _ _ _ _ _ _ _ _ _ _ _ _ _ _ (by omega) (by rw [eg1]; exact hM') (by rw [eg1]; exact hsw) (by rw [eg1]; show (gitG g (brG g sf tf) wy i y0).1.2.2.1 + 1 = _; omega) ?_
        rw [eg1, ew, hn, nI_clamp (n := (gitG g (brG g sf tf) wy i y0).1.2.1) (by omega)]
        refine ⟨fun l hl => ?_, fun l hl => ?_⟩
        · show _ = nI (updN _ _ _ l)
          unfold updN
          by_cases el : l = (gitG g (brG g sf tf) wy i y0).1.2.1
          · rw [if_pos el, el, pk_us, hgp.1 _ (by omega), nI_1]
          · rw [if_neg el, pk_un el]; exact hgp.1 l hl
        · show _ = upd _ _ _ l
          by_cases el : l = (gitG g (brG g sf tf) wy i y0).1.2.1
          · rw [el, pk_us, pk_us, hgp.2 _ (by omega)]; rfl
          · rw [pk_un el, pk_un el]; exact hgp.2 l hl
    have q0 : nI wy = 0 ↔ wy = 0 := nI_eq (b := 0) (by omega) (by decide)
    rw [q1000, q0]
    -- the thousandth
    have last : i = 1000 → ¬ hol (brG g sf tf) wy (gitG g (brG g sf tf) wy i y0).1 → Φ n e f u (nI i) k1 k2 k3 k4 k5 k6 k7 k8 k9 vo he we sr go pk := by
      intro ei ho
      subst ei
      refine h _ _ _ _ _ _ _ _ _ _ _ _ _ _ _ _ _ _ _ _ ?_ ?_ hgp
      · have ep : pfl (brG g sf tf) wy (gitG g (brG g sf tf) wy 1000 y0).1 = (gitG g (brG g sf tf) wy 1000 y0).1 := if_neg (fun q => ho q.2)
        rw [ep]
        exact hM
      · rw [hk, Nat.add_sub_cancel_left]
    refine fun _ => ⟨fun z1 => st122 (fun q => absurd q z1), fun z1 => ⟨fun z2 => last z1 (fun q => z2 q.1), fun z2 _ _ _ => ?_⟩⟩
    rw [hn, bear_eq hR.1 hG hLy hY hp hN, ← hn, ew]
    refine ⟨fun z3 => ?_, fun z3 => last z1 (fun q => z3 (Int32.not_lt.mp q.2))⟩
    rw [← ew]
    exact st122 (fun _ => ⟨z2, Int32.not_lt.mpr z3⟩)
end RG9
end
section
section RT9
variable {g : PGr} {p wy : Nat} {x : PM} {st ce ip ln be co ca ic il im ac aC ls tw lf lt cd : Nat → Int32} {sf tf : Nat → Nat}
def wdO (l : List (Nat × Nat × Nat)) (k : Nat) : Nat := match l[k]? with
  | some y => wid y
  | none => 1
theorem sq8_manyOf {k : Nat} {l : List (Nat × Nat × Nat)} {Φ : Int32 → Prop} (hI : IB p l ip ic il im) (hp : p < 6) (hk : k < 2) (hl2 : l.length ≤ 2) (hle : ∀ y ∈ l, y.2.1 ≤ y.2.2) (h : Φ (nI (wdO l k))) : wl_X8_manyOf ip il im (nI p) (nI k) Φ := by
  unfold wl_X8_manyOf
  rw [nI_clamp (n := p) (by omega), hI.1, nI_leI (by omega) (by omega)]
  unfold wdO at h
  refine fun _ => ⟨fun z => ?_, fun z _ _ => ?_⟩
  · rw [List.getElem?_eq_none z] at h
    exact h
  · have hlt : k < l.length := by omega
    obtain ⟨e1, e2, e3⟩ := hI.2 k _ (List.getElem?_eq_getElem hlt)
    have b := hle _ (List.getElem_mem hlt)
    rw [List.getElem?_eq_getElem hlt] at h
    rw [show (2 : Int32) = nI 2 from rfl, pk_mul, nI_add, nI_clamp (n := 2 * p + k) (by omega), e2, e3, pk_sub b, nI_1]
    exact h
theorem wdO_many : ∀ {l : List (Nat × Nat × Nat)}, l.length ≤ 2 → wdO l 0 * wdO l 1 = many l
  | [], _ => rfl
  | [a], _ => by
    rw [many_1]
    show wid a * 1 = wid a
    rw [Nat.mul_one]
  | [a, b], _ => by rw [many_2]; rfl
  | a :: b :: c :: r, h => absurd h (by show ¬ (r.length + 3 ≤ 2); omega)
theorem sq8_inputsOf {Φ : Int32 → Prop} (hI : IB p g.2.2.1 ip ic il im) (hG : GK9 g) (hp : p < 6) (h : Φ (nI (inN g))) : wl_X8_inputsOf ip il im (nI p) Φ := by
  have hl2 := hG.2.2.2.2.1
  have hle : ∀ y ∈ g.2.2.1, y.2.1 ≤ y.2.2 := fun y hy => (hG.2.2.2.2.2.1 y hy).2.1
  unfold wl_X8_inputsOf
  refine sq8_manyOf (k := 0) hI hp (by decide) hl2 hle (sq8_manyOf (k := 1) hI hp (by decide) hl2 hle ?_)
  rw [pk_mul, wdO_many hl2]
  exact h
theorem sq8_beginsWith {i c : Nat} {Φ : Int32 → Prop} (hC : CB p g.2.1 ce ca) (hI : IB p g.2.2.1 ip ic il im) (hG : GK9 g) (hp : p < 6) (hi : i < inN g) (hc : c < nC g) (h : Φ (nI (inpG g i c))) : wl_X8_beginsWith ip ca ic il im (nI p) (nI i) (nI c) Φ := by
  have h6 : nC g ≤ 6 := hG.2.2.1
  have h64 : inN g ≤ 64 := hG.2.2.2.2.2.2.1
  have hl2 := hG.2.2.2.2.1
  have h5 := hG.2.2.2.2.2.1
  have hle : ∀ y ∈ g.2.2.1, y.2.1 ≤ y.2.2 := fun y hy => (h5 y hy).2.1
  have hcc : c < g.2.1.length := hc
  have eca : ca (6 * p + c) = nI (atG g c) := by
    have := hC.2 c _ (List.getElem?_eq_getElem hcc)
    unfold atG
    rw [List.getD_eq_getElem?_getD, List.getElem?_eq_getElem hcc]
    exact this
  -- behind the last input: as told
  have last : ∀ (n k : Nat), k = g.2.2.1.length → Φ (nI (atG g c)) → ll_X8_beginsWith_3 ip ca ic il im (nI p) (nI i) (nI c) Φ n (nI k) := by
    intro n k hk hΦ
    cases n with
    | zero => trivial
    | succ n =>
      show bl_X8_beginsWith_3 _ _ _ _ _ _ _ _ _ _ _
      unfold bl_X8_beginsWith_3
      rw [nI_clamp (n := p) (by omega), hI.1, nI_leI (by omega) (by omega)]
      refine fun _ => ⟨fun _ _ => ?_, fun z => absurd (by omega) z⟩
      rw [show (6 : Int32) = nI 6 from rfl, pk_mul, nI_add, nI_clamp (n := 6 * p + c) (by omega), eca]
      exact hΦ
  -- an input
  have step : ∀ (n k : Nat) (y : Nat × Nat × Nat), g.2.2.1[k]? = some y → (¬ y.1 = c → ll_X8_beginsWith_3 ip ca ic il im (nI p) (nI i) (nI c) Φ n (nI (k + 1))) → (y.1 = c → k + 1 = g.2.2.1.length → Φ (nI (y.2.1 + i % wid y))) → (y.1 = c → ¬ k + 1 = g.2.2.1.length → Φ (nI (y.2.1 + i / wdO g.2.2.1 1))) → ll_X8_beginsWith_3 ip ca ic il im (nI p) (nI i) (nI c) Φ (n + 1) (nI k) := by
    intro n k y hy f1 f2 f3
    have hlt := get_lt hy
    obtain ⟨e1, e2, e3⟩ := hI.2 k y hy
    have hy1 := (h5 y (List.mem_of_getElem? hy)).1
    have hy9 := (h5 y (List.mem_of_getElem? hy)).2
    have hw9 : wid y ≤ 10000 := by unfold wid; omega
    show bl_X8_beginsWith_3 _ _ _ _ _ _ _ _ _ _ _
    unfold bl_X8_beginsWith_3
    have eq9 : nI y.1 = nI c ↔ y.1 = c := nI_eq (by unfold nC at h6; omega) (by omega)
    have eL : nI g.2.2.1.length - 1 = nI (g.2.2.1.length - 1) := by
      have := nI_pred (g.2.2.1.length - 1)
      rw [show g.2.2.1.length - 1 + 1 = g.2.2.1.length by omega] at this
      exact this
    rw [nI_clamp (n := p) (by omega), hI.1, nI_leI (by omega) (by omega), show (2 : Int32) = nI 2 from rfl, pk_mul, nI_add, nI_clamp (n := 2 * p + k) (by omega), e1, e2, eq9, eL, nI_eq (by omega) (by omega), nI_1]
    refine fun _ => ⟨fun z => absurd z (by omega), fun _ _ => ⟨fun z => f1 z, fun z _ _ => ⟨fun z2 => sq8_manyOf (k := 1) hI hp (by decide) hl2 hle (fun _ => ?_), fun z2 => sq8_manyOf (k := k) hI hp (by omega) hl2 hle (fun _ => ?_)⟩⟩⟩
    · have hwp : 0 < wdO g.2.2.1 1 := by unfold wdO; split <;> first | exact wid_pos _ | exact Nat.one_pos
      have hw1 : wdO g.2.2.1 1 ≤ 10000 := by
        unfold wdO
        split
        · rename_i y2 hy2
          have := (h5 y2 (List.mem_of_getElem? hy2)).2
          unfold wid; omega
        · decide
      rw [pk_div (by omega) hwp (by omega), nI_add]
      exact f3 z (by omega)
    · have ew : wdO g.2.2.1 k = wid y := by unfold wdO; rw [hy]
      rw [ew, pk_rem (by omega) (wid_pos y) (by omega), nI_add]
      exact f2 z (by omega)
  unfold inpG at h
  intro n
  cases n with
  | zero => trivial
  | succ n =>
    match hl : g.2.2.1, h, hl2 with
    | [], h, _ => exact last (n + 1) 0 (by rw [hl]; rfl) h
    | [a], h, _ =>
      have h : Φ (nI (if a.1 = c then a.2.1 + i % wid a else atG g c)) := h
      refine step n 0 a (by rw [hl]; rfl) (fun z => last n 1 (by rw [hl]; rfl) ?_) (fun z _ => ?_) (fun z z2 => absurd (by rw [hl]; rfl) z2)
      · rw [if_neg z] at h; exact h
      · rw [if_pos z] at h; exact h
    | [a, b], h, _ =>
      have h : Φ (nI (if a.1 = c then a.2.1 + i / wid b else if b.1 = c then b.2.1 + i % wid b else atG g c)) := h
      refine step n 0 a (by rw [hl]; rfl) (fun z => ?_) (fun z z2 => absurd z2 (by rw [hl]; show ¬ 0 + 1 = 2; decide)) (fun z _ => ?_)
      · rw [if_neg z] at h
        cases n with
        | zero => trivial
        | succ n =>
          refine step n 1 b (by rw [hl]; rfl) (fun y => last n 2 (by rw [hl]; rfl) ?_) (fun y _ => ?_) (fun y y2 => absurd (by rw [hl]; rfl) y2)
          · rw [if_neg y] at h; exact h
          · rw [if_pos y] at h; exact h
      · rw [if_pos z] at h
        rw [hl]
        exact h
    | a :: b :: c' :: r, _, hl2 => exact absurd hl2 (by show ¬ (r.length + 3 ≤ 2); omega)
theorem sq8_begins {i : Nat} {a0 w0 n0 e0 f0 u0 : Int32} {he : Nat → Int32} {Φ : Int32 → Int32 → Int32 → Int32 → Int32 → Int32 → (Nat → Int32) → Prop} (hC : CB p g.2.1 ce ca) (hI : IB p g.2.2.1 ip ic il im) (hG : GK9 g) (hp : p < 6) (hi : i < inN g) (h : ∀ he', AGn (nC g) (fun c => nI (inpG g i c)) he' → Φ (nI p) (nI wy) 0 0 0 0 he') : wl_X8_begins ce ip ca ic il im (nI p) (nI i) (nI wy) a0 w0 n0 e0 f0 u0 he Φ := by
  have h6 : nC g ≤ 6 := hG.2.2.1
  have hc0 : ce p = nI (nC g) := hC.1
  have key : ∀ (m c : Nat) (he : Nat → Int32), c ≤ 6 → (∀ j, j < c → j < nC g → he j = nI (inpG g i j)) → ll_X8_begins_33 ce ip ca ic il im (nI p) (nI i) (nI wy) Φ m (nI p) (nI wy) 0 0 0 0 he (nI c) := by
    intro m
    induction m with
    | zero => intros; trivial
    | succ m ih =>
      intro c he hc ha
      show bl_X8_begins_33 _ _ _ _ _ _ _ _ _ _ _ _ _ _ _ _ _ _ _
      unfold bl_X8_begins_33
      have q6 : (6 : Int32) ≤ nI c ↔ 6 ≤ c := nI_leI (a := 6) (by decide) (by omega)
      rw [q6, nI_clamp (n := p) (by omega), hc0, nI_leI (by omega) (by omega), nI_clamp (n := c) (by omega), nI_1]
      refine ⟨fun z => h he (fun j hj => ha j (by omega) hj), fun z _ => ⟨fun y _ => ih (c + 1) _ (by omega) (fun j hj hj2 => ?_), fun y => sq8_beginsWith hC hI hG hp hi (by omega) (fun _ => ih (c + 1) _ (by omega) (fun j hj hj2 => ?_))⟩⟩
      · rw [pk_un (by omega)]; exact ha j (by omega) hj2
      · by_cases e : j = c
        · rw [e, pk_us]
        · rw [pk_un e]; exact ha j (by omega) hj2
  exact fun m => key m 0 he (Nat.zero_le _) (fun j hj => absurd hj (Nat.not_lt_zero _))
theorem sq8_freshens {we : Nat → Int32} {Φ : (Nat → Int32) → Prop} (h : ∀ we', (∀ j, j < 16 → we' j = 0) → Φ we') : wl_X8_freshens we Φ := by
  have key : ∀ (m k : Nat) (we : Nat → Int32), k ≤ 16 → (∀ j, j < k → we j = 0) → ll_X8_freshens_2 Φ m we (nI k) := by
    intro m
    induction m with
    | zero => intros; trivial
    | succ m ih =>
      intro k we hk h0
      show bl_X8_freshens_2 _ _ _ _
      unfold bl_X8_freshens_2
      have q : (16 : Int32) ≤ nI k ↔ 16 ≤ k := nI_leI (a := 16) (by decide) (by omega)
      rw [q, nI_clamp (n := k) (by omega), nI_1]
      refine ⟨fun z => h we (fun j hj => h0 j (by omega)), fun z _ => ih (k + 1) _ (by omega) (fun j hj => ?_)⟩
      by_cases e : j = k
      · rw [e, pk_us]
      · rw [pk_un e]; exact h0 j (by omega)
  exact fun m => key m 0 we (Nat.zero_le _) (fun j hj => absurd hj (Nat.not_lt_zero _))
theorem pg0_1 : (pg0 x).1 = x := rfl
theorem sq8_goesOn {n e f u ma : Int32} {k1 k2 k3 k4 k5 k6 k7 k8 k9 vo he we sr go pk : Nat → Int32} {Φ : PG} (hG : GK9 g) (hp : p < 6) (hR : RP8 p g st ce ip ln be co ca ic il im ac aC lf lt cd) (hY : YB p (nL g) sf tf ls tw) (hLy : LYo g sf tf) (hw : wy ≤ 2) (hP0 : PMo g wy x) (hK0 : x.2.2.1 < 2 ^ 29) (hx : x.1 = 1 ∨ x.1 = 2) (hM : RM9 g x n e f u he we sr)
    (h : ∀ n e f u ma k1 k2 k3 k4 k5 k6 k7 k8 k9 vo he we sr go pk, RM9 g (rnG g (brG g sf tf) wy x) n e f u he we sr → ma = nI ((rnG g (brG g sf tf) wy x).2.2.1 - x.2.2.1) → GP9 (gitG g (brG g sf tf) wy 1000 (pg0 x)) go pk → Φ n e f u ma k1 k2 k3 k4 k5 k6 k7 k8 k9 vo he we sr go pk) : wl_X8_goesOn (nI p) (nI wy) ln be ac aC ls tw lf lt cd n e f u ma k1 k2 k3 k4 k5 k6 k7 k8 k9 vo he we sr go pk Φ := by
  have ek : (rnG g (brG g sf tf) wy x).2.2.1 = (gitG g (brG g sf tf) wy 1000 (pg0 x)).1.2.2.1 := by
    rw [git_1, rnG_2, pg0_1]
  have h33 := sq8_goesOn33 (wy := wy) (ln := ln) (Φ := Φ) (y0 := pg0 x) hG hp hR hY hLy hw hP0 hK0 (fun n e f u ma k1 k2 k3 k4 k5 k6 k7 k8 k9 vo he we sr go pk m1 m2 m3 => h n e f u ma k1 k2 k3 k4 k5 k6 k7 k8 k9 vo he we sr go pk (by rw [git_1, pg0_1] at m1; exact m1) (by rw [ek]; exact m2) m3)
  have key : ∀ (m k : Nat) (go pk : Nat → Int32), k ≤ 16 → (∀ j, j < k → go j = 0 ∧ pk j = 0) → ll_X8_goesOn_7 (nI p) (nI wy) ln be ac aC ls tw lf lt cd Φ m n e f u 0 k1 k2 k3 k4 k5 k6 k7 k8 k9 vo he we sr go pk (nI k) := by
    intro m
    induction m with
    | zero => intros; trivial
    | succ m ih =>
      intro k go pk hk h0
      show bl_X8_goesOn_7 _ _ _ _ _ _ _ _ _ _ _ _ _ _ _ _ _ _ _ _ _ _ _ _ _ _ _ _ _ _ _ _ _ _
      unfold bl_X8_goesOn_7
      have q : (16 : Int32) ≤ nI k ↔ 16 ≤ k := nI_leI (a := 16) (by decide) (by omega)
      rw [q, nI_clamp (n := k) (by omega), nI_1]
      refine ⟨fun z m => h33 m 0 n e f u _ _ _ _ _ _ _ _ _ _ _ _ _ go pk (by decide) hM hx rfl ⟨fun l hl => (h0 l (by omega)).1, fun l hl => (h0 l (by omega)).2⟩, fun z _ _ => ih (k + 1) _ _ (by omega) (fun j hj => ?_)⟩
      by_cases e : j = k
      · rw [e, pk_us, pk_us]; exact ⟨rfl, rfl⟩
      · rw [pk_un e, pk_un e]; exact h0 j (by omega)
  exact fun m => key m 0 go pk (Nat.zero_le _) (fun j hj => absurd hj (Nat.not_lt_zero _))
theorem RM9.bg {i : Nat} {he we sr : Nat → Int32} (hn : 0 < nL g) {wo : Nat → Int32} (h1 : AGn (nC g) (fun c => nI (inpG g i c)) he) (h2 : AGn 16 wo we) : RM9 g (bgG g i wo) 0 0 0 0 he we sr := ⟨rfl, rfl, fun _ => rfl, rfl, h1, h2, KE9.nil⟩
theorem sq8_tries {i : Nat} {a0 w0 n e f u ma : Int32} {k1 k2 k3 k4 k5 k6 k7 k8 k9 vo he we sr go pk : Nat → Int32} {Φ : PTr} (hG : GK9 g) (hp : p < 6) (hR : RP8 p g st ce ip ln be co ca ic il im ac aC lf lt cd) (hY : YB p (nL g) sf tf ls tw) (hLy : LYo g sf tf) (hw : wy ≤ 2) (hn : 0 < nL g) (hi : i < inN g)
    (h : ∀ n e f u ma k1 k2 k3 k4 k5 k6 k7 k8 k9 vo he we sr go pk, RM9 g (rnG g (brG g sf tf) wy (bgG g i (fun _ => 0))) n e f u he we sr → ma = nI (rnG g (brG g sf tf) wy (bgG g i (fun _ => 0))).2.2.1 → GP9 (gitG g (brG g sf tf) wy 1000 (pg0 (bgG g i (fun _ => 0)))) go pk → Φ (nI p) (nI wy) n e f u ma k1 k2 k3 k4 k5 k6 k7 k8 k9 vo he we sr go pk) : wl_X8_tries ce ip ln be ca ic il im ac aC ls tw lf lt cd (nI p) (nI i) (nI wy) a0 w0 n e f u ma k1 k2 k3 k4 k5 k6 k7 k8 k9 vo he we sr go pk Φ := by
  unfold wl_X8_tries
  refine sq8_freshens (fun we' h0 => sq8_begins hR.2.1 hR.2.2.1 hG hp hi (fun he' hh => ?_))
  exact sq8_goesOn (x := bgG g i (fun _ => 0)) hG hp hR hY hLy hw (PMo.bg hn (fun _ _ _ => rfl)) (show (0 : Nat) < 2 ^ 29 by decide) (Or.inl rfl) (RM9.bg hn hh (fun j hj => h0 j hj)) (fun n e f u ma k1 k2 k3 k4 k5 k6 k7 k8 k9 vo he we sr go pk m1 m2 m3 => h n e f u ma k1 k2 k3 k4 k5 k6 k7 k8 k9 vo he we sr go pk m1 (by rw [show (bgG g i (fun _ => 0)).2.2.1 = 0 from rfl, Nat.sub_zero] at m2; exact m2) m3)
end RT9
end
section
/-- by hand: so many steps, 1,000,000 in all -/
def runH (g : PGr) (be : Nat → Int32) (k : Nat) (x : PM) : PM := (if (itG g be 0 (min k (1000000 - x.2.2.1)) x).1 = 1 ∧ 1000000 ≤ (itG g be 0 (min k (1000000 - x.2.2.1)) x).2.2.1 then 4 else (itG g be 0 (min k (1000000 - x.2.2.1)) x).1, (itG g be 0 (min k (1000000 - x.2.2.1)) x).2)
/-- what may be trusted of the hand -/
def HMo (g : PGr) (x : PM) : Prop := x.1 ≤ 4 ∧ x.2.1 ≤ nL g ∧ (x.1 = 1 ∨ x.1 = 3 ∨ x.1 = 4 → x.2.1 < nL g) ∧ x.2.2.2.2.2.length ≤ x.2.2.1 ∧ x.2.2.1 ≤ 1000000 ∧ (x.1 = 0 → x.2.1 = 0 ∧ x.2.2.1 = 0 ∧ x.2.2.2.2.2 = [])
theorem HMo.pmo {g : PGr} {x : PM} (h : HMo g x) : PMo g 0 x := ⟨h.1, h.2.1, fun z => h.2.2.1 (by omega), h.2.2.2.1, fun z => absurd z (by decide)⟩
theorem HMo.runZ {g : PGr} {be : Nat → Int32} {k : Nat} {x : PM} (h : HMo g x) : HMo g (runH g be k x) := by
  by_cases h1 : x.1 = 1
  · have hP := PMo.itZ (be := be) (min k (1000000 - x.2.2.1)) x h.pmo
    have hk := it_k (g := g) (be := be) (wy := 0) (min k (1000000 - x.2.2.1)) x
    have hx := h.2.2.2.2.1
    have s1 : ∀ (n : Nat) (y : PM), y.1 = 1 ∨ y.1 = 2 ∨ y.1 = 3 → (itG g be 0 n y).1 = 1 ∨ (itG g be 0 n y).1 = 2 ∨ (itG g be 0 n y).1 = 3 := by
      intro n
      induction n with
      | zero => intro y hy; exact hy
      | succ n ih =>
        intro y hy
        refine ih _ ?_
        by_cases z : y.1 = 1
        · by_cases w : hol be 0 y
          · rw [stp_hol z w]; exact Or.inr (Or.inr rfl)
          · rw [stp_wrk z w]
            show (if _ then 2 else 1) = 1 ∨ (if _ then 2 else 1) = 2 ∨ _
            split
            · exact Or.inr (Or.inl rfl)
            · exact Or.inl rfl
        · rw [stp_off z]; exact hy
    have hs := s1 (min k (1000000 - x.2.2.1)) x (Or.inl h1)
    unfold runH
    generalize itG g be 0 (min k (1000000 - x.2.2.1)) x = y at hP hk hs ⊢
    by_cases z : y.1 = 1 ∧ 1000000 ≤ y.2.2.1
    · rw [if_pos z]
      exact ⟨Nat.le_refl 4, hP.2.1, fun _ => hP.2.2.1 (Or.inl z.1), hP.2.2.2.1, (by show y.2.2.1 ≤ 1000000; omega), fun q => absurd q (by show ¬ (4 : Nat) = 0; decide)⟩
    · rw [if_neg z]
      exact ⟨hP.1, hP.2.1, fun q => hP.2.2.1 (by have q : y.1 = 1 ∨ y.1 = 3 ∨ y.1 = 4 := q; omega), hP.2.2.2.1, (by show y.2.2.1 ≤ 1000000; omega), fun q => by have q : y.1 = 0 := q; omega⟩
  · have e := it_off (g := g) (be := be) (wy := 0) (min k (1000000 - x.2.2.1)) h1
    unfold runH
    rw [e, if_neg (fun q => h1 q.1)]
    exact h
section HC9
variable {g : PGr} {x : PM} {cl : Nat} {pst pce pgi pln : Int32} {be co to gc le gr ac sq tg fr mi en cd : Nat → Int32} {sf tf : Nat → Nat} {st tw : Nat → Int32}
/-- the class's hand, a mark of the class's -/
def CH9 (g : PGr) (x : PM) (s n k u : Int32) (wo ce ke : Nat → Int32) : Prop := s = nI x.1 ∧ n = nI x.2.1 ∧ k = nI x.2.2.1 ∧ u = nI x.2.2.2.2.2.length ∧ AGn 16 x.2.2.2.1 wo ∧ (¬ x.1 = 0 → AGn (nC g) x.2.2.2.2.1 ce) ∧ KE9 200 x.2.2.2.2.2 ke
theorem CH9.cm {s n k u : Int32} {wo ce ke : Nat → Int32} (h : CH9 g x s n k u wo ce ke) (h0 : ¬ x.1 = 0) : CM9 g 200 x s n k u wo ce ke := ⟨h.1, h.2.1, h.2.2.1, h.2.2.2.1, h.2.2.2.2.1, h.2.2.2.2.2.1 h0, h.2.2.2.2.2.2⟩
theorem sq1_go_off {M : Nat} {wy kn : Nat} {w s n k u pl : Int32} {wo ce ke sk : Nat → Int32} {Φ : PSq} (hs : s = nI x.1) (h4 : x.1 ≤ 4) (h1 : ¬ x.1 = 1) (h : Φ 0 s n k u wo ce ke sk) : wl_X1_go w st tw pl be ac tg fr mi en cd kn cl (nI M) s n k u wo ce ke sk Φ := by
  have q1 : ¬ s = 1 := fun q => h1 ((nI_eq (b := 1) (by omega) (by decide)).mp (hs.symm.trans q))
  intro m
  cases m with
  | zero => trivial
  | succ m =>
    show bl_X1_go_4 _ _ _ _ _ _ _ _ _ _ _ _ _ _ _ _ _ _ _ _ _ _ _ _ _ _
    unfold bl_X1_go_4
    refine ⟨fun _ => h, fun _ => ?_⟩
    unfold wl_X1_step wl_X1_fallIfHole
    exact ⟨fun _ => ⟨fun _ => ⟨fun _ => h, fun z => absurd rfl z⟩, fun z => absurd z q1⟩, fun z => absurd z q1⟩
theorem sq7_run {xs s n k u : Int32} {wo ce ke sk : Nat → Int32} {Φ : PSq} (hQ : PQ9 g pst pce pgi pln be co to gc le gr ac sq tg fr mi en cl cd) (hG : GK9 g) (hL : LYo g sf tf) (hc : CLs g sf tf st tw) (hP : HMo g x) (hM : CH9 g x s n k u wo ce ke)
    (h0 : ¬ (∃ j, j ≤ 1000000 ∧ xs = nI j) → Φ (-1) s n k u wo ce ke sk)
    (h1 : ∀ j, j ≤ 1000000 → xs = nI j → ∀ s' n' k' u' wo' ce' ke' sk', CH9 g (runH g (brG g sf tf) j x) s' n' k' u' wo' ce' ke' → Φ (nI ((runH g (brG g sf tf) j x).2.2.1 - x.2.2.1)) s' n' k' u' wo' ce' ke' sk') : wl_X7_run 0 st tw pln be ac tg fr mi en cd cl xs s n k u wo ce ke sk Φ := by
  have hx := hP.2.2.2.2.1
  have h4 := hP.1
  unfold wl_X7_run
  refine ⟨fun z => h0 (fun q => ?_), fun z => ⟨fun z2 => ?_, fun z2 => h0 (fun q => ?_)⟩⟩
  · obtain ⟨j, hj, e⟩ := q
    rw [e] at z
    exact nI_pos (by omega) z
  · obtain ⟨j, hj, ej⟩ := nI_of2 (M := 1000000) (n := 1000000) (by decide) z z2
    have em : (if ((1000000 : Int32) - k) < xs then ((1000000 : Int32) - k) else xs) = nI (min j (1000000 - x.2.2.1)) := by
      rw [hM.2.2.1, ej, show (1000000 : Int32) = nI 1000000 from rfl, pk_sub hx, if_min (by omega) (by omega), Nat.min_comm]
    rw [em]
    have h9 := h1 j hj ej
    by_cases hs : x.1 = 1
    · refine sq1_go (wy := 0) hQ hG hL hc hP.pmo (by decide) (hM.cm (by omega)) (by omega) (by decide) (fun s' n' k' u' wo' ce' ke' sk' hM' => ?_)
      have hk := it_k (g := g) (be := brG g sf tf) (wy := 0) (min j (1000000 - x.2.2.1)) x
      have hP' := PMo.itZ (be := brG g sf tf) (min j (1000000 - x.2.2.1)) x hP.pmo
      unfold runH at h9
      generalize itG g (brG g sf tf) 0 (min j (1000000 - x.2.2.1)) x = y at hM' hk hP' h9 ⊢
      obtain ⟨m1, m2, m3, m4, m5, m6, m7⟩ := hM'
      have q1 : s' = 1 ↔ y.1 = 1 := by rw [m1]; exact nI_eq (b := 1) (by have := hP'.1; omega) (by decide)
      have q2 : k' < 1000000 ↔ y.2.2.1 < 1000000 := by rw [m3]; exact nI_ltI (b := 1000000) (by omega) (by decide)
      rw [q1, q2]
      refine ⟨fun z3 => ?_, fun z3 => ⟨fun z4 => ?_, fun z4 => ?_⟩⟩
      · have := h9 s' n' k' u' wo' ce' ke' sk' (by rw [if_neg (fun q => z3 q.1)]; exact ⟨m1, m2, m3, m4, m5, fun _ => m6, m7⟩)
        exact this
      · have := h9 s' n' k' u' wo' ce' ke' sk' (by rw [if_neg (fun q => by omega)]; exact ⟨m1, m2, m3, m4, m5, fun _ => m6, m7⟩)
        exact this
      · have := h9 4 n' k' u' wo' ce' ke' sk' (by rw [if_pos ⟨z3, by omega⟩]; exact ⟨rfl, m2, m3, m4, m5, fun _ => m6, m7⟩)
        exact this
    · have e := it_off (g := g) (be := brG g sf tf) (wy := 0) (min j (1000000 - x.2.2.1)) hs
      have er : runH g (brG g sf tf) j x = x := by
        unfold runH
        rw [e, if_neg (fun q => hs q.1)]
      rw [er, Nat.sub_self] at h9
      refine sq1_go_off (wy := 0) hM.1 h4 hs ⟨fun _ => h9 _ _ _ _ _ _ _ _ hM, fun q => absurd ((nI_eq (b := 1) (by omega) (by decide)).mp (hM.1.symm.trans q)) hs⟩
  · obtain ⟨j, hj, e⟩ := q
    rw [e] at z2
    exact z2 ((nI_leI (b := 1000000) (by omega) (by decide)).mpr hj)
end HC9
section HR9
variable {g : PGr} {x : PM} {p : Nat} {st ce ip ln be co ca ic il im ac aC ls tw lf lt cd : Nat → Int32} {sf tf : Nat → Nat}
/-- the reference's hand -/
def RH9 (g : PGr) (x : PM) (s n k u : Int32) (hc wo hs : Nat → Int32) : Prop := s = nI x.1 ∧ (x.1 = 1 ∨ x.1 = 3 ∨ x.1 = 4 → n = nI x.2.1) ∧ (¬ x.1 = 0 → k = nI x.2.2.1 ∧ u = nI x.2.2.2.2.2.length ∧ AGn (nC g) x.2.2.2.2.1 hc ∧ KE9 200 x.2.2.2.2.2 hs) ∧ AGn 16 x.2.2.2.1 wo
def clr (x : PM) : PM := (x.1, x.2.1, x.2.2.1, x.2.2.2.1, x.2.2.2.2.1, [])
theorem wrk_clr {wy : Nat} : wrk g wy (clr x) = ((wrk g wy x).1, (wrk g wy x).2.1, (wrk g wy x).2.2.1, (wrk g wy x).2.2.2.1, (wrk g wy x).2.2.2.2.1, if (lnG g x.2.1).1 = 1 then [oneG g wy x] else []) := rfl
theorem sq8_takesUp {n a0 w0 n0 e0 f0 : Int32} {hc wo he we : Nat → Int32} {Φ : Int32 → Int32 → Int32 → Int32 → Int32 → (Nat → Int32) → (Nat → Int32) → Prop} (h : ∀ he' we', AGn 6 hc he' → AGn 16 wo we' → Φ 0 0 n 0 0 he' we') : wl_X8_takesUp n hc wo a0 w0 n0 e0 f0 he we Φ := by
  have k56 : ∀ (m k : Nat) (he we : Nat → Int32), k ≤ 16 → AGn 6 hc he → AGn k wo we → ll_X8_takesUp_56 n hc wo Φ m 0 0 n 0 0 he we (nI k) := by
    intro m
    induction m with
    | zero => intros; trivial
    | succ m ih =>
      intro k he we hk h1 h2
      show bl_X8_takesUp_56 _ _ _ _ _ _ _ _ _ _ _ _ _
      unfold bl_X8_takesUp_56
      have q : (16 : Int32) ≤ nI k ↔ 16 ≤ k := nI_leI (a := 16) (by decide) (by omega)
      rw [q, nI_clamp (n := k) (by omega), nI_1]
      refine ⟨fun z => h he we h1 (fun j hj => h2 j (by omega)), fun z _ _ => ih (k + 1) _ _ (by omega) h1 (fun j hj => ?_)⟩
      by_cases e : j = k
      · rw [e, pk_us]
      · rw [pk_un e]; exact h2 j (by omega)
  have k30 : ∀ (m k : Nat) (he : Nat → Int32), k ≤ 6 → AGn k hc he → ll_X8_takesUp_30 n hc wo Φ m 0 0 n 0 0 he we (nI k) := by
    intro m
    induction m with
    | zero => intros; trivial
    | succ m ih =>
      intro k he hk h1
      show bl_X8_takesUp_30 _ _ _ _ _ _ _ _ _ _ _ _ _
      unfold bl_X8_takesUp_30
      have q : (6 : Int32) ≤ nI k ↔ 6 ≤ k := nI_leI (a := 6) (by decide) (by omega)
      rw [q, nI_clamp (n := k) (by omega), nI_1]
      refine ⟨fun z m => k56 m 0 he we (Nat.zero_le _) (fun j hj => h1 j (by omega)) (fun j hj => absurd hj (Nat.not_lt_zero _)), fun z _ _ => ih (k + 1) _ (by omega) (fun j hj => ?_)⟩
      by_cases e : j = k
      · rw [e, pk_us]
      · rw [pk_un e]; exact h1 j (by omega)
  exact fun m => k30 m 0 he (Nat.zero_le _) (fun j hj => absurd hj (Nat.not_lt_zero _))
theorem sq8_run {xs th at_ way nx e f wr s n k u : Int32} {k1 k2 k3 k4 k5 k6 k7 k8 k9 vo he we sr hc wo hs : Nat → Int32} {Φ : PRn} (hG : GK9 g) (hR : RP8 0 g st ce ip ln be co ca ic il im ac aC lf lt cd) (hY : YB 0 (nL g) sf tf ls tw) (hLy : LYo g sf tf) (hP : HMo g x) (hM : RH9 g x s n k u hc wo hs)
    (h0 : ¬ (∃ j, j ≤ 1000000 ∧ xs = nI j) → ∀ at_ way nx e f wr k1 k2 k3 k4 k5 k6 k7 k8 k9 vo he we sr, Φ (-1) 0 at_ way nx e f wr s n k u k1 k2 k3 k4 k5 k6 k7 k8 k9 vo he we sr hc wo hs)
    (h1 : ∀ j, j ≤ 1000000 → xs = nI j → ∀ at_ way nx e f wr s' n' k' u' k1 k2 k3 k4 k5 k6 k7 k8 k9 vo he we sr hc' wo' hs', RH9 g (runH g (brG g sf tf) j x) s' n' k' u' hc' wo' hs' → Φ (nI ((runH g (brG g sf tf) j x).2.2.1 - x.2.2.1)) 0 at_ way nx e f wr s' n' k' u' k1 k2 k3 k4 k5 k6 k7 k8 k9 vo he we sr hc' wo' hs') : wl_X8_run ln be ac aC ls tw lf lt cd xs th at_ way nx e f wr s n k u k1 k2 k3 k4 k5 k6 k7 k8 k9 vo he we sr hc wo hs Φ := by
  have hx := hP.2.2.2.2.1
  have h4 := hP.1
  have h6 : nC g ≤ 6 := hG.2.2.1
  obtain ⟨r1, r2, r3, r4⟩ := hM
  unfold wl_X8_run
  refine ⟨fun z => ⟨fun y => absurd rfl y, fun _ => h0 (fun q => ?_) _ _ _ _ _ _ _ _ _ _ _ _ _ _ _ _ _ _ _⟩, fun z => ⟨fun z2 => ⟨fun y => absurd rfl y, fun _ => h0 (fun q => ?_) _ _ _ _ _ _ _ _ _ _ _ _ _ _ _ _ _ _ _⟩, fun z2 => ⟨fun _ => ?_, fun y => absurd y (by decide)⟩⟩⟩
  · obtain ⟨j, hj, e⟩ := q
    rw [e] at z
    exact nI_pos (by omega) z
  · obtain ⟨j, hj, e⟩ := q
    rw [e] at z2
    exact absurd ((nI_ltI (a := 1000000) (by decide) (by omega)).mp z2) (by omega)
  obtain ⟨j, hj, ej⟩ := nI_of2 (M := 1000000) (n := 1000000) (by decide) z (Int32.not_lt.mp z2)
  have h9 := h1 j hj ej
  have qs : s = 1 ↔ x.1 = 1 := by rw [r1]; exact nI_eq (b := 1) (by omega) (by decide)
  rw [qs]
  refine ⟨fun hs1 => ?_, fun hs1 => ?_⟩
  rotate_left
  · have e := it_off (g := g) (be := brG g sf tf) (wy := 0) (min j (1000000 - x.2.2.1)) hs1
    have er : runH g (brG g sf tf) j x = x := by
      unfold runH
      rw [e, if_neg (fun q => hs1 q.1)]
    rw [er, Nat.sub_self] at h9
    exact h9 _ _ _ _ _ _ _ _ _ _ _ _ _ _ _ _ _ _ _ _ _ _ _ _ _ _ ⟨r1, r2, r3, r4⟩
  obtain ⟨r31, r32, r33, r34⟩ := r3 (by omega)
  have rn := r2 (Or.inl hs1)
  refine sq8_takesUp (fun he0 we0 hhe hwe => ?_)
  -- the end: all is put back
  have k143 : ∀ (i : Nat) (y : PM) (nx e f wr s n k u : Int32) (k1 k2 k3 k4 k5 k6 k7 k8 k9 vo he we sr hc wo hs : Nat → Int32), y = itG g (brG g sf tf) 0 (min j (1000000 - x.2.2.1)) x → y.2.2.1 = x.2.2.1 + i → y.2.2.1 ≤ 1000000 → (y.1 = 1 ∨ y.1 = 2 ∨ y.1 = 3) → RM9 g (clr y) nx e f 0 he we sr → k = nI y.2.2.1 → u = nI y.2.2.2.2.2.length → KE9 200 y.2.2.2.2.2 hs → kl_X8_run_143 ln be ac aC ls tw lf lt cd xs Φ 0 0 0 nx e f wr s n k u k1 k2 k3 k4 k5 k6 k7 k8 k9 vo he we sr hc wo hs (nI i) := by
    intro i y nx e f wr s n k u k1 k2 k3 k4 k5 k6 k7 k8 k9 vo he we sr hc wo hs ey hk hk2 hy3 hm ek eu hke
    have e12 := hm.e0
    obtain ⟨m1, m2, m3, m4, m5, m6, m7⟩ := hm
    have tail : ∀ (s2 : Nat), s2 = (if y.1 = 1 ∧ 1000000 ≤ y.2.2.1 then 4 else y.1) → ∀ m, ll_X8_run_194 ln be ac aC ls tw lf lt cd xs Φ m 0 0 0 nx e f wr (nI s2) nx k u k1 k2 k3 k4 k5 k6 k7 k8 k9 vo he we sr hc wo hs (nI i) 0 := by
      intro s2 es2
      have fin : ∀ hc' wo', AGn 6 he hc' → AGn 16 we wo' → Φ (nI i) 0 0 0 nx e f wr (nI s2) nx k u k1 k2 k3 k4 k5 k6 k7 k8 k9 vo he we sr hc' wo' hs := by
        intro hc' wo' g1 g2
        have er : runH g (brG g sf tf) j x = (s2, y.2) := by
          unfold runH
          rw [← ey, ← es2]
        rw [er] at h9
        have h9 := h9 0 0 nx e f wr (nI s2) nx k u k1 k2 k3 k4 k5 k6 k7 k8 k9 vo he we sr hc' wo' hs ⟨rfl, fun q => m3 ?_, fun q => ⟨ek, eu, fun l hl => (g1 l (by omega)).trans (m5 l hl), hke⟩, fun l hl => (g2 l hl).trans (m6 l hl)⟩
        · have en : (s2, y.2).2.2.1 - x.2.2.1 = i := by show y.2.2.1 - x.2.2.1 = i; omega
          rw [en] at h9
          exact h9
        · have q : s2 = 1 ∨ s2 = 3 ∨ s2 = 4 := q
          show ¬ y.1 = 2
          intro q2
          rw [if_neg (by omega)] at es2
          omega
      have k220 : ∀ (m l : Nat) (hc' wo' : Nat → Int32), l ≤ 16 → AGn 6 he hc' → AGn l we wo' → ll_X8_run_220 ln be ac aC ls tw lf lt cd xs Φ m 0 0 0 nx e f wr (nI s2) nx k u k1 k2 k3 k4 k5 k6 k7 k8 k9 vo he we sr hc' wo' hs (nI i) (nI l) := by
        intro m
        induction m with
        | zero => intros; trivial
        | succ m ih =>
          intro l hc' wo' hl g1 g2
          show bl_X8_run_220 _ _ _ _ _ _ _ _ _ _ _ _ _ _ _ _ _ _ _ _ _ _ _ _ _ _ _ _ _ _ _ _ _ _ _ _ _ _ _ _ _
          unfold bl_X8_run_220
          have q : (16 : Int32) ≤ nI l ↔ 16 ≤ l := nI_leI (a := 16) (by decide) (by omega)
          rw [q, nI_clamp (n := l) (by omega), nI_1]
          refine ⟨fun z => fin _ _ g1 (fun t ht => g2 t (by omega)), fun z _ _ => ih (l + 1) _ _ (by omega) g1 (fun t ht => ?_)⟩
          by_cases e : t = l
          · rw [e, pk_us]
          · rw [pk_un e]; exact g2 t (by omega)
      have k194 : ∀ (m l : Nat) (hc' : Nat → Int32), l ≤ 6 → AGn l he hc' → ll_X8_run_194 ln be ac aC ls tw lf lt cd xs Φ m 0 0 0 nx e f wr (nI s2) nx k u k1 k2 k3 k4 k5 k6 k7 k8 k9 vo he we sr hc' wo hs (nI i) (nI l) := by
        intro m
        induction m with
        | zero => intros; trivial
        | succ m ih =>
          intro l hc' hl g1
          show bl_X8_run_194 _ _ _ _ _ _ _ _ _ _ _ _ _ _ _ _ _ _ _ _ _ _ _ _ _ _ _ _ _ _ _ _ _ _ _ _ _ _ _ _ _
          unfold bl_X8_run_194
          have q : (6 : Int32) ≤ nI l ↔ 6 ≤ l := nI_leI (a := 6) (by decide) (by omega)
          rw [q, nI_clamp (n := l) (by omega), nI_1]
          refine ⟨fun z m => k220 m 0 _ _ (Nat.zero_le _) (fun t ht => g1 t (by omega)) (fun t ht => absurd ht (Nat.not_lt_zero _)), fun z _ _ => ih (l + 1) _ (by omega) (fun t ht => ?_)⟩
          by_cases e : t = l
          · rw [e, pk_us]
          · rw [pk_un e]; exact g1 t (by omega)
      exact fun m => k194 m 0 hc (Nat.zero_le _) (fun t ht => absurd ht (Nat.not_lt_zero _))
    have qk : k = 1000000 ↔ y.2.2.1 = 1000000 := by rw [ek]; exact nI_eq (b := 1000000) (by omega) (by decide)
    have c1 : (clr y).1 = y.1 := rfl
    rw [c1] at e12
    unfold kl_X8_run_143
    rw [qk]
    refine ⟨fun ze => ⟨fun zf => ⟨fun zk => tail 1 ?_, fun zk => tail 4 ?_⟩, fun zf => tail 3 ?_⟩, fun ze => tail 2 ?_⟩
    · have := e12.1.mp ze; have := e12.2.mp zf
      rw [if_neg (by omega)]; omega
    · have := e12.1.mp ze; have := e12.2.mp zf
      rw [if_pos (by omega)]
    · have : y.1 = 3 := by
        by_cases q : y.1 = 3
        · exact q
        · exact absurd (e12.2.mpr q) zf
      rw [if_neg (by omega)]; omega
    · have : y.1 = 2 := by
        by_cases q : y.1 = 2
        · exact q
        · exact absurd (e12.1.mpr q) ze
      rw [if_neg (by omega)]; omega
  have key : ∀ (m i : Nat) (nx e f wr k u : Int32) (k1 k2 k3 k4 k5 k6 k7 k8 k9 vo he we sr hs : Nat → Int32), i ≤ min j (1000000 - x.2.2.1) → (itG g (brG g sf tf) 0 i x).2.2.1 = x.2.2.1 + i → ((itG g (brG g sf tf) 0 i x).1 = 1 ∨ (itG g (brG g sf tf) 0 i x).1 = 2) → RM9 g (clr (itG g (brG g sf tf) 0 i x)) nx e f 0 he we sr → k = nI (itG g (brG g sf tf) 0 i x).2.2.1 → u = nI (itG g (brG g sf tf) 0 i x).2.2.2.2.2.length → KE9 200 (itG g (brG g sf tf) 0 i x).2.2.2.2.2 hs → ll_X8_run_34 ln be ac aC ls tw lf lt cd xs Φ m 0 0 0 nx e f wr s n k u k1 k2 k3 k4 k5 k6 k7 k8 k9 vo he we sr hc wo hs (nI i) := by
    intro m
    induction m with
    | zero => intros; trivial
    | succ m ih =>
      intro i nx e f wr k u k1 k2 k3 k4 k5 k6 k7 k8 k9 vo he we sr hs hi hk hy hm ek eu hke
      have hPy : PMo g 0 (itG g (brG g sf tf) 0 i x) := PMo.itZ i x hP.pmo
      have eit1 := it_one (g := g) (be := brG g sf tf) (wy := 0) (x := x) i
      have eM : ∀ i', i' ≤ min j (1000000 - x.2.2.1) → ¬ (itG g (brG g sf tf) 0 i' x).1 = 1 → itG g (brG g sf tf) 0 i' x = itG g (brG g sf tf) 0 (min j (1000000 - x.2.2.1)) x := by
        intro i' hi' hn
        have := it_add (g := g) (be := brG g sf tf) (wy := 0) i' (min j (1000000 - x.2.2.1) - i') x
        rw [show i' + (min j (1000000 - x.2.2.1) - i') = min j (1000000 - x.2.2.1) by omega, it_off _ hn] at this
        exact this.symm
      have eM0 : i = min j (1000000 - x.2.2.1) → itG g (brG g sf tf) 0 i x = itG g (brG g sf tf) 0 (min j (1000000 - x.2.2.1)) x := fun q => by rw [← q]
      have eM1 := eM i hi
      have eM2 := eM (i + 1)
      rw [eit1] at eM2
      have ihh := ih (i + 1)
      rw [eit1] at ihh
      generalize itG g (brG g sf tf) 0 i x = y at hk hy hm ek eu hke hPy eM0 eM1 eM2 ihh
      have e12 := hm.e0
      have c1 : (clr y).1 = y.1 := rfl
      rw [c1] at e12
      show bl_X8_run_34 _ _ _ _ _ _ _ _ _ _ _ _ _ _ _ _ _ _ _ _ _ _ _ _ _ _ _ _ _ _ _ _ _ _ _ _ _ _ _ _
      unfold bl_X8_run_34
      have qi : xs ≤ nI i ↔ j ≤ i := by rw [ej]; exact nI_leI (by omega) (by omega)
      have qk : (1000000 : Int32) ≤ k ↔ 1000000 ≤ y.2.2.1 := by rw [ek]; exact nI_leI (a := 1000000) (by decide) (by omega)
      rw [qi, qk]
      have out : (¬ y.1 = 1 ∨ i = min j (1000000 - x.2.2.1)) → kl_X8_run_143 ln be ac aC ls tw lf lt cd xs Φ 0 0 0 nx e f wr s n k u k1 k2 k3 k4 k5 k6 k7 k8 k9 vo he we sr hc wo hs (nI i) := fun q => k143 i y nx e f wr s n k u _ _ _ _ _ _ _ _ _ _ he we sr hc wo hs (q.elim eM1 eM0) hk (by omega) (by omega) hm ek eu hke
      refine ⟨fun q => out (Or.inr (by omega)), fun q => ⟨fun ze => out (Or.inl (fun y1 => ze (e12.1.mpr (by omega)))), fun ze => ⟨fun zf => out (Or.inl (fun y1 => zf (e12.2.mpr (by omega)))), fun zf => ⟨fun q2 => out (Or.inr (by omega)), fun q2 => ?_⟩⟩⟩⟩
      have hy1 : y.1 = 1 := hy.resolve_right (e12.1.mp ze)
      have hN := hPy.2.2.1 (Or.inl hy1)
      have hstp : stp g (brG g sf tf) 0 y = if hol (brG g sf tf) 0 y then (3, y.2) else wrk g 0 y := if_pos hy1
      refine sq8_stepsOn (p := 0) (wy := 0) (x := clr y) hG (by decide) hR hY hLy (by decide) hN hy1 hm (by show ([] : List Int32).length < _; decide) (fun nx' e' f' wr' b1 b2 b3 b4 b5 b6 b7 b8 b9 vo' he' we' sr' hM' => ?_)
      have f12 := hM'.e0
      by_cases ho : hol (brG g sf tf) 0 y
      · have es : stp g (brG g sf tf) 0 (clr y) = (3, (clr y).2) := stp_hol (x := clr y) hy1 ho
        rw [es] at hM' f12
        rw [if_pos ho] at hstp
        refine ⟨fun q => absurd rfl (f12.2.mp q), fun _ => ?_⟩
        rw [hstp] at eM2
        exact k143 i (3, y.2) nx' e' f' wr' s n k u _ _ _ _ _ _ _ _ _ _ he' we' sr' hc wo hs (eM2 (by omega) (by show ¬ (3 : Nat) = 1; decide)) hk (by show y.2.2.1 ≤ _; omega) (Or.inr (Or.inr rfl)) ⟨hM'.1, hM'.2.1, hM'.2.2.1, rfl, hM'.2.2.2.2.1, hM'.2.2.2.2.2.1, KE9.nil⟩ ek eu hke
      · have es : stp g (brG g sf tf) 0 (clr y) = wrk g 0 (clr y) := stp_wrk (x := clr y) hy1 ho
        rw [es] at hM' f12
        rw [if_neg ho] at hstp
        rw [hstp] at ihh
        obtain ⟨m1, m2, m3, m4, m5, m6, m7⟩ := hM'
        have hw2 : (wrk g 0 y).1 = 1 ∨ (wrk g 0 y).1 = 2 := by
          show (if _ then 2 else 1) = 1 ∨ (if _ then 2 else 1) = 2
          split
          · exact Or.inr rfl
          · exact Or.inl rfl
        have n3 : ¬ (wrk g 0 (clr y)).1 = 3 := by
          show ¬ (wrk g 0 y).1 = 3
          omega
        have hrm : RM9 g (clr (wrk g 0 y)) nx' e' f' 0 he' we' sr' := ⟨m1, m2, m3, rfl, m5, m6, KE9.nil⟩
        have hkk : (wrk g 0 y).2.2.1 = x.2.2.1 + (i + 1) := by show y.2.2.1 + 1 = _; omega
        have ekk : k + 1 = nI (wrk g 0 y).2.2.1 := by rw [ek, nI_1]; rfl
        refine ⟨fun _ => ?_, fun q => absurd (f12.2.mpr n3) q⟩
        rw [nI_1]
        by_cases ha : (lnG g y.2.1).1 = 1
        · have ewr : wrG g 0 y = y.2.2.2.2.2 ++ [oneG g 0 y] := by unfold wrG; rw [if_pos ha]
          have ewc : wrG g 0 (clr y) = [oneG g 0 y] := by
            show (if (lnG g y.2.1).1 = 1 then [oneG g 0 y] else []) = _
            rw [if_pos ha]
          have m4 : wr' = nI (wrG g 0 (clr y)).length := m4
          have m7 : KE9 1001 (wrG g 0 (clr y)) sr' := m7
          rw [ewc] at m4 m7
          have e0 : sr' 0 = oneG g 0 y := m7 0 _ rfl (by decide)
          have lw : (y.2.2.2.2.2 ++ [oneG g 0 y]).length = y.2.2.2.2.2.length + 1 := by rw [List.length_append]; rfl
          have hW : y.2.2.2.2.2.length ≤ 1000000 := by have := hPy.2.2.2.1; omega
          have q200 : (200 : Int32) ≤ u ↔ 200 ≤ y.2.2.2.2.2.length := by rw [eu]; exact nI_leI (a := 200) (by decide) (by omega)
          have euu : u + 1 = nI (wrk g 0 y).2.2.2.2.2.length := by
            show _ = nI (wrG g 0 y).length
            rw [eu, nI_1, ewr, lw]
          rw [q200]
          refine ⟨fun _ => ⟨fun q => ?_, fun q _ => ?_⟩, fun q => absurd (m4.symm.trans q) (by show ¬ nI 1 = 0; decide)⟩
          · exact ihh _ _ _ _ _ _ _ _ _ _ _ _ _ _ _ _ _ _ _ _ (by omega) hkk hw2 hrm ekk euu (by show KE9 200 (wrG g 0 y) _; rw [ewr]; exact hke.full q)
          · refine ihh _ _ _ _ _ _ _ _ _ _ _ _ _ _ _ _ _ _ _ _ (by omega) hkk hw2 hrm ekk euu ?_
            show KE9 200 (wrG g 0 y) _
            rw [ewr, eu, nI_clamp (n := y.2.2.2.2.2.length) (by omega), e0]
            exact hke.push
        · have ewr : wrG g 0 y = y.2.2.2.2.2 := by unfold wrG; rw [if_neg ha]
          have ewc : wrG g 0 (clr y) = [] := by
            show (if (lnG g y.2.1).1 = 1 then [oneG g 0 y] else []) = _
            rw [if_neg ha]
          have m4 : wr' = nI (wrG g 0 (clr y)).length := m4
          rw [ewc] at m4
          refine ⟨fun q => absurd m4 q, fun _ => ?_⟩
          exact ihh _ _ _ _ _ _ _ _ _ _ _ _ _ _ _ _ _ _ _ _ (by omega) hkk hw2 hrm ekk (by show u = nI (wrG g 0 y).length; rw [ewr]; exact eu) (by show KE9 200 (wrG g 0 y) _; rw [ewr]; exact hke)
  refine fun m => key m 0 n 0 0 wr k u _ _ _ _ _ _ _ _ _ _ he0 we0 _ hs (Nat.zero_le _) rfl (Or.inl hs1) ⟨?_, ?_, fun _ => rn, rfl, fun l hl => (hhe l (by omega)).trans (r33 l hl), fun l hl => (hwe l hl).trans (r4 l hl), KE9.nil⟩ r31 r32 r34
  · show (0 : Int32) = if x.1 = 2 then 1 else 0
    rw [if_neg (by omega)]
  · show (0 : Int32) = if x.1 = 3 then 1 else 0
    rw [if_neg (by omega)]
end HR9
end
section
/-- a programme, how it is laid (stuffs, twins), the machine -/
abbrev MS : Type := PGr × (Nat → Nat) × (Nat → Nat) × PM
/-- a number that must be below n -/
def ixO (x : Int32) (n : Nat) : Option Nat := if ¬ x < 0 ∧ ¬ nI n ≤ x then some x.toNatClampNeg else none
theorem ixO_some {x : Int32} {n j : Nat} (hn : n < 2 ^ 31) (h : ixO x n = some j) : j < n ∧ x = nI j := by
  unfold ixO at h
  split at h
  · rename_i z
    obtain ⟨i, h1, h2, _, h4, _⟩ := pk_mu z.1 z.2 hn
    have : j = i := by rw [← Option.some.inj h, h4]
    subst this
    exact ⟨h1, h2⟩
  · cases h
theorem ixO_nI {n j : Nat} (hn : n < 2 ^ 31) (h : j < n) : ixO (nI j) n = some j := by
  unfold ixO
  rw [if_pos ⟨nI_pos (by omega), fun z => by have := (nI_leI (by omega) (by omega)).mp z; omega⟩, nI_clamp (by omega)]
theorem ixO_lt {x : Int32} {n : Nat} (h : x < 0) : ixO x n = none := if_neg (fun q => q.1 h)
theorem ixO_ge {x : Int32} {n : Nat} (h : nI n ≤ x) : ixO x n = none := if_neg (fun q => q.2 h)
theorem ixO_in {x : Int32} {n : Nat} (hn : n < 2 ^ 31) (h0 : ¬ x < 0) (h1 : ¬ nI n ≤ x) : ∃ j, j < n ∧ x = nI j ∧ ixO x n = some j := by
  obtain ⟨j, a, b, _, d, _⟩ := pk_mu h0 h1 hn
  exact ⟨j, a, b, by rw [b]; exact ixO_nI hn a⟩
theorem ixO_no {x : Int32} {n : Nat} (hn : n < 2 ^ 31) (h : ixO x n = none) : ¬ ∃ i, i < n ∧ x = nI i := fun ⟨i, hi, e⟩ => by
  rw [e, ixO_nI hn hi] at h
  cases h
theorem sq7_wi {x : Int32} {n : Nat} {Φ : Int32 → Prop} (hn : n < 2 ^ 31) (h0 : ixO x n = none → Φ 0) (h1 : ∀ j, j < n → x = nI j → ixO x n = some j → Φ 1) : wl_X7_within x (nI n) Φ := ⟨fun z => h0 (ixO_lt z), fun z => ⟨fun y => h0 (ixO_ge y), fun y => by
  obtain ⟨j, a, b, c⟩ := ixO_in hn z y
  exact h1 j a b c⟩⟩
theorem sq8_wi {x : Int32} {m : Nat} {Φ : Int32 → Prop} (hm : m + 1 < 2 ^ 31) (h0 : ixO x (m + 1) = none → Φ 0) (h1 : ∀ j, j < m + 1 → x = nI j → ixO x (m + 1) = some j → Φ 1) : wl_X8_within x 0 (nI m) Φ := ⟨fun z => h0 (ixO_lt z), fun z => ⟨fun y => h0 (by
  by_cases q : nI (m + 1) ≤ x
  · exact ixO_ge q
  · obtain ⟨j, a, b, c⟩ := ixO_in hm z q
    rw [b] at y
    have := (nI_ltI (by omega) (by omega)).mp y
    omega), fun y => by
  by_cases q : nI (m + 1) ≤ x
  · exfalso
    obtain ⟨j, a, b⟩ := nI_of2 (M := nI m) (n := m) (nI_toInt (by omega)) z (Int32.not_lt.mp y)
    rw [b] at q
    have := (nI_leI (by omega) (by omega)).mp q
    omega
  · obtain ⟨j, a, b, c⟩ := ixO_in hm z q
    exact h1 j a b c⟩⟩
theorem wh_ne {y : Int32} {n : Nat} (h : y.toInt < 0 ∨ (n : Int) < y.toInt) {j : Nat} (hj : j ≤ n) (hn : n < 1000) : ¬ y = nI j := fun e => by
  rw [e, nI_toInt (by omega)] at h
  omega
def f_stuff (m : MS) (x y : Int32) : Int32 := match ixO x (nS m.1) with
  | none => -1
  | some s => if y = 0 then nI (beS m.1 s) else if y = 1 then nI (coS m.1 s) else -1
def f_line (m : MS) (x y : Int32) : Int32 := match ixO x (nL m.1) with
  | none => -1
  | some l => if y = 0 then nI (lnG m.1 l).1 else if y = 1 then nI (m.2.1 l) else if y = 2 then nI (m.2.2.1 l) else if y = 3 then brG m.1 m.2.1 m.2.2.1 l else if y = 4 then m.2.2.2.2.2.2.1 l else -1
def layO (m : MS) (x y z : Int32) : Option (Nat × Nat × Nat) := match ixO x (nL m.1), ixO y (nS m.1), ixO z 5 with
  | some l, some s, some t => if t = 0 then none else some (l, s, t)
  | _, _, _ => none
def f_lay (m : MS) (x y z : Int32) : Int32 := match layO m x y z with
  | some _ => 1
  | none => 0
def s_lay (m : MS) (x y z : Int32) : MS := match layO m x y z with
  | some q => (m.1, updN m.2.1 q.1 q.2.1, updN m.2.2.1 q.1 q.2.2, m.2.2.2.1, m.2.2.2.2.1, m.2.2.2.2.2.1, upd m.2.2.2.2.2.2.1 q.1 0, m.2.2.2.2.2.2.2)
  | none => m
def csG (g : PGr) (sf tf : Nat → Nat) : Nat → Int32
  | 0 => 0
  | n + 1 => csG g sf tf n + nI (coS g (sf n)) * nI (tf n)
def f_cost (m : MS) : Int32 := csG m.1 m.2.1 m.2.2.1 (nL m.1)
def f_inputs (m : MS) : Int32 := nI (inN m.1)
def f_input (m : MS) (x y : Int32) : Int32 := match ixO x (inN m.1), ixO y (nC m.1) with
  | some i, some c => nI (inpG m.1 i c)
  | _, _ => -1
/-- an input that can be walked -/
def inQ (g : PGr) (x : Int32) : Option Nat := if 0 < nL g then ixO x (inN g) else none
def f_begin (m : MS) (x : Int32) : Int32 := match inQ m.1 x with
  | some _ => 1
  | none => 0
def s_begin (m : MS) (x : Int32) : MS := match inQ m.1 x with
  | some i => (m.1, m.2.1, m.2.2.1, bgG m.1 i m.2.2.2.2.2.2.1)
  | none => m
def f_run (m : MS) (x : Int32) : Int32 := match ixO x 1000001 with
  | some j => nI ((runH m.1 (brG m.1 m.2.1 m.2.2.1) j m.2.2.2).2.2.1 - m.2.2.2.2.2.1)
  | none => -1
def s_run (m : MS) (x : Int32) : MS := match ixO x 1000001 with
  | some j => (m.1, m.2.1, m.2.2.1, runH m.1 (brG m.1 m.2.1 m.2.2.1) j m.2.2.2)
  | none => m
def f_state (m : MS) (y : Int32) : Int32 := if y = 0 then nI m.2.2.2.1 else if y = 1 then (if m.2.2.2.1 = 0 ∨ m.2.2.2.1 = 2 then -1 else nI m.2.2.2.2.1) else if y = 2 then nI m.2.2.2.2.2.1 else if y = 3 then nI m.2.2.2.2.2.2.2.2.length else -1
def s_fresh (m : MS) : MS := (m.1, m.2.1, m.2.2.1, m.2.2.2.1, m.2.2.2.2.1, m.2.2.2.2.2.1, fun _ => 0, m.2.2.2.2.2.2.2)
def rn0 (m : MS) (i : Nat) : PM := rnG m.1 (brG m.1 m.2.1 m.2.2.1) 0 (bgG m.1 i (fun _ => 0))
def f_steps (m : MS) (x : Int32) : Int32 := match inQ m.1 x with
  | some i => if (rn0 m i).1 = 1 then -1 else nI (rn0 m i).2.2.1
  | none => -1
def f_falls (m : MS) (x : Int32) : Int32 := match inQ m.1 x with
  | some i => if (rn0 m i).1 = 3 then nI (rn0 m i).2.1 else -1
  | none => -1
def f_count (n : Nat) (m : MS) (y : Int32) : Int32 := if y = 0 then nI (nS m.1) else if y = 1 then nI (nC m.1) else if y = 2 then nI m.1.2.2.1.length else if y = 3 then nI (nL m.1) else if y = 4 then nI n else -1
/-- what may be trusted of a programme, its laying, its machine -/
def MO9 (m : MS) : Prop := GK9 m.1 ∧ LYo m.1 m.2.1 m.2.2.1 ∧ HMo m.1 m.2.2.2
section FC
variable {m : MS} {cl : Nat} {pst pce pgi pln : Int32} {be co to gc le gr ac sq tg fr mi en cd : Nat → Int32} {st tw : Nat → Int32} {s n k u : Int32} {wo ce ke : Nat → Int32}
theorem sq7_stuff {x y : Int32} {Φ : Int32 → Prop} (hQ : PQ9 m.1 pst pce pgi pln be co to gc le gr ac sq tg fr mi en cl cd) (h : Φ (f_stuff m x y)) : wl_X7_stuff pst be co x y Φ := by
  have h4 : nS m.1 ≤ 4 := hQ.1
  have est : pst = nI (nS m.1) := hQ.2.2.2.1
  have hS : SA9 m.1.1 be co := hQ.2.2.2.2.2.2.2.1
  unfold wl_X7_stuff
  rw [est]
  unfold f_stuff at h
  refine sq7_wi (by omega) (fun e => ⟨fun z => absurd rfl z, fun _ => by rw [e] at h; exact h⟩) (fun j hj ex e => ⟨fun _ => ?_, fun z => absurd z (by decide)⟩)
  rw [e] at h
  have h : Φ (if y = 0 then nI (beS m.1 j) else if y = 1 then nI (coS m.1 j) else -1) := h
  rw [ex, nI_clamp (n := j) (by omega), (hS.beZ hj).1, (hS.beZ hj).2]
  refine ⟨fun z _ => ?_, fun z _ => ?_, fun z z2 => ?_⟩
  · rw [if_pos z] at h; exact h
  · rw [z, if_neg (by decide), if_pos rfl] at h; exact h
  · rw [if_neg z, if_neg z2] at h; exact h
theorem sq7_line {x y : Int32} {Φ : Int32 → Prop} (hQ : PQ9 m.1 pst pce pgi pln be co to gc le gr ac sq tg fr mi en cl cd) (hO : MO9 m) (hc : CLs m.1 m.2.1 m.2.2.1 st tw) (hw : AGn 16 m.2.2.2.2.2.2.1 wo) (h : Φ (f_line m x y)) : wl_X7_line st tw wo pln be ac x y Φ := by
  have h16 : nL m.1 ≤ 16 := hQ.2.2.1
  have eln : pln = nI (nL m.1) := hQ.2.2.2.2.2.2.1
  have hS : SA9 m.1.1 be co := hQ.2.2.2.2.2.2.2.1
  have hA : LA9 m.1.2.2.2 ac sq tg fr mi en := hQ.2.2.2.2.2.2.2.2.2.2.1
  unfold wl_X7_line
  rw [eln]
  unfold f_line at h
  refine sq7_wi (by omega) (fun e => ⟨fun z => absurd rfl z, fun _ => by rw [e] at h; exact h⟩) (fun j hj ex e => ⟨fun _ => ?_, fun z => absurd z (by decide)⟩)
  rw [e] at h
  have h : Φ (if y = 0 then nI (lnG m.1 j).1 else if y = 1 then nI (m.2.1 j) else if y = 2 then nI (m.2.2.1 j) else if y = 3 then brG m.1 m.2.1 m.2.2.1 j else if y = 4 then m.2.2.2.2.2.2.1 j else -1) := h
  rw [ex, nI_clamp (n := j) (by omega), (hA.atZ hj).1, (hc j hj).1, (hc j hj).2, hw j (by omega)]
  refine ⟨fun z _ => ?_, fun z _ => ?_, fun z _ => ?_, fun z => ?_, fun z _ => ?_, fun z => ?_⟩
  · rw [if_pos z] at h; exact h
  · rw [z, if_neg (by decide), if_pos rfl] at h; exact h
  · rw [z, if_neg (by decide), if_neg (by decide), if_pos rfl] at h; exact h
  · rw [z, if_neg (by decide), if_neg (by decide), if_neg (by decide), if_pos rfl] at h
    exact sq1_bearing hS hO.1 hO.2.1 hc hj h
  · rw [z, if_neg (by decide), if_neg (by decide), if_neg (by decide), if_neg (by decide), if_pos rfl] at h; exact h
  · have q := fun i hi => wh_ne (n := 4) z (j := i) hi (by decide)
    rw [if_neg (show ¬ y = 0 from q 0 (by decide)), if_neg (show ¬ y = 1 from q 1 (by decide)), if_neg (show ¬ y = 2 from q 2 (by decide)), if_neg (show ¬ y = 3 from q 3 (by decide)), if_neg (show ¬ y = 4 from q 4 (by decide))] at h
    exact h
theorem CLs.layZ {g : PGr} {sf tf : Nat → Nat} {l s t : Nat} (h : CLs g sf tf st tw) : CLs g (updN sf l s) (updN tf l t) (upd st l (nI s)) (upd tw l (nI t)) := by
  intro i hi
  unfold updN
  by_cases e : i = l
  · rw [e, pk_us, pk_us, if_pos rfl, if_pos rfl]; exact ⟨rfl, rfl⟩
  · rw [pk_un e, pk_un e, if_neg e, if_neg e]; exact h i hi
theorem LYo.layZ {g : PGr} {sf tf : Nat → Nat} {l s t : Nat} (h : LYo g sf tf) (hs : s < nS g) (h1 : 1 ≤ t) (h4 : t ≤ 4) : LYo g (updN sf l s) (updN tf l t) := by
  intro i hi
  unfold updN
  by_cases e : i = l
  · rw [if_pos e, if_pos e]; exact ⟨hs, h1, h4⟩
  · rw [if_neg e, if_neg e]; exact h i hi
theorem layO_some {x y z : Int32} {q : Nat × Nat × Nat} (h : layO m x y z = some q) : ixO x (nL m.1) = some q.1 ∧ ixO y (nS m.1) = some q.2.1 ∧ ixO z 5 = some q.2.2 ∧ ¬ q.2.2 = 0 := by
  unfold layO at h
  split at h
  · rename_i l s t e1 e2 e3
    split at h
    · cases h
    · rename_i h0
      rw [← Option.some.inj h]
      exact ⟨e1, e2, e3, h0⟩
  · cases h
theorem MO9.layZ {x y z : Int32} (h : MO9 m) : MO9 (s_lay m x y z) := by
  unfold s_lay
  cases hq : layO m x y z with
  | none => exact h
  | some q =>
    obtain ⟨a, b, c, d⟩ := layO_some hq
    have h4 : nS m.1 ≤ 4 := h.1.1
    have hs := (ixO_some (by omega) b).1
    have ht := (ixO_some (by decide) c).1
    exact ⟨h.1, h.2.1.layZ hs (by omega) (by omega), h.2.2⟩
theorem CH9.woZ {wo2 : Nat → Int32} {g : PGr} {x : PM} {O2 : Nat → Int32} (h : CH9 g x s n k u wo ce ke) (h2 : AGn 16 O2 wo2) : CH9 g (x.1, x.2.1, x.2.2.1, O2, x.2.2.2.2) s n k u wo2 ce ke := ⟨h.1, h.2.1, h.2.2.1, h.2.2.2.1, h2, h.2.2.2.2.2.1, h.2.2.2.2.2.2⟩
theorem sq7_lay {x y z : Int32} {Φ : Int32 → (Nat → Int32) → (Nat → Int32) → (Nat → Int32) → Prop} (hQ : PQ9 m.1 pst pce pgi pln be co to gc le gr ac sq tg fr mi en cl cd) (hc : CLs m.1 m.2.1 m.2.2.1 st tw) (hM : CH9 m.1 m.2.2.2 s n k u wo ce ke) (h : ∀ st' tw' wo', CLs m.1 (s_lay m x y z).2.1 (s_lay m x y z).2.2.1 st' tw' → CH9 m.1 (s_lay m x y z).2.2.2 s n k u wo' ce ke → Φ (f_lay m x y z) st' tw' wo') : wl_X7_lay pst pln x y z st tw wo Φ := by
  have h16 : nL m.1 ≤ 16 := hQ.2.2.1
  have h4 : nS m.1 ≤ 4 := hQ.1
  have eln : pln = nI (nL m.1) := hQ.2.2.2.2.2.2.1
  have est : pst = nI (nS m.1) := hQ.2.2.2.1
  have no : layO m x y z = none → Φ 0 st tw wo := fun e => by
    unfold s_lay f_lay at h
    rw [e] at h
    exact h st tw wo hc hM
  unfold wl_X7_lay
  rw [eln, est]
  refine sq7_wi (by omega) (fun e => ⟨fun _ => no ?_, fun q => absurd rfl q⟩) (fun l hl el e1 => ⟨fun q => absurd q (by decide), fun _ => sq7_wi (by omega) (fun e => ⟨fun _ => no ?_, fun q => absurd rfl q⟩) (fun s hs es e2 => ⟨fun q => absurd q (by decide), fun _ => ⟨fun q => no ?_, fun q => ⟨fun q2 => ?_, fun q2 => no ?_⟩⟩⟩)⟩)
  · unfold layO; rw [e]
  · unfold layO; rw [e1, e]
  · unfold layO
    rw [e1, e2]
    cases e3 : ixO z 5 with
    | none => rfl
    | some t =>
      obtain ⟨h5, et⟩ := ixO_some (by decide) e3
      rw [et] at q
      have : t < 1 := (nI_ltI (b := 1) (by omega) (by decide)).mp q
      show (if t = 0 then none else some (l, s, t)) = none
      rw [if_pos (by omega)]
  · obtain ⟨t, ht, et⟩ := nI_of2 (M := 4) (n := 4) (by decide) (fun q3 => q (Int32.lt_of_lt_of_le q3 (by decide))) q2
    have e3 : ixO z 5 = some t := by rw [et]; exact ixO_nI (by decide) (by omega)
    have t0 : ¬ t = 0 := fun e => by rw [et, e] at q; exact q (by decide)
    have el2 : layO m x y z = some (l, s, t) := by unfold layO; rw [e1, e2, e3]; exact if_neg t0
    unfold s_lay f_lay at h
    rw [el2] at h
    rw [el, es, et, nI_clamp (n := l) (by omega)]
    exact fun _ _ _ => h _ _ _ hc.layZ (hM.woZ hM.2.2.2.2.1.updZ)
  · unfold layO
    rw [e1, e2]
    cases e3 : ixO z 5 with
    | none => rfl
    | some t =>
      obtain ⟨h5, et⟩ := ixO_some (by decide) e3
      rw [et] at q2
      exact absurd ((nI_leI (b := 4) (by omega) (by decide)).mpr (by omega)) q2
theorem sq7_cost {Φ : Int32 → Prop} (hQ : PQ9 m.1 pst pce pgi pln be co to gc le gr ac sq tg fr mi en cl cd) (hO : MO9 m) (hc : CLs m.1 m.2.1 m.2.2.1 st tw) (h : Φ (f_cost m)) : wl_X7_cost st tw pln co Φ := by
  have h16 : nL m.1 ≤ 16 := hQ.2.2.1
  have h4 : nS m.1 ≤ 4 := hQ.1
  have eln : pln = nI (nL m.1) := hQ.2.2.2.2.2.2.1
  have hS : SA9 m.1.1 be co := hQ.2.2.2.2.2.2.2.1
  have key : ∀ (f l : Nat), l ≤ nL m.1 → ll_X7_cost_4 st tw pln co Φ f (csG m.1 m.2.1 m.2.2.1 l) (nI l) := by
    intro f
    induction f with
    | zero => intros; trivial
    | succ f ih =>
      intro l hl
      show bl_X7_cost_4 _ _ _ _ _ _ _ _
      unfold bl_X7_cost_4
      rw [eln, nI_leI (by omega) (by omega), ← eln, nI_clamp (n := l) (by omega), nI_1]
      refine ⟨fun z => ?_, fun z _ _ _ => ?_⟩
      · have : l = nL m.1 := by omega
        subst this
        exact h
      · have hlt : l < nL m.1 := by omega
        obtain ⟨hs, _, _⟩ := hO.2.1 l hlt
        rw [(hc l hlt).1, (hc l hlt).2, nI_clamp (n := m.2.1 l) (by omega), (hS.beZ hs).2]
        exact ih (l + 1) (by omega)
  exact fun f => key f 0 (Nat.zero_le _)
theorem sq7_inputs {Φ : Int32 → Prop} (hQ : PQ9 m.1 pst pce pgi pln be co to gc le gr ac sq tg fr mi en cl cd) (h : Φ (f_inputs m)) : wl_X7_inputs pgi le gr Φ := by
  obtain ⟨q1, q2, q3, q4, q5, q6, q7, q8, q9, ⟨i1, i2, i3, i4⟩, q11, q12, q13, q14⟩ := hQ
  unfold wl_X7_inputs
  rw [q6]
  exact sq2_icount i1 h
theorem inN_64 {g : PGr} (hG : GK9 g) : inN g ≤ 64 := hG.2.2.2.2.2.2.1
theorem sq7_input {x y : Int32} {Φ : Int32 → Prop} (hQ : PQ9 m.1 pst pce pgi pln be co to gc le gr ac sq tg fr mi en cl cd) (hO : MO9 m) (h : Φ (f_input m x y)) : wl_X7_input pce pgi to gc le gr x y Φ := by
  have hQ' := hQ
  obtain ⟨q1, q2, q3, q4, q5, q6, q7, q8, q9, ⟨i1, i2, i3, i4⟩, q11, q12, q13, q14⟩ := hQ
  have h64 := inN_64 hO.1
  have h6 : nC m.1 ≤ 6 := q2
  have ece : pce = nI (nC m.1) := q5
  unfold f_input at h
  unfold wl_X7_input
  rw [q6]
  refine sq2_icount i1 (sq7_wi (n := inN m.1) (by omega) (fun e => ⟨fun _ => by rw [e] at h; exact h, fun z => absurd rfl z⟩) (fun i hi ei e1 => ⟨fun z => absurd z (by decide), fun _ => ?_⟩))
  rw [ece]
  refine sq7_wi (by omega) (fun e => ⟨fun z => absurd rfl z, fun _ => by rw [e1, e] at h; exact h⟩) (fun c hc ec e2 => ⟨fun _ => ?_, fun z => absurd z (by decide)⟩)
  rw [e1, e2] at h
  rw [ei, ec, ← q6]
  exact sq2_atFirst hQ' hO.1 hi hc h
theorem inQ_some {g : PGr} {x : Int32} {i : Nat} (hG : GK9 g) (h : inQ g x = some i) : 0 < nL g ∧ i < inN g ∧ x = nI i := by
  unfold inQ at h
  split at h
  · rename_i z
    obtain ⟨a, b⟩ := ixO_some (by have := inN_64 hG; omega) h
    exact ⟨z, a, b⟩
  · cases h
theorem inQ_no {g : PGr} {x : Int32} (hG : GK9 g) (h : ¬ (0 < nL g ∧ ∃ i, i < inN g ∧ x = nI i)) : inQ g x = none := by
  cases e : inQ g x with
  | none => rfl
  | some i =>
    obtain ⟨a, b, c⟩ := inQ_some hG e
    exact absurd ⟨a, i, b, c⟩ h
theorem inQ_yes {g : PGr} {x : Int32} {i : Nat} (hG : GK9 g) (h0 : 0 < nL g) (hi : i < inN g) (e : x = nI i) : inQ g x = some i := by
  unfold inQ
  rw [if_pos h0, e]
  exact ixO_nI (by have := inN_64 hG; omega) hi
theorem sq7_cw {x : Int32} {Φ : Int32 → Prop} (hQ : PQ9 m.1 pst pce pgi pln be co to gc le gr ac sq tg fr mi en cl cd) (hO : MO9 m) (h0 : inQ m.1 x = none → Φ 0) (h1 : ∀ i, 0 < nL m.1 → i < inN m.1 → x = nI i → inQ m.1 x = some i → Φ 1) : wl_X7_canWalk pgi pln le gr x Φ := sq7_canWalk hQ (fun z => h0 (inQ_no hO.1 z)) (fun i a b c => h1 i a b c (inQ_yes hO.1 a b c))
theorem sq7_begin {x : Int32} {Φ : Int32 → Int32 → Int32 → Int32 → Int32 → (Nat → Int32) → Prop} (hQ : PQ9 m.1 pst pce pgi pln be co to gc le gr ac sq tg fr mi en cl cd) (hO : MO9 m) (hM : CH9 m.1 m.2.2.2 s n k u wo ce ke) (h : ∀ s' n' k' u' ce', CH9 m.1 (s_begin m x).2.2.2 s' n' k' u' wo ce' ke → Φ (f_begin m x) s' n' k' u' ce') : wl_X7_begin pce pgi pln to gc le gr x s n k u ce Φ := by
  unfold wl_X7_begin
  unfold s_begin f_begin at h
  refine sq7_cw hQ hO (fun e => ⟨fun z => absurd rfl z, fun _ => ?_⟩) (fun i h0 hi ex e => ⟨fun _ => ?_, fun z => absurd z (by decide)⟩)
  · rw [e] at h
    exact h _ _ _ _ _ hM
  · rw [e] at h
    rw [ex]
    exact sq1_start hQ hO.1 hi (fun ce' hce => h _ _ _ _ _ ⟨rfl, rfl, rfl, rfl, hM.2.2.2.2.1, fun _ => hce, KE9.nil⟩)
theorem MO9.beginZ {x : Int32} (h : MO9 m) : MO9 (s_begin m x) := by
  unfold s_begin
  cases e : inQ m.1 x with
  | none => exact h
  | some i =>
    obtain ⟨a, b, c⟩ := inQ_some h.1 e
    exact ⟨h.1, h.2.1, (by decide : 1 ≤ 4), Nat.zero_le _, fun _ => a, Nat.zero_le _, (by decide : 0 ≤ 1000000), fun z => absurd (show (1 : Nat) = 0 from z) (by decide)⟩
theorem MO9.runZ {x : Int32} (h : MO9 m) : MO9 (s_run m x) := by
  unfold s_run
  cases e : ixO x 1000001 with
  | none => exact h
  | some i => exact ⟨h.1, h.2.1, h.2.2.runZ⟩
theorem sq7_runM {x : Int32} {sk : Nat → Int32} {Φ : PSq} (hQ : PQ9 m.1 pst pce pgi pln be co to gc le gr ac sq tg fr mi en cl cd) (hO : MO9 m) (hc : CLs m.1 m.2.1 m.2.2.1 st tw) (hM : CH9 m.1 m.2.2.2 s n k u wo ce ke) (h : ∀ s' n' k' u' wo' ce' ke' sk', CH9 m.1 (s_run m x).2.2.2 s' n' k' u' wo' ce' ke' → Φ (f_run m x) s' n' k' u' wo' ce' ke' sk') : wl_X7_run 0 st tw pln be ac tg fr mi en cd cl x s n k u wo ce ke sk Φ := by
  unfold s_run f_run at h
  refine sq7_run hQ hO.1 hO.2.1 hc hO.2.2 hM (fun z => ?_) (fun j hj ex s' n' k' u' wo' ce' ke' sk' hM' => ?_)
  · have e : ixO x 1000001 = none := by
      cases e : ixO x 1000001 with
      | none => rfl
      | some j =>
        obtain ⟨a, b⟩ := ixO_some (by decide) e
        exact absurd ⟨j, by omega, b⟩ z
    rw [e] at h
    exact h _ _ _ _ _ _ _ _ hM
  · have e : ixO x 1000001 = some j := by rw [ex]; exact ixO_nI (by decide) (by omega)
    rw [e] at h
    exact h _ _ _ _ _ _ _ _ hM'
theorem sq7_state {y : Int32} {Φ : Int32 → Prop} (hO : MO9 m) (hM : CH9 m.1 m.2.2.2 s n k u wo ce ke) (h : Φ (f_state m y)) : wl_X7_state s n k u y Φ := by
  have h4 := hO.2.2.1
  obtain ⟨m1, m2, m3, m4, _⟩ := hM
  unfold f_state at h
  unfold wl_X7_state
  have q0 : s = 0 ↔ m.2.2.2.1 = 0 := by rw [m1]; exact nI_eq (b := 0) (by omega) (by decide)
  have q2 : s = 2 ↔ m.2.2.2.1 = 2 := by rw [m1]; exact nI_eq (b := 2) (by omega) (by decide)
  rw [q0, q2]
  refine ⟨fun z => ?_, fun z => ⟨fun y0 => ?_, fun y0 => ⟨fun y2 => ?_, fun y2 => ?_⟩⟩, fun z => ?_, fun z => ?_, fun z => ?_⟩
  · rw [if_pos z] at h; rw [m1]; exact h
  · rw [z, if_neg (by decide), if_pos rfl, if_pos (Or.inl y0)] at h; exact h
  · rw [z, if_neg (by decide), if_pos rfl, if_neg (fun q => q.elim y0 y2)] at h; rw [m2]; exact h
  · rw [z, if_neg (by decide), if_pos rfl, if_pos (Or.inr y2)] at h; exact h
  · rw [z, if_neg (by decide), if_neg (by decide), if_pos rfl] at h; rw [m3]; exact h
  · rw [z, if_neg (by decide), if_neg (by decide), if_neg (by decide), if_pos rfl] at h; rw [m4]; exact h
  · have q := fun i hi => wh_ne (n := 3) z (j := i) hi (by decide)
    rw [if_neg (show ¬ y = 0 from q 0 (by decide)), if_neg (show ¬ y = 1 from q 1 (by decide)), if_neg (show ¬ y = 2 from q 2 (by decide)), if_neg (show ¬ y = 3 from q 3 (by decide))] at h
    exact h
theorem sq7_fresh {Φ : Int32 → (Nat → Int32) → Prop} (hM : CH9 m.1 m.2.2.2 s n k u wo ce ke) (h : ∀ wo', CH9 m.1 (s_fresh m).2.2.2 s n k u wo' ce ke → Φ 1 wo') : wl_X7_fresh wo Φ := by
  unfold wl_X7_fresh
  exact sq_fill (rl := 16) (by decide) (fun wo' h0 _ => h wo' (hM.woZ (fun j hj => h0 j hj)))
theorem MO9.freshZ (h : MO9 m) : MO9 (s_fresh m) := h
theorem sq7_count {l : Nat} {y : Int32} {Φ : Int32 → Prop} (hQ : PQ9 m.1 pst pce pgi pln be co to gc le gr ac sq tg fr mi en cl cd) (h : Φ (f_count l m y)) : wl_X7_count (nI l) pst pce pgi pln y Φ := by
  obtain ⟨q1, q2, q3, q4, q5, q6, q7, _⟩ := hQ
  unfold f_count at h
  unfold wl_X7_count
  rw [q4, q5, q6, q7]
  refine ⟨fun z => ?_, fun z => ?_, fun z => ?_, fun z => ?_, fun z => ?_, fun z => ?_⟩
  · rw [if_pos z] at h; exact h
  · rw [z, if_neg (by decide), if_pos rfl] at h; exact h
  · rw [z, if_neg (by decide), if_neg (by decide), if_pos rfl] at h; exact h
  · rw [z, if_neg (by decide), if_neg (by decide), if_neg (by decide), if_pos rfl] at h; exact h
  · rw [z, if_neg (by decide), if_neg (by decide), if_neg (by decide), if_neg (by decide), if_pos rfl] at h; exact h
  · have q := fun i hi => wh_ne (n := 4) z (j := i) hi (by decide)
    rw [if_neg (show ¬ y = 0 from q 0 (by decide)), if_neg (show ¬ y = 1 from q 1 (by decide)), if_neg (show ¬ y = 2 from q 2 (by decide)), if_neg (show ¬ y = 3 from q 3 (by decide)), if_neg (show ¬ y = 4 from q 4 (by decide))] at h
    exact h
end FC
end
