theorem mxI_t (a b : Int32) : (mxI a b).toInt = max a.toInt b.toInt := by
  unfold mxI
  split
  · rename_i h
    have := Int32.lt_iff_toInt_lt.mp h
    omega
  · rename_i h
    have : ¬ a.toInt < b.toInt := fun q => h (Int32.lt_iff_toInt_lt.mpr q)
    omega
theorem mxI_as (a b c : Int32) : mxI (mxI a b) c = mxI a (mxI b c) := Int32.toInt_inj.mp (by rw [mxI_t, mxI_t, mxI_t, mxI_t]; omega)
theorem mxI_0 {a : Int32} (h : 0 ≤ a.toInt) : mxI a 0 = a := Int32.toInt_inj.mp (by rw [mxI_t, show (0 : Int32).toInt = 0 from rfl]; omega)
theorem stp_be {g : PGr} {be be' : Nat → Int32} {wy : Nat} {x : PM} (hw : ¬ wy = 0) : stp g be wy x = stp g be' wy x := by
  by_cases z : x.1 = 1
  · rw [stp_wrk z (fun q => hw q.1), stp_wrk z (fun q => hw q.1)]
  · rw [stp_off z, stp_off z]
theorem gst_be {g : PGr} {be be' : Nat → Int32} {wy : Nat} {y : PG9} (hw : ¬ wy = 0) : gst g be wy y = gst g be' wy y := by
  by_cases z : y.1.1 = 1
  · rw [gst_wrk z (fun q => hw q.1), gst_wrk z (fun q => hw q.1)]
  · rw [gst_off z, gst_off z]
theorem git_be {g : PGr} {be be' : Nat → Int32} {wy : Nat} (hw : ¬ wy = 0) : ∀ (n : Nat) (y : PG9), gitG g be wy n y = gitG g be' wy n y := by
  intro n
  induction n with
  | zero => intro y; rfl
  | succ n ih =>
    intro y
    show gitG g be wy n (gst g be wy y) = gitG g be' wy n (gst g be' wy y)
    rw [ih, gst_be (be := be) (be' := be') hw]
/-- by an input, soft: where it ends, how often each line is gone over, how worn it is at most -/
def sgN (N : Nat) (g : PGr) (i : Nat) : PG9 := gitG g (fun _ => 0) 1 N (pg0 (bgG g i (fun _ => 0)))
theorem sgN_eq {N : Nat} {g : PGr} {i : Nat} : sgN N g i = gitG g (fun _ => 0) 1 N (pg0 (bgG g i (fun _ => 0))) := rfl
/-- of the first inputs: most, by which, peak -/
def svF (sg : Nat → PG9) : Nat → (Nat → Nat) × (Nat → Nat) × (Nat → Int32)
  | 0 => (fun _ => 0, fun _ => 0, fun _ => 0)
  | k + 1 => (fun l => if (svF sg k).1 l < (sg k).2.1 l then (sg k).2.1 l else (svF sg k).1 l, fun l => if (svF sg k).1 l < (sg k).2.1 l then k else (svF sg k).2.1 l, fun l => mxI ((svF sg k).2.2 l) ((sg k).2.2 l))
theorem svF_1 (sg : Nat → PG9) (k l : Nat) : (svF sg (k + 1)).1 l = if (svF sg k).1 l < (sg k).2.1 l then (sg k).2.1 l else (svF sg k).1 l := rfl
theorem svF_2 (sg : Nat → PG9) (k l : Nat) : (svF sg (k + 1)).2.1 l = if (svF sg k).1 l < (sg k).2.1 l then k else (svF sg k).2.1 l := rfl
theorem svF_3 (sg : Nat → PG9) (k l : Nat) : (svF sg (k + 1)).2.2 l = mxI ((svF sg k).2.2 l) ((sg k).2.2 l) := rfl
/-- the first inputs all end -/
def alG (g : PGr) : Nat → Bool
  | 0 => true
  | k + 1 => alG g k && decide ((sgN 1000 g k).1.1 = 2)
theorem alG_s {g : PGr} {k : Nat} : alG g (k + 1) = true ↔ alG g k = true ∧ (sgN 1000 g k).1.1 = 2 := by
  show (alG g k && decide ((sgN 1000 g k).1.1 = 2)) = true ↔ _
  rw [Bool.and_eq_true, decide_eq_true_eq]
theorem alG_le {g : PGr} {a : Nat} : ∀ {b : Nat}, a ≤ b → alG g b = true → alG g a = true := by
  intro b
  induction b with
  | zero => intro h h2; rw [show a = 0 by omega]; exact h2
  | succ b ih =>
    intro h h2
    by_cases e : a = b + 1
    · rw [e]; exact h2
    · exact ih (by omega) (alG_s.mp h2).1
theorem svF_nn (sg : Nat → PG9) : ∀ (k l : Nat), 0 ≤ ((svF sg k).2.2 l).toInt := by
  intro k
  induction k with
  | zero => intro l; exact (by decide : (0 : Int) ≤ (0 : Int32).toInt)
  | succ k ih =>
    intro l
    rw [svF_3, mxI_t]
    have := ih l
    omega
/-- the end is behind the last line -/
def PE2 (g : PGr) (x : PM) : Prop := x.1 = 2 → nL g ≤ x.2.1
theorem PE2.stpZ {g : PGr} {be : Nat → Int32} {wy : Nat} {x : PM} (h : PE2 g x) : PE2 g (stp g be wy x) := by
  by_cases z : x.1 = 1
  · by_cases w : hol be wy x
    · rw [stp_hol z w]; exact fun q => absurd (show (3 : Nat) = 2 from q) (by decide)
    · rw [stp_wrk z w]
      intro q
      have q : (if nL g ≤ nxG g wy x then 2 else 1) = 2 := q
      show nL g ≤ nxG g wy x
      by_cases n : nL g ≤ nxG g wy x
      · exact n
      · rw [if_neg n] at q; exact absurd q (by decide)
  · rw [stp_off z]; exact h
theorem PE2.itZ {g : PGr} {be : Nat → Int32} {wy : Nat} : ∀ (n : Nat) (x : PM), PE2 g x → PE2 g (itG g be wy n x) := by
  intro n
  induction n with
  | zero => intro x h; exact h
  | succ n ih => intro x h; exact ih _ h.stpZ
theorem sgN_12 {N : Nat} {g : PGr} {i : Nat} : (sgN N g i).1.1 = 1 ∨ (sgN N g i).1.1 = 2 := by
  rw [sgN_eq, git_1]
  exact it_12 (by decide) N _ (Or.inl rfl)
theorem sg_12 {g : PGr} {i : Nat} : (sgN 1000 g i).1.1 = 1 ∨ (sgN 1000 g i).1.1 = 2 := sgN_12
theorem git_gone {g : PGr} {be : Nat → Int32} {wy : Nat} : ∀ (n : Nat) (y : PG9) (B : Nat), (∀ l, y.2.1 l ≤ B) → ∀ l, (gitG g be wy n y).2.1 l ≤ B + n := by
  intro n
  induction n with
  | zero => intro y B h l; exact h l
  | succ n ih =>
    intro y B h l
    have := ih (gst g be wy y) (B + 1) (fun l => ?_) l
    · show (gitG g be wy n (gst g be wy y)).2.1 l ≤ _
      omega
    · unfold gst
      split
      · show updN y.2.1 y.1.2.1 (y.2.1 y.1.2.1 + 1) l ≤ _
        unfold updN
        have h1 := h y.1.2.1
        have h2 := h l
        split <;> omega
      · have := h l
        show y.2.1 l ≤ _
        omega
theorem git_gone0 {g : PGr} {be : Nat → Int32} {wy : Nat} {x : PM} (N l : Nat) : (gitG g be wy N (pg0 x)).2.1 l ≤ N := by
  have := git_gone (g := g) (be := be) (wy := wy) N (pg0 x) 0 (fun _ => Nat.le_refl 0) l
  omega
theorem sgN_gone {N : Nat} {g : PGr} {i l : Nat} : (sgN N g i).2.1 l ≤ N := by
  rw [sgN_eq]
  exact git_gone0 N l
theorem sg_gone {g : PGr} {i l : Nat} : (sgN 1000 g i).2.1 l ≤ 1000 := sgN_gone
theorem svF_gone {sg : Nat → PG9} (hs : ∀ i l, (sg i).2.1 l ≤ 1000) : ∀ (k l : Nat), (svF sg k).1 l ≤ 1000 ∧ (svF sg k).2.1 l ≤ k := by
  intro k
  induction k with
  | zero => intro l; exact ⟨Nat.zero_le _, Nat.le_refl 0⟩
  | succ k ih =>
    intro l
    obtain ⟨h1, h2⟩ := ih l
    have h3 := hs k l
    rw [svF_1, svF_2]
    refine ⟨?_, ?_⟩
    · split <;> omega
    · split <;> omega
theorem sg_all {g : PGr} : ∀ i l, (sgN 1000 g i).2.1 l ≤ 1000 := fun i l => sgN_gone
theorem sv_gone {g : PGr} (k l : Nat) : (svF (sgN 1000 g) k).1 l ≤ 1000 ∧ (svF (sgN 1000 g) k).2.1 l ≤ k := svF_gone sg_all k l
/-- most, by which, peak as the class keeps them -/
def SVc (g : PGr) (k : Nat) (of by_ pk : Nat → Int32) : Prop := (∀ l, l < nL g → of l = nI ((svF (sgN 1000 g) k).1 l) ∧ by_ l = nI ((svF (sgN 1000 g) k).2.1 l)) ∧ AGn 16 (svF (sgN 1000 g) k).2.2 pk
section CA
variable {g : PGr} {cl : Nat} {pst pce pgi pln : Int32} {be co to gc le gr ac sq tg fr mi en cd : Nat → Int32} {sf tf : Nat → Nat} {st tw : Nat → Int32}
theorem sq4_add {k : Nat} {sn ww s0 n0 a0 b0 : Int32} {of by_ pk ov wo ce ke sk : Nat → Int32} {Φ : PAd} (hQ : PQ9 g pst pce pgi pln be co to gc le gr ac sq tg fr mi en cl cd) (hG : GK9 g) (hL : LYo g sf tf) (hc : CLs g sf tf st tw) (h0 : 0 < nL g) (hk : k < inN g) (hS : SVc g k of by_ pk)
    (h : ∀ (sn : Int32) (of by_ pk ov : Nat → Int32) (ww s n a b : Int32) (wo ce ke sk : Nat → Int32), (sn = 0 ↔ (sgN 1000 g k).1.1 = 2) → SVc g (k + 1) of by_ pk → Φ sn of by_ pk ov ww s n a b wo ce ke sk) : wl_X4_add st tw pce pgi pln be to gc le gr ac tg fr mi en cd 1000 cl (nI k) sn of by_ pk ov ww s0 n0 a0 b0 wo ce ke sk Φ := by
  have h16 : nL g ≤ 16 := hG.2.2.2.2.2.2.2.2.1
  have h64 := inN_64 hG
  have eln : pln = nI (nL g) := hQ.2.2.2.2.2.2.1
  -- behind the walk
  have k116 : ∀ (sn : Int32) (pk ov : Nat → Int32) (s n a b : Int32) (wo ce ke sk : Nat → Int32), (sn = 0 ↔ (sgN 1000 g k).1.1 = 2) → AGn 16 (svF (sgN 1000 g) (k + 1)).2.2 pk → (∀ l, l < 16 → ov l = nI ((sgN 1000 g k).2.1 l)) → ∀ (f j : Nat) (of' by' : Nat → Int32), j ≤ nL g → (∀ l, l < nL g → (l < j → of' l = nI ((svF (sgN 1000 g) (k + 1)).1 l) ∧ by' l = nI ((svF (sgN 1000 g) (k + 1)).2.1 l)) ∧ (j ≤ l → of' l = nI ((svF (sgN 1000 g) k).1 l) ∧ by' l = nI ((svF (sgN 1000 g) k).2.1 l))) → ll_X4_add_116 st tw pce pgi pln be to gc le gr ac tg fr mi en cd 1000 cl (nI k) Φ f sn of' by' pk ov 1 s n a b wo ce ke sk (nI j) := by
    intro sn pk ov s n a b wo ce ke sk hsn hpk hov f
    induction f with
    | zero => intros; trivial
    | succ f ih =>
      intro j of' by' hj hr
      show bl_X4_add_116 _ _ _ _ _ _ _ _ _ _ _ _ _ _ _ _ _ _ _ _ _ _ _ _ _ _ _ _ _ _ _ _ _ _ _ _
      unfold bl_X4_add_116
      rw [eln, nI_leI (by omega) (by omega), ← eln, nI_clamp (n := j) (by omega), nI_1]
      refine ⟨fun z => h _ _ _ _ _ _ _ _ _ _ _ _ _ _ hsn ⟨fun l hl => (hr l hl).1 (by omega), hpk⟩, fun z _ _ => ?_⟩
      obtain ⟨r1, r2⟩ := (hr j (by omega)).2 (Nat.le_refl _)
      have g1 := sg_gone (g := g) (i := k) (l := j)
      have g2 := (sv_gone (g := g) k j).1
      rw [hov j (by omega), r1, nI_leI (by omega) (by omega)]
      have e1 := svF_1 (sgN 1000 g) k j
      have e2 := svF_2 (sgN 1000 g) k j
      refine ⟨fun y => ih (j + 1) _ _ (by omega) (fun l hl => ⟨fun q => ?_, fun q => (hr l hl).2 (by omega)⟩), fun y _ _ _ => ih (j + 1) _ _ (by omega) (fun l hl => ⟨fun q => ?_, fun q => ?_⟩)⟩
      · by_cases el : l = j
        · rw [el, e1, e2, if_neg (Nat.not_lt.mpr y), if_neg (Nat.not_lt.mpr y)]; exact ⟨r1, r2⟩
        · exact (hr l hl).1 (by omega)
      · by_cases el : l = j
        · rw [el, pk_us, pk_us, e1, e2, if_pos (Nat.lt_of_not_le y), if_pos (Nat.lt_of_not_le y)]; exact ⟨rfl, rfl⟩
        · rw [pk_un el, pk_un el]; exact (hr l hl).1 (by omega)
      · rw [pk_un (by omega), pk_un (by omega)]; exact (hr l hl).2 (by omega)
  have hP0 : PMo g 1 (bgG g k (fun _ => 0)) := PMo.bg h0 (fun _ _ _ => rfl)
  have key : ∀ (f j : Nat) (s n a b : Int32) (pk' ov wo ce ke sk : Nat → Int32), j ≤ 1000 → CM9 g 1000 (gitG g (fun _ => 0) 1 j (pg0 (bgG g k (fun _ => 0)))).1 s n a b wo ce ke → (∀ l, l < 16 → ov l = nI ((gitG g (fun _ => 0) 1 j (pg0 (bgG g k (fun _ => 0)))).2.1 l)) → (∀ l, l < 16 → pk' l = mxI ((svF (sgN 1000 g) k).2.2 l) ((gitG g (fun _ => 0) 1 j (pg0 (bgG g k (fun _ => 0)))).2.2 l)) → ll_X4_add_28 st tw pce pgi pln be to gc le gr ac tg fr mi en cd 1000 cl (nI k) Φ f sn of by_ pk' ov 1 s n a b wo ce ke sk (nI j) := by
    intro f
    induction f with
    | zero => intros; trivial
    | succ f ih =>
      intro j s n a b pk' ov wo ce ke sk hj hM hov hpk
      have ei := git_1 (g := g) (be := fun _ => 0) (wy := 1) j (pg0 (bgG g k (fun _ => 0)))
      rw [pg0_1] at ei
      have hP : PMo g 1 (gitG g (fun _ => 0) 1 j (pg0 (bgG g k (fun _ => 0)))).1 := by rw [ei]; exact PMo.itZ j _ hP0
      have hE : PE2 g (gitG g (fun _ => 0) 1 j (pg0 (bgG g k (fun _ => 0)))).1 := by rw [ei]; exact PE2.itZ j _ (fun q => absurd (show (1 : Nat) = 2 from q) (by decide))
      have h12 : (gitG g (fun _ => 0) 1 j (pg0 (bgG g k (fun _ => 0)))).1.1 = 1 ∨ (gitG g (fun _ => 0) 1 j (pg0 (bgG g k (fun _ => 0)))).1.1 = 2 := by rw [ei]; exact it_12 (by decide) j _ (Or.inl rfl)
      have hK : (gitG g (fun _ => 0) 1 j (pg0 (bgG g k (fun _ => 0)))).1.2.2.1 ≤ 1000 := by
        rw [ei]
        have := it_k (g := g) (be := fun _ => 0) (wy := 1) j (bgG g k (fun _ => 0))
        have e0 : (bgG g k (fun _ => 0)).2.2.1 = 0 := rfl
        omega
      have eto : ¬ (gitG g (fun _ => 0) 1 j (pg0 (bgG g k (fun _ => 0)))).1.1 = 1 → sgN 1000 g k = gitG g (fun _ => 0) 1 j (pg0 (bgG g k (fun _ => 0))) := fun z => sgN_eq.trans (git_to hj z)
      have e1000 : j = 1000 → sgN 1000 g k = gitG g (fun _ => 0) 1 j (pg0 (bgG g k (fun _ => 0))) := fun z => by rw [z]; exact sgN_eq
      have enx := git_one (g := g) (be := fun _ => 0) (wy := 1) (y := pg0 (bgG g k (fun _ => 0))) j
      have ihj := ih (j + 1)
      rw [enx] at ihj
      generalize gitG g (fun _ => 0) 1 j (pg0 (bgG g k (fun _ => 0))) = y at hM hov hpk hP hE h12 hK eto e1000 ihj
      show bl_X4_add_28 _ _ _ _ _ _ _ _ _ _ _ _ _ _ _ _ _ _ _ _ _ _ _ _ _ _ _ _ _ _ _ _ _ _ _ _
      unfold bl_X4_add_28
      -- the walk is over
      have out : sgN 1000 g k = y → wl_X1_isEndless s (fun r => (r = 0 ∨ r = 1) → ∀ n_, ll_X4_add_116 st tw pce pgi pln be to gc le gr ac tg fr mi en cd 1000 cl (nI k) Φ n_ r of by_ pk' ov 1 s n a b wo ce ke sk 0) := by
        intro es
        have q1 : s = 1 ↔ y.1.1 = 1 := by rw [hM.1]; exact nI_eq (b := 1) (by have := hP.1; omega) (by decide)
        have hpk' : AGn 16 (svF (sgN 1000 g) (k + 1)).2.2 pk' := fun l hl => by
          rw [svF_3, es]
          exact hpk l hl
        have hov' : ∀ l, l < 16 → ov l = nI ((sgN 1000 g k).2.1 l) := fun l hl => by rw [es]; exact hov l hl
        have hr0 : ∀ l, l < nL g → (l < 0 → of l = nI ((svF (sgN 1000 g) (k + 1)).1 l) ∧ by_ l = nI ((svF (sgN 1000 g) (k + 1)).2.1 l)) ∧ (0 ≤ l → of l = nI ((svF (sgN 1000 g) k).1 l) ∧ by_ l = nI ((svF (sgN 1000 g) k).2.1 l)) := fun l hl => ⟨fun q => absurd q (Nat.not_lt_zero _), fun _ => hS.1 l hl⟩
        refine ⟨fun z _ f => k116 0 pk' ov s n a b wo ce ke sk ⟨fun _ => ?_, fun _ => rfl⟩ hpk' hov' f 0 of by_ (Nat.zero_le _) hr0, fun z _ f => k116 1 pk' ov s n a b wo ce ke sk ⟨fun q => absurd q (by decide), fun q => ?_⟩ hpk' hov' f 0 of by_ (Nat.zero_le _) hr0⟩
        · rw [es]; exact h12.resolve_left (fun q => z (q1.mpr q))
        · rw [es] at q
          exact absurd ((q1.mp z).symm.trans q) (by decide)
      have q1000 : (1000 : Int32) ≤ nI j ↔ 1000 ≤ j := nI_leI (a := 1000) (by decide) (by omega)
      rw [q1000, hM.2.1, eln, nI_1]
      rw [← eln]
      refine ⟨fun z => by rw [← hM.2.1]; exact out (e1000 (by omega)), fun z => ?_⟩
      by_cases hy : y.1.1 = 1
      · have hN := hP.2.2.1 (Or.inl hy)
        rw [eln]
        refine sq7_in hN (by omega) ⟨fun q => absurd q (by decide), fun _ _ _ _ _ _ => ?_⟩
        rw [← eln, ← hM.2.1]
        refine sq1_step (wy := 1) hQ hG hL hc hP (by decide) hM (by omega) (by decide) (fun r s' n' k' u' wo' ce' ke' sk' hM' _ => ?_)
        rw [stp_be (be' := fun _ => 0) (by decide)] at hM'
        have ey : gst g (fun _ => 0) 1 y = (wrk g 1 y.1, updN y.2.1 y.1.2.1 (y.2.1 y.1.2.1 + 1), upd y.2.2 y.1.2.1 (mxI (y.2.2 y.1.2.1) (y.1.2.2.2.1 y.1.2.1 + 1))) := gst_wrk hy (fun q => absurd q.1 (by decide))
        refine ihj _ _ _ _ _ _ _ _ _ _ (by omega) (by rw [gst_1]; exact hM') (fun l hl => ?_) (fun l hl => ?_)
        · rw [ey, hM.2.1, nI_clamp (n := y.1.2.1) (by omega)]
          show _ = nI (updN y.2.1 y.1.2.1 (y.2.1 y.1.2.1 + 1) l)
          unfold updN
          by_cases el : l = y.1.2.1
          · rw [if_pos el, el, pk_us, hov _ (by omega), nI_1]
          · rw [if_neg el, pk_un el]; exact hov l hl
        · rw [ey, hM.2.1, nI_clamp (n := y.1.2.1) (by omega)]
          show _ = mxI ((svF (sgN 1000 g) k).2.2 l) (upd y.2.2 y.1.2.1 (mxI (y.2.2 y.1.2.1) (y.1.2.2.2.1 y.1.2.1 + 1)) l)
          by_cases el : l = y.1.2.1
          · rw [el, pk_us, pk_us, ← mxI_as, ← hpk _ (by omega), hM.2.2.2.2.1 _ (by omega)]
            rfl
          · rw [pk_un el, pk_un el]; exact hpk l hl
      · have hN2 := hE (h12.resolve_left hy)
        have o := out (eto hy)
        have eN : y.1.2.1 = nL g := by have := hP.2.1; omega
        rw [eN, eln]
        refine ⟨fun q => absurd q (nI_pos (by omega)), fun _ => ⟨fun _ => ⟨fun _ => ?_, fun q => absurd rfl q⟩, fun q => absurd (Int32.le_refl _) q⟩⟩
        rw [hM.2.1, eN, eln] at o
        exact o
  unfold wl_X4_add
  refine sq_fill (rl := 16) (by decide) (fun ov' hov _ => sq_fill (rl := 16) (by decide) (fun wo' hwo _ => sq1_start hQ hG hk (fun ce' hce f => ?_)))
  refine key f 0 _ _ _ _ pk ov' wo' ce' ke sk (by decide) ⟨rfl, rfl, rfl, rfl, fun j hj => hwo j hj, hce, KE9.nil⟩ (fun l hl => hov l hl) (fun l hl => ?_)
  rw [hS.2 l hl]
  exact (mxI_0 (svF_nn _ k l)).symm
end CA
