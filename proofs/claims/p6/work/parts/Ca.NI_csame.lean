section CSM
variable {m m' : MS} {cl : Nat} {pst pce pgi pln : Int32} {be co to gc le gr ac sq tg fr mi en cd : Nat → Int32} {st tw : Nat → Int32} {cl2 : Nat} {pst2 pce2 pgi2 pln2 : Int32} {be2 co2 to2 gc2 le2 gr2 ac2 sq2 tg2 fr2 mi2 en2 cd2 : Nat → Int32} {st2 tw2 bm : Nat → Int32} {pg kp : Nat} {wp : Nat} {ww ws wn wa wb : Int32} {wst wtw wwo wce wke wsk : Nat → Int32} {gp : Nat} {gw gs gn ga gb : Int32} {gst gtw gwo gce gke gsk : Nat → Int32}
theorem sq7_cmp {Φ : Int32 → Prop} (hQ : PQ9 m.1 pst pce pgi pln be co to gc le gr ac sq tg fr mi en cl cd) (hQ2 : PQ9 m'.1 pst2 pce2 pgi2 pln2 be2 co2 to2 gc2 le2 gr2 ac2 sq2 tg2 fr2 mi2 en2 cl2 cd2) (hO : MO9 m) (hO2 : MO9 m') (h0 : ¬ (0 < nL m.1 ∧ 0 < nL m'.1 ∧ inN m.1 = inN m'.1) → Φ 0) (h1 : 0 < nL m.1 ∧ 0 < nL m'.1 ∧ inN m.1 = inN m'.1 → Φ 1) : wl_X7_comparable pgi pln le gr pgi2 pln2 le2 gr2 Φ := by
  have i1 := hQ.2.2.2.2.2.2.2.2.2.1.1
  have i2 := hQ2.2.2.2.2.2.2.2.2.2.1.1
  have eln : pln = nI (nL m.1) := hQ.2.2.2.2.2.2.1
  have eln2 : pln2 = nI (nL m'.1) := hQ2.2.2.2.2.2.2.1
  have h16 : nL m.1 ≤ 16 := hQ.2.2.1
  have h162 : nL m'.1 ≤ 16 := hQ2.2.2.1
  have h64 := inN_64 hO.1
  have h642 := inN_64 hO2.1
  have q0 : pln ≤ 0 ↔ nL m.1 ≤ 0 := by rw [eln]; exact nI_leI (b := 0) (by omega) (by decide)
  have q1 : pln2 ≤ 0 ↔ nL m'.1 ≤ 0 := by rw [eln2]; exact nI_leI (b := 0) (by omega) (by decide)
  unfold wl_X7_comparable
  rw [q0, q1, hQ.2.2.2.2.2.1, hQ2.2.2.2.2.2.1]
  refine ⟨fun z => h0 (fun q => by omega), fun z => ⟨fun z2 => h0 (fun q => by omega), fun z2 => sq2_icount i1 (sq2_icount i2 ?_)⟩⟩
  have e : nI (many m.1.2.2.1) = nI (many m'.1.2.2.1) ↔ inN m.1 = inN m'.1 := nI_eq (by have : many m.1.2.2.1 ≤ 64 := h64; omega) (by have : many m'.1.2.2.1 ≤ 64 := h642; omega)
  rw [e]
  exact ⟨fun z3 => h0 (fun q => z3 q.2.2), fun z3 => h1 ⟨by omega, by omega, z3⟩⟩
theorem sq1_isEndless {x : PM} {s : Int32} {Φ : Int32 → Prop} (hs : s = nI x.1) (h12 : x.1 = 1 ∨ x.1 = 2) (h : Φ (if x.1 = 1 then 1 else 0)) : wl_X1_isEndless s Φ := by
  unfold wl_X1_isEndless
  have q : s = 1 ↔ x.1 = 1 := by rw [hs]; exact nI_eq (b := 1) (by omega) (by decide)
  rw [q]
  exact ⟨fun z => by rw [if_neg z] at h; exact h, fun z => by rw [if_pos z] at h; exact h⟩
theorem endl_eq {a b : Nat} (ha : a = 1 ∨ a = 2) (hb : b = 1 ∨ b = 2) : ((if a = 1 then (1 : Int32) else 0) = if b = 1 then 1 else 0) ↔ a = b := by
  rcases ha with rfl | rfl <;> rcases hb with rfl | rfl <;> decide
theorem sq7_same0 {Φ : PW2} (hQ : PQ9 m.1 pst pce pgi pln be co to gc le gr ac sq tg fr mi en cl cd) (hQ2 : PQ9 m'.1 pst2 pce2 pgi2 pln2 be2 co2 to2 gc2 le2 gr2 ac2 sq2 tg2 fr2 mi2 en2 cl2 cd2) (hO : MO9 m) (hO2 : MO9 m') (hc : CLs m.1 m.2.1 m.2.2.1 st tw) (hc2 : CLs m'.1 m'.2.1 m'.2.2.1 st2 tw2) (hno : bm 0 = 0 → AWq2 (-2) Φ) (hyes : ¬ bm 0 = 0 → AWq2 (sameM m m') Φ) : wl_X7_same0 st tw bm st2 tw2 pce pgi pln be to gc le gr ac tg fr mi en cd pce2 pgi2 pln2 be2 to2 gc2 le2 gr2 ac2 tg2 fr2 mi2 en2 cd2 cl cl2 pg kp wp ww ws wn wa wb wst wtw wwo wce wke wsk gp gw gs gn ga gb gst gtw gwo gce gke gsk Φ := by
  have i1 := hQ.2.2.2.2.2.2.2.2.2.1.1
  have h64 := inN_64 hO.1
  unfold wl_X7_same0
  refine ⟨fun z => absurd z (by decide), fun _ => ⟨fun z => absurd z (by decide), fun _ => ⟨fun z => absurd z (by decide), fun _ => ⟨fun eb => hno eb _ _ _ _ _ _ _ _ _ _ _ _ _ _ _ _ _ _ _ _ _ _ _ _, fun eb => ?_⟩⟩⟩⟩
  have h := hyes eb
  unfold sameM at h
  refine sq7_cmp hQ hQ2 hO hO2 (fun w => ⟨fun z => absurd rfl z, fun _ => by rw [if_neg w] at h; exact h _ _ _ _ _ _ _ _ _ _ _ _ _ _ _ _ _ _ _ _ _ _ _ _⟩) (fun w => ⟨fun _ => ?_, fun z => absurd z (by decide)⟩)
  rw [if_pos w] at h
  obtain ⟨w0, w1, w2⟩ := w
  have key : ∀ (f i : Nat) (wp : Nat) (ww ws wn wa wb : Int32) (wst wtw wwo wce wke wsk : Nat → Int32) (gp : Nat) (gw gs gn ga gb : Int32) (gst gtw gwo gce gke gsk : Nat → Int32), i ≤ inN m.1 → fdG (fun i => decide (¬ ((rn2 m i).2.2.2.2.2 = (rn2 m' i).2.2.2.2.2 ∧ (rn2 m i).1 = (rn2 m' i).1))) (inN m.1) 0 = fdG (fun i => decide (¬ ((rn2 m i).2.2.2.2.2 = (rn2 m' i).2.2.2.2.2 ∧ (rn2 m i).1 = (rn2 m' i).1))) (inN m.1 - i) i → ll_X7_same0_49 st tw bm st2 tw2 pce pgi pln be to gc le gr ac tg fr mi en cd pce2 pgi2 pln2 be2 to2 gc2 le2 gr2 ac2 tg2 fr2 mi2 en2 cd2 cl cl2 pg kp Φ f wp ww ws wn wa wb wst wtw wwo wce wke wsk gp gw gs gn ga gb gst gtw gwo gce gke gsk (nI (inN m.1)) (nI i) := by
    intro f
    induction f with
    | zero => intros; trivial
    | succ f ih =>
      intro i wp ww ws wn wa wb wst wtw wwo wce wke wsk gp gw gs gn ga gb gst gtw gwo gce gke gsk hi ef
      show bl_X7_same0_49 _ _ _ _ _ _ _ _ _ _ _ _ _ _ _ _ _ _ _ _ _ _ _ _ _ _ _ _ _ _ _ _ _ _ _ _ _ _ _ _ _ _ _ _ _ _ _ _ _ _ _ _ _ _ _ _ _ _ _ _ _ _ _ _ _
      unfold bl_X7_same0_49
      rw [nI_leI (by omega) (by omega), nI_1]
      refine ⟨fun y => ?_, fun y => ?_⟩
      · have e0 : inN m.1 - i = 0 := by omega
        rw [ef, e0] at h
        exact h _ _ _ _ _ _ _ _ _ _ _ _ _ _ _ _ _ _ _ _ _ _ _ _
      · have hp : PMo m.1 2 (rn2 m i) := rn_pmo w0
        have hk : (rn2 m i).2.2.1 ≤ 1000 := rn2_k m i
        have hp2 : PMo m'.1 2 (rn2 m' i) := rn_pmo w1
        have hk2 : (rn2 m' i).2.2.1 ≤ 1000 := rn2_k m' i
        have s1 : (rn2 m i).1 = 1 ∨ (rn2 m i).1 = 2 := rn2_12 m i
        have s2 : (rn2 m' i).1 = 1 ∨ (rn2 m' i).1 = 2 := rn2_12 m' i
        refine sq7_walk (wy := 2) (kn := 1000) hQ hO.1 hO.2.1 hc (by decide) w0 (by omega) (by decide) (fun s' n' k' u' st' tw' wo' ce' ke' sk' hM => ?_)
        refine sq7_walk (wy := 2) (kn := 1000) hQ2 hO2.1 hO2.2.1 hc2 (by decide) w1 (by omega) (by decide) (fun s2' n2' k2' u2' st2' tw2' wo2' ce2' ke2' sk2' hM2 => ?_)
        have hM : CM9 m.1 1000 (rn2 m i) s' n' k' u' wo' ce' ke' := hM
        have hM2 : CM9 m'.1 1000 (rn2 m' i) s2' n2' k2' u2' wo2' ce2' ke2' := hM2
        have es : inN m.1 - i = inN m.1 - (i + 1) + 1 := by omega
        rw [es] at ef
        refine sq1_isEndless hM.1 s1 (sq1_isEndless hM2.1 s2 ?_)
        rw [endl_eq s1 s2]
        refine ⟨fun e => ?_, fun e => ?_⟩
        · rw [fdG_at (by rw [decide_eq_true_eq]; exact fun q => e q.2)] at ef
          rw [ef] at h
          exact h _ _ _ _ _ _ _ _ _ _ _ _ _ _ _ _ _ _ _ _ _ _ _ _
        rw [hM.2.2.2.1, hM2.2.2.2.1]
        refine sq1_wroteLike hM.2.2.2.2.2.2 hM2.2.2.2.2.2.2 (by have := hp.2.2.2.1; omega) (by have := hp2.2.2.2.1; omega) (fun e' => ⟨fun _ => ?_, fun w => absurd w (by decide)⟩) (fun e' => ⟨fun w => absurd rfl w, fun _ => ?_⟩)
        · rw [fdG_no (by rw [decide_eq_true_eq]; exact fun q => q ⟨e', e⟩)] at ef
          exact ih (i + 1) _ _ _ _ _ _ _ _ _ _ _ _ _ _ _ _ _ _ _ _ _ _ _ _ (by omega) ef
        · rw [fdG_at (by rw [decide_eq_true_eq]; exact fun q => e' q.1)] at ef
          rw [ef] at h
          exact h _ _ _ _ _ _ _ _ _ _ _ _ _ _ _ _ _ _ _ _ _ _ _ _
  rw [hQ.2.2.2.2.2.1]
  refine sq2_icount i1 ?_
  rw [← hQ.2.2.2.2.2.1]
  exact fun f => key f 0 _ _ _ _ _ _ _ _ _ _ _ _ _ _ _ _ _ _ _ _ _ _ _ _ (Nat.zero_le _) rfl
theorem sq7_same1 {Φ : PW2} (hQ : PQ9 m.1 pst pce pgi pln be co to gc le gr ac sq tg fr mi en cl cd) (hQ2 : PQ9 m'.1 pst2 pce2 pgi2 pln2 be2 co2 to2 gc2 le2 gr2 ac2 sq2 tg2 fr2 mi2 en2 cl2 cd2) (hO : MO9 m) (hO2 : MO9 m') (hc : CLs m.1 m.2.1 m.2.2.1 st tw) (hc2 : CLs m'.1 m'.2.1 m'.2.2.1 st2 tw2) (hno : bm 1 = 0 → AWq2 (-2) Φ) (hyes : ¬ bm 1 = 0 → AWq2 (sameM m m') Φ) : wl_X7_same1 st tw bm st2 tw2 pce pgi pln be to gc le gr ac tg fr mi en cd pce2 pgi2 pln2 be2 to2 gc2 le2 gr2 ac2 tg2 fr2 mi2 en2 cd2 cl cl2 pg kp wp ww ws wn wa wb wst wtw wwo wce wke wsk gp gw gs gn ga gb gst gtw gwo gce gke gsk Φ := by
  have i1 := hQ.2.2.2.2.2.2.2.2.2.1.1
  have h64 := inN_64 hO.1
  unfold wl_X7_same1
  refine ⟨fun z => absurd z (by decide), fun _ => ⟨fun z => absurd z (by decide), fun _ => ⟨fun z => absurd z (by decide), fun _ => ⟨fun eb => hno eb _ _ _ _ _ _ _ _ _ _ _ _ _ _ _ _ _ _ _ _ _ _ _ _, fun eb => ?_⟩⟩⟩⟩
  have h := hyes eb
  unfold sameM at h
  refine sq7_cmp hQ hQ2 hO hO2 (fun w => ⟨fun z => absurd rfl z, fun _ => by rw [if_neg w] at h; exact h _ _ _ _ _ _ _ _ _ _ _ _ _ _ _ _ _ _ _ _ _ _ _ _⟩) (fun w => ⟨fun _ => ?_, fun z => absurd z (by decide)⟩)
  rw [if_pos w] at h
  obtain ⟨w0, w1, w2⟩ := w
  have key : ∀ (f i : Nat) (wp : Nat) (ww ws wn wa wb : Int32) (wst wtw wwo wce wke wsk : Nat → Int32) (gp : Nat) (gw gs gn ga gb : Int32) (gst gtw gwo gce gke gsk : Nat → Int32), i ≤ inN m.1 → fdG (fun i => decide (¬ ((rn2 m i).2.2.2.2.2 = (rn2 m' i).2.2.2.2.2 ∧ (rn2 m i).1 = (rn2 m' i).1))) (inN m.1) 0 = fdG (fun i => decide (¬ ((rn2 m i).2.2.2.2.2 = (rn2 m' i).2.2.2.2.2 ∧ (rn2 m i).1 = (rn2 m' i).1))) (inN m.1 - i) i → ll_X7_same1_49 st tw bm st2 tw2 pce pgi pln be to gc le gr ac tg fr mi en cd pce2 pgi2 pln2 be2 to2 gc2 le2 gr2 ac2 tg2 fr2 mi2 en2 cd2 cl cl2 pg kp Φ f wp ww ws wn wa wb wst wtw wwo wce wke wsk gp gw gs gn ga gb gst gtw gwo gce gke gsk (nI (inN m.1)) (nI i) := by
    intro f
    induction f with
    | zero => intros; trivial
    | succ f ih =>
      intro i wp ww ws wn wa wb wst wtw wwo wce wke wsk gp gw gs gn ga gb gst gtw gwo gce gke gsk hi ef
      show bl_X7_same1_49 _ _ _ _ _ _ _ _ _ _ _ _ _ _ _ _ _ _ _ _ _ _ _ _ _ _ _ _ _ _ _ _ _ _ _ _ _ _ _ _ _ _ _ _ _ _ _ _ _ _ _ _ _ _ _ _ _ _ _ _ _ _ _ _ _
      unfold bl_X7_same1_49
      rw [nI_leI (by omega) (by omega), nI_1]
      refine ⟨fun y => ?_, fun y => ?_⟩
      · have e0 : inN m.1 - i = 0 := by omega
        rw [ef, e0] at h
        exact h _ _ _ _ _ _ _ _ _ _ _ _ _ _ _ _ _ _ _ _ _ _ _ _
      · have hp : PMo m.1 2 (rn2 m i) := rn_pmo w0
        have hk : (rn2 m i).2.2.1 ≤ 1000 := rn2_k m i
        have hp2 : PMo m'.1 2 (rn2 m' i) := rn_pmo w1
        have hk2 : (rn2 m' i).2.2.1 ≤ 1000 := rn2_k m' i
        have s1 : (rn2 m i).1 = 1 ∨ (rn2 m i).1 = 2 := rn2_12 m i
        have s2 : (rn2 m' i).1 = 1 ∨ (rn2 m' i).1 = 2 := rn2_12 m' i
        refine sq7_walk (wy := 2) (kn := 1000) hQ hO.1 hO.2.1 hc (by decide) w0 (by omega) (by decide) (fun s' n' k' u' st' tw' wo' ce' ke' sk' hM => ?_)
        refine sq7_walk (wy := 2) (kn := 1000) hQ2 hO2.1 hO2.2.1 hc2 (by decide) w1 (by omega) (by decide) (fun s2' n2' k2' u2' st2' tw2' wo2' ce2' ke2' sk2' hM2 => ?_)
        have hM : CM9 m.1 1000 (rn2 m i) s' n' k' u' wo' ce' ke' := hM
        have hM2 : CM9 m'.1 1000 (rn2 m' i) s2' n2' k2' u2' wo2' ce2' ke2' := hM2
        have es : inN m.1 - i = inN m.1 - (i + 1) + 1 := by omega
        rw [es] at ef
        refine sq1_isEndless hM.1 s1 (sq1_isEndless hM2.1 s2 ?_)
        rw [endl_eq s1 s2]
        refine ⟨fun e => ?_, fun e => ?_⟩
        · rw [fdG_at (by rw [decide_eq_true_eq]; exact fun q => e q.2)] at ef
          rw [ef] at h
          exact h _ _ _ _ _ _ _ _ _ _ _ _ _ _ _ _ _ _ _ _ _ _ _ _
        rw [hM.2.2.2.1, hM2.2.2.2.1]
        refine sq1_wroteLike hM.2.2.2.2.2.2 hM2.2.2.2.2.2.2 (by have := hp.2.2.2.1; omega) (by have := hp2.2.2.2.1; omega) (fun e' => ⟨fun _ => ?_, fun w => absurd w (by decide)⟩) (fun e' => ⟨fun w => absurd rfl w, fun _ => ?_⟩)
        · rw [fdG_no (by rw [decide_eq_true_eq]; exact fun q => q ⟨e', e⟩)] at ef
          exact ih (i + 1) _ _ _ _ _ _ _ _ _ _ _ _ _ _ _ _ _ _ _ _ _ _ _ _ (by omega) ef
        · rw [fdG_at (by rw [decide_eq_true_eq]; exact fun q => e' q.1)] at ef
          rw [ef] at h
          exact h _ _ _ _ _ _ _ _ _ _ _ _ _ _ _ _ _ _ _ _ _ _ _ _
  rw [hQ.2.2.2.2.2.1]
  refine sq2_icount i1 ?_
  rw [← hQ.2.2.2.2.2.1]
  exact fun f => key f 0 _ _ _ _ _ _ _ _ _ _ _ _ _ _ _ _ _ _ _ _ _ _ _ _ (Nat.zero_le _) rfl
theorem sq7_same2 {Φ : PW2} (hQ : PQ9 m.1 pst pce pgi pln be co to gc le gr ac sq tg fr mi en cl cd) (hQ2 : PQ9 m'.1 pst2 pce2 pgi2 pln2 be2 co2 to2 gc2 le2 gr2 ac2 sq2 tg2 fr2 mi2 en2 cl2 cd2) (hO : MO9 m) (hO2 : MO9 m') (hc : CLs m.1 m.2.1 m.2.2.1 st tw) (hc2 : CLs m'.1 m'.2.1 m'.2.2.1 st2 tw2) (hno : bm 2 = 0 → AWq2 (-2) Φ) (hyes : ¬ bm 2 = 0 → AWq2 (sameM m m') Φ) : wl_X7_same2 st tw bm st2 tw2 pce pgi pln be to gc le gr ac tg fr mi en cd pce2 pgi2 pln2 be2 to2 gc2 le2 gr2 ac2 tg2 fr2 mi2 en2 cd2 cl cl2 pg kp wp ww ws wn wa wb wst wtw wwo wce wke wsk gp gw gs gn ga gb gst gtw gwo gce gke gsk Φ := by
  have i1 := hQ.2.2.2.2.2.2.2.2.2.1.1
  have h64 := inN_64 hO.1
  unfold wl_X7_same2
  refine ⟨fun z => absurd z (by decide), fun _ => ⟨fun z => absurd z (by decide), fun _ => ⟨fun z => absurd z (by decide), fun _ => ⟨fun eb => hno eb _ _ _ _ _ _ _ _ _ _ _ _ _ _ _ _ _ _ _ _ _ _ _ _, fun eb => ?_⟩⟩⟩⟩
  have h := hyes eb
  unfold sameM at h
  refine sq7_cmp hQ hQ2 hO hO2 (fun w => ⟨fun z => absurd rfl z, fun _ => by rw [if_neg w] at h; exact h _ _ _ _ _ _ _ _ _ _ _ _ _ _ _ _ _ _ _ _ _ _ _ _⟩) (fun w => ⟨fun _ => ?_, fun z => absurd z (by decide)⟩)
  rw [if_pos w] at h
  obtain ⟨w0, w1, w2⟩ := w
  have key : ∀ (f i : Nat) (wp : Nat) (ww ws wn wa wb : Int32) (wst wtw wwo wce wke wsk : Nat → Int32) (gp : Nat) (gw gs gn ga gb : Int32) (gst gtw gwo gce gke gsk : Nat → Int32), i ≤ inN m.1 → fdG (fun i => decide (¬ ((rn2 m i).2.2.2.2.2 = (rn2 m' i).2.2.2.2.2 ∧ (rn2 m i).1 = (rn2 m' i).1))) (inN m.1) 0 = fdG (fun i => decide (¬ ((rn2 m i).2.2.2.2.2 = (rn2 m' i).2.2.2.2.2 ∧ (rn2 m i).1 = (rn2 m' i).1))) (inN m.1 - i) i → ll_X7_same2_49 st tw bm st2 tw2 pce pgi pln be to gc le gr ac tg fr mi en cd pce2 pgi2 pln2 be2 to2 gc2 le2 gr2 ac2 tg2 fr2 mi2 en2 cd2 cl cl2 pg kp Φ f wp ww ws wn wa wb wst wtw wwo wce wke wsk gp gw gs gn ga gb gst gtw gwo gce gke gsk (nI (inN m.1)) (nI i) := by
    intro f
    induction f with
    | zero => intros; trivial
    | succ f ih =>
      intro i wp ww ws wn wa wb wst wtw wwo wce wke wsk gp gw gs gn ga gb gst gtw gwo gce gke gsk hi ef
      show bl_X7_same2_49 _ _ _ _ _ _ _ _ _ _ _ _ _ _ _ _ _ _ _ _ _ _ _ _ _ _ _ _ _ _ _ _ _ _ _ _ _ _ _ _ _ _ _ _ _ _ _ _ _ _ _ _ _ _ _ _ _ _ _ _ _ _ _ _ _
      unfold bl_X7_same2_49
      rw [nI_leI (by omega) (by omega), nI_1]
      refine ⟨fun y => ?_, fun y => ?_⟩
      · have e0 : inN m.1 - i = 0 := by omega
        rw [ef, e0] at h
        exact h _ _ _ _ _ _ _ _ _ _ _ _ _ _ _ _ _ _ _ _ _ _ _ _
      · have hp : PMo m.1 2 (rn2 m i) := rn_pmo w0
        have hk : (rn2 m i).2.2.1 ≤ 1000 := rn2_k m i
        have hp2 : PMo m'.1 2 (rn2 m' i) := rn_pmo w1
        have hk2 : (rn2 m' i).2.2.1 ≤ 1000 := rn2_k m' i
        have s1 : (rn2 m i).1 = 1 ∨ (rn2 m i).1 = 2 := rn2_12 m i
        have s2 : (rn2 m' i).1 = 1 ∨ (rn2 m' i).1 = 2 := rn2_12 m' i
        refine sq7_walk (wy := 2) (kn := 1000) hQ hO.1 hO.2.1 hc (by decide) w0 (by omega) (by decide) (fun s' n' k' u' st' tw' wo' ce' ke' sk' hM => ?_)
        refine sq7_walk (wy := 2) (kn := 1000) hQ2 hO2.1 hO2.2.1 hc2 (by decide) w1 (by omega) (by decide) (fun s2' n2' k2' u2' st2' tw2' wo2' ce2' ke2' sk2' hM2 => ?_)
        have hM : CM9 m.1 1000 (rn2 m i) s' n' k' u' wo' ce' ke' := hM
        have hM2 : CM9 m'.1 1000 (rn2 m' i) s2' n2' k2' u2' wo2' ce2' ke2' := hM2
        have es : inN m.1 - i = inN m.1 - (i + 1) + 1 := by omega
        rw [es] at ef
        refine sq1_isEndless hM.1 s1 (sq1_isEndless hM2.1 s2 ?_)
        rw [endl_eq s1 s2]
        refine ⟨fun e => ?_, fun e => ?_⟩
        · rw [fdG_at (by rw [decide_eq_true_eq]; exact fun q => e q.2)] at ef
          rw [ef] at h
          exact h _ _ _ _ _ _ _ _ _ _ _ _ _ _ _ _ _ _ _ _ _ _ _ _
        rw [hM.2.2.2.1, hM2.2.2.2.1]
        refine sq1_wroteLike hM.2.2.2.2.2.2 hM2.2.2.2.2.2.2 (by have := hp.2.2.2.1; omega) (by have := hp2.2.2.2.1; omega) (fun e' => ⟨fun _ => ?_, fun w => absurd w (by decide)⟩) (fun e' => ⟨fun w => absurd rfl w, fun _ => ?_⟩)
        · rw [fdG_no (by rw [decide_eq_true_eq]; exact fun q => q ⟨e', e⟩)] at ef
          exact ih (i + 1) _ _ _ _ _ _ _ _ _ _ _ _ _ _ _ _ _ _ _ _ _ _ _ _ (by omega) ef
        · rw [fdG_at (by rw [decide_eq_true_eq]; exact fun q => e' q.1)] at ef
          rw [ef] at h
          exact h _ _ _ _ _ _ _ _ _ _ _ _ _ _ _ _ _ _ _ _ _ _ _ _
  rw [hQ.2.2.2.2.2.1]
  refine sq2_icount i1 ?_
  rw [← hQ.2.2.2.2.2.1]
  exact fun f => key f 0 _ _ _ _ _ _ _ _ _ _ _ _ _ _ _ _ _ _ _ _ _ _ _ _ (Nat.zero_le _) rfl
theorem sq7_same3 {Φ : PW2} (hQ : PQ9 m.1 pst pce pgi pln be co to gc le gr ac sq tg fr mi en cl cd) (hQ2 : PQ9 m'.1 pst2 pce2 pgi2 pln2 be2 co2 to2 gc2 le2 gr2 ac2 sq2 tg2 fr2 mi2 en2 cl2 cd2) (hO : MO9 m) (hO2 : MO9 m') (hc : CLs m.1 m.2.1 m.2.2.1 st tw) (hc2 : CLs m'.1 m'.2.1 m'.2.2.1 st2 tw2) (hno : bm 3 = 0 → AWq2 (-2) Φ) (hyes : ¬ bm 3 = 0 → AWq2 (sameM m m') Φ) : wl_X7_same3 st tw bm st2 tw2 pce pgi pln be to gc le gr ac tg fr mi en cd pce2 pgi2 pln2 be2 to2 gc2 le2 gr2 ac2 tg2 fr2 mi2 en2 cd2 cl cl2 pg kp wp ww ws wn wa wb wst wtw wwo wce wke wsk gp gw gs gn ga gb gst gtw gwo gce gke gsk Φ := by
  have i1 := hQ.2.2.2.2.2.2.2.2.2.1.1
  have h64 := inN_64 hO.1
  unfold wl_X7_same3
  refine ⟨fun z => absurd z (by decide), fun _ => ⟨fun z => absurd z (by decide), fun _ => ⟨fun z => absurd z (by decide), fun _ => ⟨fun eb => hno eb _ _ _ _ _ _ _ _ _ _ _ _ _ _ _ _ _ _ _ _ _ _ _ _, fun eb => ?_⟩⟩⟩⟩
  have h := hyes eb
  unfold sameM at h
  refine sq7_cmp hQ hQ2 hO hO2 (fun w => ⟨fun z => absurd rfl z, fun _ => by rw [if_neg w] at h; exact h _ _ _ _ _ _ _ _ _ _ _ _ _ _ _ _ _ _ _ _ _ _ _ _⟩) (fun w => ⟨fun _ => ?_, fun z => absurd z (by decide)⟩)
  rw [if_pos w] at h
  obtain ⟨w0, w1, w2⟩ := w
  have key : ∀ (f i : Nat) (wp : Nat) (ww ws wn wa wb : Int32) (wst wtw wwo wce wke wsk : Nat → Int32) (gp : Nat) (gw gs gn ga gb : Int32) (gst gtw gwo gce gke gsk : Nat → Int32), i ≤ inN m.1 → fdG (fun i => decide (¬ ((rn2 m i).2.2.2.2.2 = (rn2 m' i).2.2.2.2.2 ∧ (rn2 m i).1 = (rn2 m' i).1))) (inN m.1) 0 = fdG (fun i => decide (¬ ((rn2 m i).2.2.2.2.2 = (rn2 m' i).2.2.2.2.2 ∧ (rn2 m i).1 = (rn2 m' i).1))) (inN m.1 - i) i → ll_X7_same3_49 st tw bm st2 tw2 pce pgi pln be to gc le gr ac tg fr mi en cd pce2 pgi2 pln2 be2 to2 gc2 le2 gr2 ac2 tg2 fr2 mi2 en2 cd2 cl cl2 pg kp Φ f wp ww ws wn wa wb wst wtw wwo wce wke wsk gp gw gs gn ga gb gst gtw gwo gce gke gsk (nI (inN m.1)) (nI i) := by
    intro f
    induction f with
    | zero => intros; trivial
    | succ f ih =>
      intro i wp ww ws wn wa wb wst wtw wwo wce wke wsk gp gw gs gn ga gb gst gtw gwo gce gke gsk hi ef
      show bl_X7_same3_49 _ _ _ _ _ _ _ _ _ _ _ _ _ _ _ _ _ _ _ _ _ _ _ _ _ _ _ _ _ _ _ _ _ _ _ _ _ _ _ _ _ _ _ _ _ _ _ _ _ _ _ _ _ _ _ _ _ _ _ _ _ _ _ _ _
      unfold bl_X7_same3_49
      rw [nI_leI (by omega) (by omega), nI_1]
      refine ⟨fun y => ?_, fun y => ?_⟩
      · have e0 : inN m.1 - i = 0 := by omega
        rw [ef, e0] at h
        exact h _ _ _ _ _ _ _ _ _ _ _ _ _ _ _ _ _ _ _ _ _ _ _ _
      · have hp : PMo m.1 2 (rn2 m i) := rn_pmo w0
        have hk : (rn2 m i).2.2.1 ≤ 1000 := rn2_k m i
        have hp2 : PMo m'.1 2 (rn2 m' i) := rn_pmo w1
        have hk2 : (rn2 m' i).2.2.1 ≤ 1000 := rn2_k m' i
        have s1 : (rn2 m i).1 = 1 ∨ (rn2 m i).1 = 2 := rn2_12 m i
        have s2 : (rn2 m' i).1 = 1 ∨ (rn2 m' i).1 = 2 := rn2_12 m' i
        refine sq7_walk (wy := 2) (kn := 1000) hQ hO.1 hO.2.1 hc (by decide) w0 (by omega) (by decide) (fun s' n' k' u' st' tw' wo' ce' ke' sk' hM => ?_)
        refine sq7_walk (wy := 2) (kn := 1000) hQ2 hO2.1 hO2.2.1 hc2 (by decide) w1 (by omega) (by decide) (fun s2' n2' k2' u2' st2' tw2' wo2' ce2' ke2' sk2' hM2 => ?_)
        have hM : CM9 m.1 1000 (rn2 m i) s' n' k' u' wo' ce' ke' := hM
        have hM2 : CM9 m'.1 1000 (rn2 m' i) s2' n2' k2' u2' wo2' ce2' ke2' := hM2
        have es : inN m.1 - i = inN m.1 - (i + 1) + 1 := by omega
        rw [es] at ef
        refine sq1_isEndless hM.1 s1 (sq1_isEndless hM2.1 s2 ?_)
        rw [endl_eq s1 s2]
        refine ⟨fun e => ?_, fun e => ?_⟩
        · rw [fdG_at (by rw [decide_eq_true_eq]; exact fun q => e q.2)] at ef
          rw [ef] at h
          exact h _ _ _ _ _ _ _ _ _ _ _ _ _ _ _ _ _ _ _ _ _ _ _ _
        rw [hM.2.2.2.1, hM2.2.2.2.1]
        refine sq1_wroteLike hM.2.2.2.2.2.2 hM2.2.2.2.2.2.2 (by have := hp.2.2.2.1; omega) (by have := hp2.2.2.2.1; omega) (fun e' => ⟨fun _ => ?_, fun w => absurd w (by decide)⟩) (fun e' => ⟨fun w => absurd rfl w, fun _ => ?_⟩)
        · rw [fdG_no (by rw [decide_eq_true_eq]; exact fun q => q ⟨e', e⟩)] at ef
          exact ih (i + 1) _ _ _ _ _ _ _ _ _ _ _ _ _ _ _ _ _ _ _ _ _ _ _ _ (by omega) ef
        · rw [fdG_at (by rw [decide_eq_true_eq]; exact fun q => e' q.1)] at ef
          rw [ef] at h
          exact h _ _ _ _ _ _ _ _ _ _ _ _ _ _ _ _ _ _ _ _ _ _ _ _
  rw [hQ.2.2.2.2.2.1]
  refine sq2_icount i1 ?_
  rw [← hQ.2.2.2.2.2.1]
  exact fun f => key f 0 _ _ _ _ _ _ _ _ _ _ _ _ _ _ _ _ _ _ _ _ _ _ _ _ (Nat.zero_le _) rfl
theorem sq7_samex {x : Int32} {Φ : Int32 → Prop} (hx : x < 0 ∨ 4 ≤ x) (h : Φ (-2)) : wl_X7_samex bm x Φ := by
  unfold wl_X7_samex wl_X7_within
  exact ⟨fun _ => ⟨fun _ => h, fun z => absurd rfl z⟩, fun z => ⟨fun _ => ⟨fun _ => h, fun z => absurd rfl z⟩, fun z2 => (hx.elim z z2).elim⟩⟩
end CSM
