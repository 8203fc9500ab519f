section RS9
variable {m : MS} {st ce ip ln be co ca ic il im ac aC ls tw lf lt cd : Nat → Int32} {a0 w0 n0 e0 f0 u0 d0 th : Int32} {k1 k2 k3 k4 k5 k6 k7 k8 k9 vo he we sr go pk mg mb mp de : Nat → Int32}
/-- most, by which, peak of the first inputs, as the reference keeps them -/
def SVr (g : PGr) (k : Nat) (mg mb mp : Nat → Int32) : Prop := (k = 0 → ∀ l, l < 16 → mg l = -1) ∧ (¬ k = 0 → ∀ l, l < 16 → mg l = nI ((svF (sgN 1000 g) k).1 l) ∧ mb l = nI ((svF (sgN 1000 g) k).2.1 l)) ∧ AGn 16 (svF (sgN 1000 g) k).2.2 mp
theorem sv_first {sg : Nat → PG9} (l : Nat) : (svF sg 1).1 l = (sg 0).2.1 l ∧ (svF sg 1).2.1 l = 0 := by
  rw [svF_1, svF_2]
  have e : (svF sg 0).1 l = 0 := rfl
  have e2 : (svF sg 0).2.1 l = 0 := rfl
  rw [e, e2]
  refine ⟨?_, ?_⟩
  · split <;> omega
  · split <;> rfl
def DWr (r : Int32) (g : PGr) (Φ : PWr) : Prop := ∀ a w n e f u d k1 k2 k3 k4 k5 k6 k7 k8 k9 vo he we sr go pk mg mb mp, (¬ r = 0 → SVr g (inN g) mg mb mp) → Φ r a w n e f u d k1 k2 k3 k4 k5 k6 k7 k8 k9 vo he we sr go pk mg mb mp
theorem in_pos {g : PGr} (hG : GK9 g) : 0 < inN g := by
  have h2 := hG.2.2.2.2.1
  unfold inN
  match hl : g.2.2.1, h2 with
  | [], _ => exact Nat.one_pos
  | [a], _ => rw [many_1]; exact wid_pos a
  | [a, b], _ => rw [many_2]; exact Nat.mul_pos (wid_pos a) (wid_pos b)
  | a :: b :: c :: r, h2 => exact absurd h2 (by show ¬ (r.length + 3 ≤ 2); omega)
theorem sq8_wears {Φ : PWr} (hR : RPY 0 m st ce ip ln be co ca ic il im ac aC ls tw lf lt cd) (hO : MO9 m) (h : DWr (if 0 < nL m.1 ∧ alG m.1 (inN m.1) = true then 1 else 0) m.1 Φ) : wl_X8_wears ce ip ln be ca ic il im ac aC ls tw lf lt cd a0 w0 n0 e0 f0 u0 d0 k1 k2 k3 k4 k5 k6 k7 k8 k9 vo he we sr go pk mg mb mp Φ := by
  have h16 : nL m.1 ≤ 16 := hO.1.2.2.2.2.2.2.2.2.1
  have h64 := inN_64 hO.1
  have hip := in_pos hO.1
  have hln : ln 0 = nI (nL m.1) := hR.1.2.2.2.1
  have q0 : ln 0 = 0 ↔ nL m.1 = 0 := by rw [hln]; exact nI_eq (b := 0) (by omega) (by decide)
  have no : ¬ (0 < nL m.1 ∧ alG m.1 (inN m.1) = true) → ∀ a w n e f u d k1 k2 k3 k4 k5 k6 k7 k8 k9 vo he we sr go pk mg mb mp, Φ 0 a w n e f u d k1 k2 k3 k4 k5 k6 k7 k8 k9 vo he we sr go pk mg mb mp := by
    intro z a w n e f u d k1 k2 k3 k4 k5 k6 k7 k8 k9 vo he we sr go pk mg mb mp
    rw [if_neg z] at h
    exact h _ _ _ _ _ _ _ _ _ _ _ _ _ _ _ _ _ _ _ _ _ _ _ _ _ (fun q => absurd rfl q)
  -- the inputs
  have k30 : ∀ (fo i : Nat) (a0 w0 n0 e0 f0 u0 d0 : Int32) (k1 k2 k3 k4 k5 k6 k7 k8 k9 vo he we sr go pk mg mb mp : Nat → Int32), i ≤ inN m.1 → (i = 0 ∨ 0 < nL m.1) → alG m.1 i = true → SVr m.1 i mg mb mp → ll_X8_wears_30 ce ip ln be ca ic il im ac aC ls tw lf lt cd Φ fo a0 w0 n0 e0 f0 u0 d0 k1 k2 k3 k4 k5 k6 k7 k8 k9 vo he we sr go pk mg mb mp (nI i) := by
    intro fo
    induction fo with
    | zero => intros; trivial
    | succ fo ih =>
      intro i a0 w0 n0 e0 f0 u0 d0 k1 k2 k3 k4 k5 k6 k7 k8 k9 vo he we sr go pk mg mb mp hi hin hal hsv
      show bl_X8_wears_30 _ _ _ _ _ _ _ _ _ _ _ _ _ _ _ _ _ _ _ _ _ _ _ _ _ _ _ _ _ _ _ _ _ _ _ _ _ _ _ _ _ _ _
      unfold bl_X8_wears_30
      refine sq8_inputsOf (p := 0) hR.1.2.2.1 hO.1 (by decide) ?_
      rw [nI_leI (by omega) (by omega), q0]
      refine ⟨fun y => ?_, fun y => ⟨fun y2 => ?_, fun y2 => no (fun q => by omega) _ _ _ _ _ _ _ _ _ _ _ _ _ _ _ _ _ _ _ _ _ _ _ _ _⟩⟩
      · have e : i = inN m.1 := by omega
        subst e
        rw [if_pos ⟨by omega, hal⟩] at h
        exact h _ _ _ _ _ _ _ _ _ _ _ _ _ _ _ _ _ _ _ _ _ _ _ _ _ (fun _ => hsv)
      · have hn : 0 < nL m.1 := by omega
        refine sq8_tries (p := 0) (wy := 1) hO.1 (by decide) hR.1 hR.2 hO.2.1 (by decide) hn (by omega) (fun n e f2 u ma k1 k2 k3 k4 k5 k6 k7 k8 k9 vo he we sr go pk hM hk hg => ?_)
        have e12 := hM.e0
        have eg := git_be (g := m.1) (be := brG m.1 m.2.1 m.2.2.1) (be' := fun _ => 0) (wy := 1) (by decide) 1000 (pg0 (bgG m.1 i (fun _ => 0)))
        rw [eg, ← sgN_eq] at hg
        have er : (rnG m.1 (brG m.1 m.2.1 m.2.2.1) 1 (bgG m.1 i (fun _ => 0))).1 = 2 ↔ (sgN 1000 m.1 i).1.1 = 2 := by
          rw [rnG_e2, sgN_eq, ← eg, git_1, pg0_1]
        have h12 : (rnG m.1 (brG m.1 m.2.1 m.2.2.1) 1 (bgG m.1 i (fun _ => 0))).1 = 1 ∨ (rnG m.1 (brG m.1 m.2.1 m.2.2.1) 1 (bgG m.1 i (fun _ => 0))).1 = 2 := rn_12 (by decide)
        have hf0 : f2 = 0 := e12.2.mpr (by omega)
        have he0 : e = 0 ↔ ¬ (sgN 1000 m.1 i).1.1 = 2 := e12.1.trans (not_congr er)
        have hgo := hg.1
        have hpk := hg.2
        have hgl := fun l => sg_gone (g := m.1) (i := i) (l := l)
        have hsl := fun l => (sv_gone (g := m.1) i l).1
        have x1 := fun l => svF_1 (sgN 1000 m.1) i l
        have x2 := fun l => svF_2 (sgN 1000 m.1) i l
        have x3 := fun l => svF_3 (sgN 1000 m.1) i l
        have xf : i = 0 → ∀ l, (svF (sgN 1000 m.1) (i + 1)).1 l = (sgN 1000 m.1 i).2.1 l ∧ (svF (sgN 1000 m.1) (i + 1)).2.1 l = 0 := fun z l => by rw [z]; exact sv_first l
        have hal' : (sgN 1000 m.1 i).1.1 = 2 → alG m.1 (i + 1) = true := fun z => alG_s.mpr ⟨hal, z⟩
        have nal : ¬ (sgN 1000 m.1 i).1.1 = 2 → ¬ (0 < nL m.1 ∧ alG m.1 (inN m.1) = true) := fun z q => z (alG_s.mp (alG_le (show i + 1 ≤ inN m.1 by omega) q.2)).2
        obtain ⟨v1, v2, v3⟩ := hsv
        have ihn : alG m.1 (i + 1) = true → ∀ (a0 w0 n0 e0 f0 u0 d0 : Int32) (k1 k2 k3 k4 k5 k6 k7 k8 k9 vo he we sr go pk mg mb mp : Nat → Int32), SVr m.1 (i + 1) mg mb mp → ll_X8_wears_30 ce ip ln be ca ic il im ac aC ls tw lf lt cd Φ fo a0 w0 n0 e0 f0 u0 d0 k1 k2 k3 k4 k5 k6 k7 k8 k9 vo he we sr go pk mg mb mp (nI (i + 1)) := fun ha a0 w0 n0 e0 f0 u0 d0 k1 k2 k3 k4 k5 k6 k7 k8 k9 vo he we sr go pk mg mb mp hv => ih (i + 1) a0 w0 n0 e0 f0 u0 d0 k1 k2 k3 k4 k5 k6 k7 k8 k9 vo he we sr go pk mg mb mp (by omega) (Or.inr hn) ha hv
        unfold SVr at ihn
        generalize svF (sgN 1000 m.1) (i + 1) = S1 at x1 x2 x3 xf ihn
        -- the lines
        have k68 : (sgN 1000 m.1 i).1.1 = 2 → ∀ (f l : Nat) (mg' mb' mp' : Nat → Int32), l ≤ 16 → (∀ j, j < 16 → (j < l → mg' j = nI (S1.1 j) ∧ mb' j = nI (S1.2.1 j) ∧ mp' j = S1.2.2 j) ∧ (l ≤ j → mg' j = mg j ∧ mb' j = mb j ∧ mp' j = mp j)) → ll_X8_wears_68 ce ip ln be ca ic il im ac aC ls tw lf lt cd (ll_X8_wears_30 ce ip ln be ca ic il im ac aC ls tw lf lt cd Φ fo) Φ f (nI 0) (nI 1) n e f2 u ma k1 k2 k3 k4 k5 k6 k7 k8 k9 vo he we sr go pk mg' mb' mp' (nI i) (nI l) := by
          intro hY f
          induction f with
          | zero => intros; trivial
          | succ f ih2 =>
            intro l mg' mb' mp' hl hr
            show bl_X8_wears_68 _ _ _ _ _ _ _ _ _ _ _ _ _ _ _ _ _ _ _ _ _ _ _ _ _ _ _ _ _ _ _ _ _ _ _ _ _ _ _ _ _ _ _ _ _
            unfold bl_X8_wears_68
            have q16 : (16 : Int32) ≤ nI l ↔ 16 ≤ l := nI_leI (a := 16) (by decide) (by omega)
            rw [q16, nI_clamp (n := l) (by omega), nI_1, nI_1]
            refine ⟨fun z => ihn (hal' hY) _ _ _ _ _ _ _ _ _ _ _ _ _ _ _ _ _ _ _ _ _ _ _ _ _ ⟨fun q => absurd q (by omega), fun _ j hj => ⟨((hr j hj).1 (by omega)).1, ((hr j hj).1 (by omega)).2.1⟩, fun j hj => ((hr j hj).1 (by omega)).2.2⟩, fun z _ _ _ _ _ => ?_⟩
            obtain ⟨r1, r2, r3⟩ := (hr l (by omega)).2 (Nat.le_refl _)
            have epk : (if mp' l < pk l then pk l else mp' l) = S1.2.2 l := by
              rw [r3, v3 l (by omega), hpk l (by omega), x3 l]
              rfl
            rw [epk, r1, hgo l (by omega)]
            have hd : (mg l < nI ((sgN 1000 m.1 i).2.1 l) → S1.1 l = (sgN 1000 m.1 i).2.1 l ∧ S1.2.1 l = i) ∧ (¬ mg l < nI ((sgN 1000 m.1 i).2.1 l) → mg l = nI (S1.1 l) ∧ mb l = nI (S1.2.1 l)) := by
              by_cases i0 : i = 0
              · obtain ⟨f1, f2'⟩ := xf i0 l
                refine ⟨fun _ => ⟨f1, by omega⟩, fun q => absurd ?_ q⟩
                rw [v1 i0 l (by omega)]
                exact Int32.lt_iff_toInt_lt.mpr (by
                  rw [nI_toInt (by have := hgl l; omega)]
                  have : ((-1 : Int32)).toInt = -1 := rfl
                  omega)
              · obtain ⟨f1, f2'⟩ := v2 i0 l (by omega)
                have g1 := hgl l
                have g2 := hsl l
                rw [f1, nI_ltI (by omega) (by omega)]
                refine ⟨fun q => ?_, fun q => ?_⟩
                · rw [x1 l, x2 l, if_pos q, if_pos q]; exact ⟨rfl, rfl⟩
                · rw [x1 l, x2 l, if_neg q, if_neg q]; exact ⟨rfl, f2'⟩
            refine ⟨fun q _ _ _ => ih2 (l + 1) _ _ _ (by omega) (fun j hj => ⟨fun a => ?_, fun a => ?_⟩), fun q => ih2 (l + 1) _ _ _ (by omega) (fun j hj => ⟨fun a => ?_, fun a => ?_⟩)⟩
            · by_cases ej : j = l
              · obtain ⟨d1, d2⟩ := hd.1 q
                rw [ej, pk_us, pk_us, pk_us, d1, d2]; exact ⟨rfl, rfl, rfl⟩
              · rw [pk_un ej, pk_un ej, pk_un ej]; exact (hr j hj).1 (by omega)
            · rw [pk_un (by omega), pk_un (by omega), pk_un (by omega)]; exact (hr j hj).2 (by omega)
            · by_cases ej : j = l
              · obtain ⟨d1, d2⟩ := hd.2 q
                rw [ej, pk_us, r1, r2]; exact ⟨d1, d2, rfl⟩
              · rw [pk_un ej]; exact (hr j hj).1 (by omega)
            · rw [pk_un (by omega)]; exact (hr j hj).2 (by omega)
        unfold wl_X8_isEndless
        refine ⟨fun z => ⟨fun _ f => ?_, fun q => absurd rfl q⟩, fun z => ⟨fun q => absurd hf0 q, fun _ => ⟨fun q => absurd q (by decide), fun _ => no (nal (he0.mp z)) _ _ _ _ _ _ _ _ _ _ _ _ _ _ _ _ _ _ _ _ _ _ _ _ _⟩⟩⟩
        have hY : (sgN 1000 m.1 i).1.1 = 2 := by
          by_cases q : (sgN 1000 m.1 i).1.1 = 2
          · exact q
          · exact absurd (he0.mpr q) z
        exact k68 hY f 0 mg mb mp (Nat.zero_le _) (fun j hj => ⟨fun a => absurd a (Nat.not_lt_zero _), fun _ => ⟨rfl, rfl, rfl⟩⟩)
  have k2 : ∀ (f l : Nat) (mg mp : Nat → Int32), l ≤ 16 → (∀ j, j < l → mg j = -1 ∧ mp j = 0) → ll_X8_wears_2 ce ip ln be ca ic il im ac aC ls tw lf lt cd Φ f a0 w0 n0 e0 f0 u0 d0 k1 k2 k3 k4 k5 k6 k7 k8 k9 vo he we sr go pk mg mb mp (nI l) := by
    intro f
    induction f with
    | zero => intros; trivial
    | succ f ih =>
      intro l mg mp hl hr
      show bl_X8_wears_2 _ _ _ _ _ _ _ _ _ _ _ _ _ _ _ _ _ _ _ _ _ _ _ _ _ _ _ _ _ _ _ _ _ _ _ _ _ _ _ _ _ _ _
      unfold bl_X8_wears_2
      have q16 : (16 : Int32) ≤ nI l ↔ 16 ≤ l := nI_leI (a := 16) (by decide) (by omega)
      rw [q16, nI_clamp (n := l) (by omega), nI_1]
      refine ⟨fun z f => k30 f 0 _ _ _ _ _ _ _ _ _ _ _ _ _ _ _ _ _ _ _ _ _ _ mg mb mp (Nat.zero_le _) (Or.inl rfl) rfl ⟨fun _ j hj => (hr j (by omega)).1, fun q => absurd rfl q, fun j hj => (hr j (by omega)).2⟩, fun z _ _ => ih (l + 1) _ _ (by omega) (fun j hj => ?_)⟩
      by_cases e : j = l
      · rw [e, pk_us, pk_us]; exact ⟨rfl, rfl⟩
      · rw [pk_un e, pk_un e]; exact hr j (by omega)
  exact fun f => k2 f 0 mg mp (Nat.zero_le _) (fun j hj => absurd hj (Nat.not_lt_zero _))
def EWq (r : Int32) (Φ : PWm) : Prop := ∀ a w n e f u d k1 k2 k3 k4 k5 k6 k7 k8 k9 vo he we sr go pk mg mb mp, Φ r 0 a w n e f u d k1 k2 k3 k4 k5 k6 k7 k8 k9 vo he we sr go pk mg mb mp
theorem sq8_most {x y : Int32} {Φ : PWm} (hR : RPY 0 m st ce ip ln be co ca ic il im ac aC ls tw lf lt cd) (hO : MO9 m) (h : EWq (f_most m x y) Φ) : wl_X8_most ce ip ln be ca ic il im ac aC ls tw lf lt cd x y th a0 w0 n0 e0 f0 u0 d0 k1 k2 k3 k4 k5 k6 k7 k8 k9 vo he we sr go pk mg mb mp Φ := by
  have h16 : nL m.1 ≤ 16 := hO.1.2.2.2.2.2.2.2.2.1
  have hip := in_pos hO.1
  have hln : ln 0 = nI (nL m.1) := hR.1.2.2.2.1
  unfold wl_X8_most
  unfold f_most at h
  refine sq8_isLine hln (by omega) (fun e => ⟨fun _ => by rw [e] at h; exact h _ _ _ _ _ _ _ _ _ _ _ _ _ _ _ _ _ _ _ _ _ _ _ _ _, fun z => absurd rfl z⟩) (fun l hl ex e => ⟨fun z => absurd z (by decide), fun _ => ?_⟩)
  rw [e] at h
  have h : EWq (if alG m.1 (inN m.1) = true then (if y = 0 then nI ((svF (sgN 1000 m.1) (inN m.1)).1 l) else if y = 1 then nI ((svF (sgN 1000 m.1) (inN m.1)).2.1 l) else if y = 2 then pkG m.1 l else -1) else -1) Φ := h
  refine sq8_wi (m := 2) (by decide) (fun e2 => ⟨fun _ => ?_, fun z => absurd rfl z⟩) (fun yi hyi ey _ => ⟨fun z => absurd z (by decide), fun _ => sq8_wears hR hO (fun a w n e f u d k1 k2 k3 k4 k5 k6 k7 k8 k9 vo he we sr go pk mg mb mp hs => ?_)⟩)
  · have q := fun i hi => ixO_no (n := 3) (by decide) e2 ∘ fun (z : y = nI i) => ⟨i, hi, z⟩
    rw [if_neg (show ¬ y = 0 from q 0 (by decide)), if_neg (show ¬ y = 1 from q 1 (by decide)), if_neg (show ¬ y = 2 from q 2 (by decide)), ite_self] at h
    exact h _ _ _ _ _ _ _ _ _ _ _ _ _ _ _ _ _ _ _ _ _ _ _ _ _
  · by_cases ha : alG m.1 (inN m.1) = true
    · rw [if_pos ⟨by omega, ha⟩] at hs ⊢
      rw [if_pos ha] at h
      obtain ⟨_, s2, s3⟩ := hs (by decide)
      obtain ⟨v1, v2⟩ := s2 (by omega) l (by omega)
      rw [ex, nI_clamp (n := l) (by omega), v1, v2, s3 l (by omega), ← pkG_eq]
      refine ⟨fun _ => ⟨fun z0 => ⟨fun z1 _ => ?_, fun z1 _ => ?_⟩, fun z0 _ => ?_⟩, fun z => absurd z (by decide)⟩
      · have : yi = 2 := by
          have q0 : ¬ yi = 0 := fun q => z0 (by rw [ey, q]; rfl)
          have q1 : ¬ yi = 1 := fun q => z1 (by rw [ey, q]; rfl)
          omega
        subst this
        rw [if_neg z0, if_neg z1, if_pos (by rw [ey]; rfl)] at h
        exact h _ _ _ _ _ _ _ _ _ _ _ _ _ _ _ _ _ _ _ _ _ _ _ _ _
      · rw [if_neg z0, if_pos z1] at h
        exact h _ _ _ _ _ _ _ _ _ _ _ _ _ _ _ _ _ _ _ _ _ _ _ _ _
      · rw [if_pos z0] at h
        exact h _ _ _ _ _ _ _ _ _ _ _ _ _ _ _ _ _ _ _ _ _ _ _ _ _
    · rw [if_neg (fun q => ha q.2)]
      rw [if_neg ha] at h
      exact ⟨fun z => absurd rfl z, fun _ => h _ _ _ _ _ _ _ _ _ _ _ _ _ _ _ _ _ _ _ _ _ _ _ _ _⟩
theorem sq8_never {Φ : PWm} (hR : RPY 0 m st ce ip ln be co ca ic il im ac aC ls tw lf lt cd) (hO : MO9 m) (h : EWq (f_never m) Φ) : wl_X8_never ce ip ln be ca ic il im ac aC ls tw lf lt cd th a0 w0 n0 e0 f0 u0 d0 k1 k2 k3 k4 k5 k6 k7 k8 k9 vo he we sr go pk mg mb mp Φ := by
  have h16 : nL m.1 ≤ 16 := hO.1.2.2.2.2.2.2.2.2.1
  have hip := in_pos hO.1
  have hln : ln 0 = nI (nL m.1) := hR.1.2.2.2.1
  unfold wl_X8_never
  unfold f_never at h
  refine sq8_wears hR hO (fun a w n e f u d k1 k2 k3 k4 k5 k6 k7 k8 k9 vo he we sr go pk mg mb mp hs => ?_)
  by_cases ha : 0 < nL m.1 ∧ alG m.1 (inN m.1) = true
  · rw [if_pos ha] at hs h ⊢
    obtain ⟨_, s2, s3⟩ := hs (by decide)
    have hg := fun l => (sv_gone (g := m.1) (inN m.1) l).1
    have s2 := s2 (by omega)
    generalize svF (sgN 1000 m.1) (inN m.1) = S at s2 h hg
    refine ⟨fun _ => ?_, fun z => absurd z (by decide)⟩
    have key : ∀ (f' l : Nat), l ≤ nL m.1 → ll_X8_never_18 ce ip ln be ca ic il im ac aC ls tw lf lt cd Φ f' 0 a w n e f u d k1 k2 k3 k4 k5 k6 k7 k8 k9 vo he we sr go pk mg mb mp (nvG S.1 l) (nI l) := by
      intro f'
      induction f' with
      | zero => intros; trivial
      | succ f' ih =>
        intro l hl
        show bl_X8_never_18 _ _ _ _ _ _ _ _ _ _ _ _ _ _ _ _ _ _ _ _ _ _ _ _ _ _ _ _ _ _ _ _ _ _ _ _ _ _ _ _ _ _ _ _ _
        unfold bl_X8_never_18
        rw [hln, nI_leI (by omega) (by omega), nI_clamp (n := l) (by omega), nI_1]
        refine ⟨fun z => ?_, fun z _ => ?_⟩
        · have e : l = nL m.1 := by omega
          subst e
          exact h _ _ _ _ _ _ _ _ _ _ _ _ _ _ _ _ _ _ _ _ _ _ _ _ _
        · have hl1 : l < nL m.1 := by omega
          have hgl := hg l
          have q0 : nI (S.1 l) = 0 ↔ S.1 l = 0 := nI_eq (b := 0) (by omega) (by decide)
          have es : nvG S.1 (l + 1) = if S.1 l = 0 then nvG S.1 l ||| ((1 : Int32) <<< (nI l &&& 31)) else nvG S.1 l := rfl
          have nx := ih (l + 1) (by omega)
          rw [(s2 l (by omega)).1, q0, Int32.or_zero]
          refine ⟨fun y => ?_, fun y => ?_⟩
          · rw [es, if_neg y] at nx; exact nx
          · rw [es, if_pos y] at nx; exact nx
    exact fun f' => key f' 0 (Nat.zero_le _)
  · rw [if_neg ha] at h ⊢
    exact ⟨fun z => absurd rfl z, fun _ => h _ _ _ _ _ _ _ _ _ _ _ _ _ _ _ _ _ _ _ _ _ _ _ _ _⟩
end RS9
