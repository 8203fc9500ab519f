def mxI (a b : Int32) : Int32 := if a < b then b else a
/-- the machine, how often each line was gone over, how worn it was at most -/
abbrev PG9 : Type := PM × (Nat → Nat) × (Nat → Int32)
def gst (g : PGr) (be : Nat → Int32) (wy : Nat) (y : PG9) : PG9 := if y.1.1 = 1 ∧ ¬ hol be wy y.1 then (wrk g wy y.1, updN y.2.1 y.1.2.1 (y.2.1 y.1.2.1 + 1), upd y.2.2 y.1.2.1 (mxI (y.2.2 y.1.2.1) (y.1.2.2.2.1 y.1.2.1 + 1))) else (stp g be wy y.1, y.2)
def gitG (g : PGr) (be : Nat → Int32) (wy : Nat) : Nat → PG9 → PG9
  | 0, y => y
  | n + 1, y => gitG g be wy n (gst g be wy y)
def pg0 (x : PM) : PG9 := (x, fun _ => 0, fun _ => 0)
section GI
variable {g : PGr} {be : Nat → Int32} {wy : Nat} {y : PG9}
theorem gst_1 : (gst g be wy y).1 = stp g be wy y.1 := by
  unfold gst
  split
  · rename_i h
    exact (stp_wrk h.1 h.2).symm
  · rfl
theorem gst_off (h : ¬ y.1.1 = 1) : gst g be wy y = y := by
  unfold gst
  rw [if_neg (fun q => h q.1), stp_off h]
theorem gst_hol (h : y.1.1 = 1) (h2 : hol be wy y.1) : gst g be wy y = ((3, y.1.2), y.2) := by
  unfold gst
  rw [if_neg (fun q => q.2 h2), stp_hol h h2]
theorem gst_wrk (h : y.1.1 = 1) (h2 : ¬ hol be wy y.1) : gst g be wy y = (wrk g wy y.1, updN y.2.1 y.1.2.1 (y.2.1 y.1.2.1 + 1), upd y.2.2 y.1.2.1 (mxI (y.2.2 y.1.2.1) (y.1.2.2.2.1 y.1.2.1 + 1))) := if_pos ⟨h, h2⟩
theorem git_1 : ∀ (n : Nat) (y : PG9), (gitG g be wy n y).1 = itG g be wy n y.1 := by
  intro n
  induction n with
  | zero => intro y; rfl
  | succ n ih =>
    intro y
    show (gitG g be wy n (gst g be wy y)).1 = itG g be wy n (stp g be wy y.1)
    rw [ih, gst_1]
theorem git_add : ∀ (a b : Nat) (y : PG9), gitG g be wy (a + b) y = gitG g be wy b (gitG g be wy a y) := by
  intro a
  induction a with
  | zero => intro b x; rw [Nat.zero_add]; rfl
  | succ a ih =>
    intro b x
    rw [show a + 1 + b = a + b + 1 by omega]
    exact ih b (gst g be wy x)
theorem git_one (n : Nat) : gitG g be wy (n + 1) y = gst g be wy (gitG g be wy n y) := git_add n 1 y
theorem git_off (n : Nat) (h : ¬ y.1.1 = 1) : gitG g be wy n y = y := by
  induction n with
  | zero => rfl
  | succ n ih =>
    show gitG g be wy n (gst g be wy y) = y
    rw [gst_off h, ih]
theorem git_to {a b : Nat} (h : a ≤ b) (h1 : ¬ (gitG g be wy a y).1.1 = 1) : gitG g be wy b y = gitG g be wy a y := by
  have := git_add (g := g) (be := be) (wy := wy) a (b - a) y
  rw [show a + (b - a) = b by omega, git_off _ h1] at this
  exact this
end GI
section RG9
variable {g : PGr} {p wy : Nat} {x : PM} {st ce ip ln be co ca ic il im ac aC ls tw lf lt cd : Nat → Int32} {sf tf : Nat → Nat}
theorem SB.beZ (h : SB p g.1 st be co) {s : Nat} (hs : s < nS g) : be (4 * p + s) = nI (beS g s) ∧ co (4 * p + s) = nI (coS g s) := by
  have hs : s < g.1.length := hs
  have := h.2 s _ (List.getElem?_eq_getElem hs)
  unfold beS coS
  rw [List.getD_eq_getElem?_getD, List.getElem?_eq_getElem hs]
  exact this
theorem bear_eq {l : Nat} (hS : SB p g.1 st be co) (hG : GK9 g) (hL : LYo g sf tf) (hY : YB p (nL g) sf tf ls tw) (hp : p < 6) (hl : l < nL g) : be ((4 * nI p) + ls ((16 * nI p) + nI l).toNatClampNeg).toNatClampNeg * tw ((16 * nI p) + nI l).toNatClampNeg = brG g sf tf l := by
  have h16 : nL g ≤ 16 := hG.2.2.2.2.2.2.2.2.1
  have h4 : nS g ≤ 4 := hG.1
  obtain ⟨h1, h2, h3⟩ := hL l hl
  obtain ⟨y1, y2⟩ := hY l hl
  have e16 : ((16 : Int32) * nI p) + nI l = nI (16 * p + l) := by rw [show (16 : Int32) = nI 16 from rfl, pk_mul, nI_add]
  rw [e16, nI_clamp (n := 16 * p + l) (by omega), y1, y2, show (4 : Int32) = nI 4 from rfl, pk_mul, nI_add, nI_clamp (n := 4 * p + sf l) (by omega), (hS.beZ h1).1]
  rfl
theorem sq8_stepsOn {n e f u : Int32} {he we sr k1 k2 k3 k4 k5 k6 k7 k8 k9 vo : Nat → Int32} {Φ : PSt} (hG : GK9 g) (hp : p < 6) (hR : RP8 p g st ce ip ln be co ca ic il im ac aC lf lt cd) (hY : YB p (nL g) sf tf ls tw) (hLy : LYo g sf tf) (hw : wy ≤ 2) (hN : x.2.1 < nL g) (hx1 : x.1 = 1) (hM : RM9 g x n e f u he we sr) (hW : x.2.2.2.2.2.length < 2 ^ 30)
    (h : ∀ n' e' f' u' b1 b2 b3 b4 b5 b6 b7 b8 b9 vo' he' we' sr', RM9 g (stp g (brG g sf tf) wy x) n' e' f' u' he' we' sr' → Φ n' e' f' u' b1 b2 b3 b4 b5 b6 b7 b8 b9 vo' he' we' sr') : wl_X8_stepsOn (nI p) (nI wy) ln be ac aC ls tw lf lt cd n e f u k1 k2 k3 k4 k5 k6 k7 k8 k9 vo he we sr Φ := by
  obtain ⟨rS, rC, rI, rL⟩ := hR
  have h16 : nL g ≤ 16 := hG.2.2.2.2.2.2.2.2.1
  have q0 : nI wy = 0 ↔ wy = 0 := nI_eq (b := 0) (by omega) (by decide)
  have hn : n = nI x.2.1 := hM.2.2.1 (by rw [hx1]; decide)
  unfold wl_X8_stepsOn
  rw [q0]
  have go : ¬ hol (brG g sf tf) wy x → kl_X8_stepsOn_62 (nI p) (nI wy) ln be ac aC ls tw lf lt cd Φ n e f u k1 k2 k3 k4 k5 k6 k7 k8 k9 vo he we sr n ((16 * nI p) + n) := fun z => by
    rw [stp_wrk hx1 z] at h
    exact sq8_wrk hG hp rL hw hN hx1 hM hW h
  refine ⟨fun z => go (fun q => z q.1), fun z _ _ _ _ => ?_⟩
  have ew : we n.toNatClampNeg = x.2.2.2.1 x.2.1 := by rw [hn, nI_clamp (n := x.2.1) (by omega)]; exact hM.2.2.2.2.2.1 _ (by omega)
  rw [ew, hn, bear_eq rS hG hLy hY hp hN, ← hn]
  refine ⟨fun y => go (fun q => q.2 y), fun y => ?_⟩
  rw [stp_hol hx1 ⟨z, y⟩] at h
  obtain ⟨m1, m2, m3, m4, m5, m6, m7⟩ := hM
  exact h _ _ _ _ _ _ _ _ _ _ _ _ _ _ _ _ _ ⟨m1.trans (by rw [if_neg (by rw [hx1]; decide)]; rfl), rfl, fun _ => hn, m4, m5, m6, m7⟩
theorem RM9.e0 {n e f u : Int32} {he we sr : Nat → Int32} (h : RM9 g x n e f u he we sr) : (e = 0 ↔ ¬ x.1 = 2) ∧ (f = 0 ↔ ¬ x.1 = 3) := by
  obtain ⟨m1, m2, _⟩ := h
  rw [m1, m2]
  refine ⟨⟨fun q z => ?_, fun z => if_neg z⟩, ⟨fun q z => ?_, fun z => if_neg z⟩⟩
  · rw [if_pos z] at q; exact absurd q (by decide)
  · rw [if_pos z] at q; exact absurd q (by decide)
/-- gone over, worn at most -/
def GP9 (y : PG9) (go pk : Nat → Int32) : Prop := (∀ l, l < 16 → go l = nI (y.2.1 l)) ∧ AGn 16 y.2.2 pk
theorem sq8_goesOn33 {Φ : PG} {y0 : PG9} (hG : GK9 g) (hp : p < 6) (hR : RP8 p g st ce ip ln be co ca ic il im ac aC lf lt cd) (hY : YB p (nL g) sf tf ls tw) (hLy : LYo g sf tf) (hw : wy ≤ 2) (hP0 : PMo g wy y0.1) (hK0 : y0.1.2.2.1 < 2 ^ 29)
    (h : ∀ n e f u ma k1 k2 k3 k4 k5 k6 k7 k8 k9 vo he we sr go pk, RM9 g (pfl (brG g sf tf) wy (gitG g (brG g sf tf) wy 1000 y0).1) n e f u he we sr → ma = nI ((gitG g (brG g sf tf) wy 1000 y0).1.2.2.1 - y0.1.2.2.1) → GP9 (gitG g (brG g sf tf) wy 1000 y0) go pk → Φ n e f u ma k1 k2 k3 k4 k5 k6 k7 k8 k9 vo he we sr go pk) : ∀ (m i : Nat) (n e f u : Int32) (k1 k2 k3 k4 k5 k6 k7 k8 k9 vo he we sr go pk : Nat → Int32), i ≤ 1000 → RM9 g (gitG g (brG g sf tf) wy i y0).1 n e f u he we sr → ((gitG g (brG g sf tf) wy i y0).1.1 = 1 ∨ (gitG g (brG g sf tf) wy i y0).1.1 = 2) → (gitG g (brG g sf tf) wy i y0).1.2.2.1 = y0.1.2.2.1 + i → GP9 (gitG g (brG g sf tf) wy i y0) go pk → ll_X8_goesOn_33 (nI p) (nI wy) ln be ac aC ls tw lf lt cd Φ m n e f u (nI i) k1 k2 k3 k4 k5 k6 k7 k8 k9 vo he we sr go pk := by
  have h16 : nL g ≤ 16 := hG.2.2.2.2.2.2.2.2.1
  intro m
  induction m with
  | zero => intros; trivial
  | succ m ih =>
    intro i n e f u k1 k2 k3 k4 k5 k6 k7 k8 k9 vo he we sr go pk hi hM hs hk hgp
    have hP : PMo g wy (gitG g (brG g sf tf) wy i y0).1 := by rw [git_1]; exact PMo.itZ i _ hP0
    have e12 := hM.e0
    have hWl : (gitG g (brG g sf tf) wy i y0).1.2.2.2.2.2.length < 2 ^ 30 := by have := hP.2.2.2.1; omega
    show bl_X8_goesOn_33 _ _ _ _ _ _ _ _ _ _ _ _ _ _ _ _ _ _ _ _ _ _ _ _ _ _ _ _ _ _ _ _ _
    unfold bl_X8_goesOn_33
    -- the end has come
    have off : ¬ (gitG g (brG g sf tf) wy i y0).1.1 = 1 → Φ n e f u (nI i) k1 k2 k3 k4 k5 k6 k7 k8 k9 vo he we sr go pk := by
      intro z
      have eg := git_to hi z
      refine h _ _ _ _ _ _ _ _ _ _ _ _ _ _ _ _ _ _ _ _ ?_ ?_ ?_
      · rw [eg]
        have ep : pfl (brG g sf tf) wy (gitG g (brG g sf tf) wy i y0).1 = (gitG g (brG g sf tf) wy i y0).1 := if_neg (fun q => z q.1)
        rw [ep]
        exact hM
      · rw [eg, hk, Nat.add_sub_cancel_left]
      · rw [eg]; exact hgp
    refine ⟨fun z => off (fun q => z (e12.1.mpr (by omega))), fun z => ⟨fun y => off (fun q => y (e12.2.mpr (by omega))), fun y => ?_⟩⟩
    have h1 : (gitG g (brG g sf tf) wy i y0).1.1 = 1 := hs.resolve_right (e12.1.mp z)
    have hN := hP.2.2.1 (Or.inl h1)
    have hn : n = nI (gitG g (brG g sf tf) wy i y0).1.2.1 := hM.2.2.1 (by omega)
    have q1000 : nI i = 1000 ↔ i = 1000 := nI_eq (b := 1000) (by omega) (by decide)
    have ew : we n.toNatClampNeg = (gitG g (brG g sf tf) wy i y0).1.2.2.2.1 (gitG g (brG g sf tf) wy i y0).1.2.1 := by rw [hn, nI_clamp (n := _) (by omega)]; exact hM.2.2.2.2.2.1 _ (by omega)
    -- a step is tried
    have st122 : (i = 1000 → hol (brG g sf tf) wy (gitG g (brG g sf tf) wy i y0).1) → kl_X8_goesOn_122 (nI p) (nI wy) ln be ac aC ls tw lf lt cd (ll_X8_goesOn_33 (nI p) (nI wy) ln be ac aC ls tw lf lt cd Φ m) Φ n e f u (nI i) k1 k2 k3 k4 k5 k6 k7 k8 k9 vo he we sr go pk n (we n.toNatClampNeg) := by
      intro hh
      unfold kl_X8_goesOn_122
      refine sq8_stepsOn hG hp hR hY hLy hw hN h1 hM hWl (fun n' e' f' u' b1 b2 b3 b4 b5 b6 b7 b8 b9 vo' he' we' sr' hM' => ?_)
      have f12 := hM'.e0
      by_cases ho : hol (brG g sf tf) wy (gitG g (brG g sf tf) wy i y0).1
      · have es := stp_hol (g := g) h1 ho
        rw [es] at hM' f12
        refine ⟨fun q => absurd rfl (f12.2.mp q), fun _ => ?_⟩
        by_cases ei : i = 1000
        · subst ei
          refine h _ _ _ _ _ _ _ _ _ _ _ _ _ _ _ _ _ _ _ _ ?_ ?_ hgp
          · have ep : pfl (brG g sf tf) wy (gitG g (brG g sf tf) wy 1000 y0).1 = (3, (gitG g (brG g sf tf) wy 1000 y0).1.2) := if_pos ⟨h1, ho⟩
            rw [ep]
            exact hM'
          · rw [hk, Nat.add_sub_cancel_left]
        · have eg1 : gitG g (brG g sf tf) wy (i + 1) y0 = ((3, (gitG g (brG g sf tf) wy i y0).1.2), (gitG g (brG g sf tf) wy i y0).2) := by rw [git_one, gst_hol h1 ho]
          have n1 : ¬ (gitG g (brG g sf tf) wy (i + 1) y0).1.1 = 1 := by rw [eg1]; exact (by decide : ¬ (3 : Nat) = 1)
          have eg := git_to (show i + 1 ≤ 1000 by omega) n1
          refine h _ _ _ _ _ _ _ _ _ _ _ _ _ _ _ _ _ _ _ _ ?_ ?_ ?_
          · rw [eg]
            have ep : pfl (brG g sf tf) wy (gitG g (brG g sf tf) wy (i + 1) y0).1 = (gitG g (brG g sf tf) wy (i + 1) y0).1 := if_neg (fun q => n1 q.1)
            rw [ep, eg1]
            exact hM'
          · rw [eg, eg1]
            show _ = nI ((gitG g (brG g sf tf) wy i y0).1.2.2.1 - y0.1.2.2.1)
            rw [hk, Nat.add_sub_cancel_left]
          · rw [eg, eg1]; exact hgp
      · have es := stp_wrk (g := g) h1 ho
        have ei : ¬ i = 1000 := fun q => ho (hh q)
        have eg1 := git_one (g := g) (be := brG g sf tf) (wy := wy) (y := y0) i
        rw [gst_wrk h1 ho] at eg1
        rw [es] at hM' f12
        have hsw : (wrk g wy (gitG g (brG g sf tf) wy i y0).1).1 = 1 ∨ (wrk g wy (gitG g (brG g sf tf) wy i y0).1).1 = 2 := by
          show (if _ then 2 else 1) = 1 ∨ (if _ then 2 else 1) = 2
          split
          · exact Or.inr rfl
          · exact Or.inl rfl
        refine ⟨fun _ _ _ _ _ => ?_, fun q => absurd (f12.2.mpr (by omega)) q⟩
        rw [nI_1]
        refine ih (i + 1) _ _ _ _ _ _ _ _ _ _ _ _ _ _ _ _ _ _ _ (by omega) (by rw [eg1]; exact hM') (by rw [eg1]; exact hsw) (by rw [eg1]; show (gitG g (brG g sf tf) wy i y0).1.2.2.1 + 1 = _; omega) ?_
        rw [eg1, ew, hn, nI_clamp (n := (gitG g (brG g sf tf) wy i y0).1.2.1) (by omega)]
        refine ⟨fun l hl => ?_, fun l hl => ?_⟩
        · show _ = nI (updN _ _ _ l)
          unfold updN
          by_cases el : l = (gitG g (brG g sf tf) wy i y0).1.2.1
          · rw [if_pos el, el, pk_us, hgp.1 _ (by omega), nI_1]
          · rw [if_neg el, pk_un el]; exact hgp.1 l hl
        · show _ = upd _ _ _ l
          by_cases el : l = (gitG g (brG g sf tf) wy i y0).1.2.1
          · rw [el, pk_us, pk_us, hgp.2 _ (by omega)]; rfl
          · rw [pk_un el, pk_un el]; exact hgp.2 l hl
    have q0 : nI wy = 0 ↔ wy = 0 := nI_eq (b := 0) (by omega) (by decide)
    rw [q1000, q0]
    -- the thousandth
    have last : i = 1000 → ¬ hol (brG g sf tf) wy (gitG g (brG g sf tf) wy i y0).1 → Φ n e f u (nI i) k1 k2 k3 k4 k5 k6 k7 k8 k9 vo he we sr go pk := by
      intro ei ho
      subst ei
      refine h _ _ _ _ _ _ _ _ _ _ _ _ _ _ _ _ _ _ _ _ ?_ ?_ hgp
      · have ep : pfl (brG g sf tf) wy (gitG g (brG g sf tf) wy 1000 y0).1 = (gitG g (brG g sf tf) wy 1000 y0).1 := if_neg (fun q => ho q.2)
        rw [ep]
        exact hM
      · rw [hk, Nat.add_sub_cancel_left]
    refine fun _ => ⟨fun z1 => st122 (fun q => absurd q z1), fun z1 => ⟨fun z2 => last z1 (fun q => z2 q.1), fun z2 _ _ _ => ?_⟩⟩
    rw [hn, bear_eq hR.1 hG hLy hY hp hN, ← hn, ew]
    refine ⟨fun z3 => ?_, fun z3 => last z1 (fun q => z3 (Int32.not_lt.mp q.2))⟩
    rw [← ew]
    exact st122 (fun _ => ⟨z2, Int32.not_lt.mpr z3⟩)
end RG9
