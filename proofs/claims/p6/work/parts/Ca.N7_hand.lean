/-- by hand: so many steps, 1,000,000 in all -/
def runH (g : PGr) (be : Nat → Int32) (k : Nat) (x : PM) : PM := (if (itG g be 0 (min k (1000000 - x.2.2.1)) x).1 = 1 ∧ 1000000 ≤ (itG g be 0 (min k (1000000 - x.2.2.1)) x).2.2.1 then 4 else (itG g be 0 (min k (1000000 - x.2.2.1)) x).1, (itG g be 0 (min k (1000000 - x.2.2.1)) x).2)
/-- what may be trusted of the hand -/
def HMo (g : PGr) (x : PM) : Prop := x.1 ≤ 4 ∧ x.2.1 ≤ nL g ∧ (x.1 = 1 ∨ x.1 = 3 ∨ x.1 = 4 → x.2.1 < nL g) ∧ x.2.2.2.2.2.length ≤ x.2.2.1 ∧ x.2.2.1 ≤ 1000000 ∧ (x.1 = 0 → x.2.1 = 0 ∧ x.2.2.1 = 0 ∧ x.2.2.2.2.2 = [])
theorem HMo.pmo {g : PGr} {x : PM} (h : HMo g x) : PMo g 0 x := ⟨h.1, h.2.1, fun z => h.2.2.1 (by omega), h.2.2.2.1, fun z => absurd z (by decide)⟩
theorem HMo.runZ {g : PGr} {be : Nat → Int32} {k : Nat} {x : PM} (h : HMo g x) : HMo g (runH g be k x) := by
  by_cases h1 : x.1 = 1
  · have hP := PMo.itZ (be := be) (min k (1000000 - x.2.2.1)) x h.pmo
    have hk := it_k (g := g) (be := be) (wy := 0) (min k (1000000 - x.2.2.1)) x
    have hx := h.2.2.2.2.1
    have s1 : ∀ (n : Nat) (y : PM), y.1 = 1 ∨ y.1 = 2 ∨ y.1 = 3 → (itG g be 0 n y).1 = 1 ∨ (itG g be 0 n y).1 = 2 ∨ (itG g be 0 n y).1 = 3 := by
      intro n
      induction n with
      | zero => intro y hy; exact hy
      | succ n ih =>
        intro y hy
        refine ih _ ?_
        by_cases z : y.1 = 1
        · by_cases w : hol be 0 y
          · rw [stp_hol z w]; exact Or.inr (Or.inr rfl)
          · rw [stp_wrk z w]
            show (if _ then 2 else 1) = 1 ∨ (if _ then 2 else 1) = 2 ∨ _
            split
            · exact Or.inr (Or.inl rfl)
            · exact Or.inl rfl
        · rw [stp_off z]; exact hy
    have hs := s1 (min k (1000000 - x.2.2.1)) x (Or.inl h1)
    unfold runH
    generalize itG g be 0 (min k (1000000 - x.2.2.1)) x = y at hP hk hs ⊢
    by_cases z : y.1 = 1 ∧ 1000000 ≤ y.2.2.1
    · rw [if_pos z]
      exact ⟨Nat.le_refl 4, hP.2.1, fun _ => hP.2.2.1 (Or.inl z.1), hP.2.2.2.1, (by show y.2.2.1 ≤ 1000000; omega), fun q => absurd q (by show ¬ (4 : Nat) = 0; decide)⟩
    · rw [if_neg z]
      exact ⟨hP.1, hP.2.1, fun q => hP.2.2.1 (by have q : y.1 = 1 ∨ y.1 = 3 ∨ y.1 = 4 := q; omega), hP.2.2.2.1, (by show y.2.2.1 ≤ 1000000; omega), fun q => by have q : y.1 = 0 := q; omega⟩
  · have e := it_off (g := g) (be := be) (wy := 0) (min k (1000000 - x.2.2.1)) h1
    unfold runH
    rw [e, if_neg (fun q => h1 q.1)]
    exact h
section HC9
variable {g : PGr} {x : PM} {cl : Nat} {pst pce pgi pln : Int32} {be co to gc le gr ac sq tg fr mi en cd : Nat → Int32} {sf tf : Nat → Nat} {st tw : Nat → Int32}
/-- the class's hand, a mark of the class's -/
def CH9 (g : PGr) (x : PM) (s n k u : Int32) (wo ce ke : Nat → Int32) : Prop := s = nI x.1 ∧ n = nI x.2.1 ∧ k = nI x.2.2.1 ∧ u = nI x.2.2.2.2.2.length ∧ AGn 16 x.2.2.2.1 wo ∧ (¬ x.1 = 0 → AGn (nC g) x.2.2.2.2.1 ce) ∧ KE9 200 x.2.2.2.2.2 ke
theorem CH9.cm {s n k u : Int32} {wo ce ke : Nat → Int32} (h : CH9 g x s n k u wo ce ke) (h0 : ¬ x.1 = 0) : CM9 g 200 x s n k u wo ce ke := ⟨h.1, h.2.1, h.2.2.1, h.2.2.2.1, h.2.2.2.2.1, h.2.2.2.2.2.1 h0, h.2.2.2.2.2.2⟩
theorem sq1_go_off {M : Nat} {wy kn : Nat} {w s n k u pl : Int32} {wo ce ke sk : Nat → Int32} {Φ : PSq} (hs : s = nI x.1) (h4 : x.1 ≤ 4) (h1 : ¬ x.1 = 1) (h : Φ 0 s n k u wo ce ke sk) : wl_X1_go w st tw pl be ac tg fr mi en cd kn cl (nI M) s n k u wo ce ke sk Φ := by
  have q1 : ¬ s = 1 := fun q => h1 ((nI_eq (b := 1) (by omega) (by decide)).mp (hs.symm.trans q))
  intro m
  cases m with
  | zero => trivial
  | succ m =>
    show bl_X1_go_4 _ _ _ _ _ _ _ _ _ _ _ _ _ _ _ _ _ _ _ _ _ _ _ _ _ _
    unfold bl_X1_go_4
    refine ⟨fun _ => h, fun _ => ?_⟩
    unfold wl_X1_step wl_X1_fallIfHole
    exact ⟨fun _ => ⟨fun _ => ⟨fun _ => h, fun z => absurd rfl z⟩, fun z => absurd z q1⟩, fun z => absurd z q1⟩
theorem sq7_run {xs s n k u : Int32} {wo ce ke sk : Nat → Int32} {Φ : PSq} (hQ : PQ9 g pst pce pgi pln be co to gc le gr ac sq tg fr mi en cl cd) (hG : GK9 g) (hL : LYo g sf tf) (hc : CLs g sf tf st tw) (hP : HMo g x) (hM : CH9 g x s n k u wo ce ke)
    (h0 : ¬ (∃ j, j ≤ 1000000 ∧ xs = nI j) → Φ (-1) s n k u wo ce ke sk)
    (h1 : ∀ j, j ≤ 1000000 → xs = nI j → ∀ s' n' k' u' wo' ce' ke' sk', CH9 g (runH g (brG g sf tf) j x) s' n' k' u' wo' ce' ke' → Φ (nI ((runH g (brG g sf tf) j x).2.2.1 - x.2.2.1)) s' n' k' u' wo' ce' ke' sk') : wl_X7_run 0 st tw pln be ac tg fr mi en cd cl xs s n k u wo ce ke sk Φ := by
  have hx := hP.2.2.2.2.1
  have h4 := hP.1
  unfold wl_X7_run
  refine ⟨fun z => h0 (fun q => ?_), fun z => ⟨fun z2 => ?_, fun z2 => h0 (fun q => ?_)⟩⟩
  · obtain ⟨j, hj, e⟩ := q
    rw [e] at z
    exact nI_pos (by omega) z
  · obtain ⟨j, hj, ej⟩ := nI_of2 (M := 1000000) (n := 1000000) (by decide) z z2
    have em : (if ((1000000 : Int32) - k) < xs then ((1000000 : Int32) - k) else xs) = nI (min j (1000000 - x.2.2.1)) := by
      rw [hM.2.2.1, ej, show (1000000 : Int32) = nI 1000000 from rfl, pk_sub hx, if_min (by omega) (by omega), Nat.min_comm]
    rw [em]
    have h9 := h1 j hj ej
    by_cases hs : x.1 = 1
    · refine sq1_go (wy := 0) hQ hG hL hc hP.pmo (by decide) (hM.cm (by omega)) (by omega) (by decide) (fun s' n' k' u' wo' ce' ke' sk' hM' => ?_)
      have hk := it_k (g := g) (be := brG g sf tf) (wy := 0) (min j (1000000 - x.2.2.1)) x
      have hP' := PMo.itZ (be := brG g sf tf) (min j (1000000 - x.2.2.1)) x hP.pmo
      unfold runH at h9
      generalize itG g (brG g sf tf) 0 (min j (1000000 - x.2.2.1)) x = y at hM' hk hP' h9 ⊢
      obtain ⟨m1, m2, m3, m4, m5, m6, m7⟩ := hM'
      have q1 : s' = 1 ↔ y.1 = 1 := by rw [m1]; exact nI_eq (b := 1) (by have := hP'.1; omega) (by decide)
      have q2 : k' < 1000000 ↔ y.2.2.1 < 1000000 := by rw [m3]; exact nI_ltI (b := 1000000) (by omega) (by decide)
      rw [q1, q2]
      refine ⟨fun z3 => ?_, fun z3 => ⟨fun z4 => ?_, fun z4 => ?_⟩⟩
      · have := h9 s' n' k' u' wo' ce' ke' sk' (by rw [if_neg (fun q => z3 q.1)]; exact ⟨m1, m2, m3, m4, m5, fun _ => m6, m7⟩)
        exact this
      · have := h9 s' n' k' u' wo' ce' ke' sk' (by rw [if_neg (fun q => by omega)]; exact ⟨m1, m2, m3, m4, m5, fun _ => m6, m7⟩)
        exact this
      · have := h9 4 n' k' u' wo' ce' ke' sk' (by rw [if_pos ⟨z3, by omega⟩]; exact ⟨rfl, m2, m3, m4, m5, fun _ => m6, m7⟩)
        exact this
    · have e := it_off (g := g) (be := brG g sf tf) (wy := 0) (min j (1000000 - x.2.2.1)) hs
      have er : runH g (brG g sf tf) j x = x := by
        unfold runH
        rw [e, if_neg (fun q => hs q.1)]
      rw [er, Nat.sub_self] at h9
      refine sq1_go_off (wy := 0) hM.1 h4 hs ⟨fun _ => h9 _ _ _ _ _ _ _ _ hM, fun q => absurd ((nI_eq (b := 1) (by omega) (by decide)).mp (hM.1.symm.trans q)) hs⟩
  · obtain ⟨j, hj, e⟩ := q
    rw [e] at z2
    exact z2 ((nI_leI (b := 1000000) (by omega) (by decide)).mpr hj)
end HC9
section HR9
variable {g : PGr} {x : PM} {p : Nat} {st ce ip ln be co ca ic il im ac aC ls tw lf lt cd : Nat → Int32} {sf tf : Nat → Nat}
/-- the reference's hand -/
def RH9 (g : PGr) (x : PM) (s n k u : Int32) (hc wo hs : Nat → Int32) : Prop := s = nI x.1 ∧ (x.1 = 1 ∨ x.1 = 3 ∨ x.1 = 4 → n = nI x.2.1) ∧ (¬ x.1 = 0 → k = nI x.2.2.1 ∧ u = nI x.2.2.2.2.2.length ∧ AGn (nC g) x.2.2.2.2.1 hc ∧ KE9 200 x.2.2.2.2.2 hs) ∧ AGn 16 x.2.2.2.1 wo
def clr (x : PM) : PM := (x.1, x.2.1, x.2.2.1, x.2.2.2.1, x.2.2.2.2.1, [])
theorem wrk_clr {wy : Nat} : wrk g wy (clr x) = ((wrk g wy x).1, (wrk g wy x).2.1, (wrk g wy x).2.2.1, (wrk g wy x).2.2.2.1, (wrk g wy x).2.2.2.2.1, if (lnG g x.2.1).1 = 1 then [oneG g wy x] else []) := rfl
theorem sq8_takesUp {n a0 w0 n0 e0 f0 : Int32} {hc wo he we : Nat → Int32} {Φ : Int32 → Int32 → Int32 → Int32 → Int32 → (Nat → Int32) → (Nat → Int32) → Prop} (h : ∀ he' we', AGn 6 hc he' → AGn 16 wo we' → Φ 0 0 n 0 0 he' we') : wl_X8_takesUp n hc wo a0 w0 n0 e0 f0 he we Φ := by
  have k56 : ∀ (m k : Nat) (he we : Nat → Int32), k ≤ 16 → AGn 6 hc he → AGn k wo we → ll_X8_takesUp_56 n hc wo Φ m 0 0 n 0 0 he we (nI k) := by
    intro m
    induction m with
    | zero => intros; trivial
    | succ m ih =>
      intro k he we hk h1 h2
      show bl_X8_takesUp_56 _ _ _ _ _ _ _ _ _ _ _ _ _
      unfold bl_X8_takesUp_56
      have q : (16 : Int32) ≤ nI k ↔ 16 ≤ k := nI_leI (a := 16) (by decide) (by omega)
      rw [q, nI_clamp (n := k) (by omega), nI_1]
      refine ⟨fun z => h he we h1 (fun j hj => h2 j (by omega)), fun z _ _ => ih (k + 1) _ _ (by omega) h1 (fun j hj => ?_)⟩
      by_cases e : j = k
      · rw [e, pk_us]
      · rw [pk_un e]; exact h2 j (by omega)
  have k30 : ∀ (m k : Nat) (he : Nat → Int32), k ≤ 6 → AGn k hc he → ll_X8_takesUp_30 n hc wo Φ m 0 0 n 0 0 he we (nI k) := by
    intro m
    induction m with
    | zero => intros; trivial
    | succ m ih =>
      intro k he hk h1
      show bl_X8_takesUp_30 _ _ _ _ _ _ _ _ _ _ _ _ _
      unfold bl_X8_takesUp_30
      have q : (6 : Int32) ≤ nI k ↔ 6 ≤ k := nI_leI (a := 6) (by decide) (by omega)
      rw [q, nI_clamp (n := k) (by omega), nI_1]
      refine ⟨fun z m => k56 m 0 he we (Nat.zero_le _) (fun j hj => h1 j (by omega)) (fun j hj => absurd hj (Nat.not_lt_zero _)), fun z _ _ => ih (k + 1) _ (by omega) (fun j hj => ?_)⟩
      by_cases e : j = k
      · rw [e, pk_us]
      · rw [pk_un e]; exact h1 j (by omega)
  exact fun m => k30 m 0 he (Nat.zero_le _) (fun j hj => absurd hj (Nat.not_lt_zero _))
theorem sq8_run {xs th at_ way nx e f wr s n k u : Int32} {k1 k2 k3 k4 k5 k6 k7 k8 k9 vo he we sr hc wo hs : Nat → Int32} {Φ : PRn} (hG : GK9 g) (hR : RP8 0 g st ce ip ln be co ca ic il im ac aC lf lt cd) (hY : YB 0 (nL g) sf tf ls tw) (hLy : LYo g sf tf) (hP : HMo g x) (hM : RH9 g x s n k u hc wo hs)
    (h0 : ¬ (∃ j, j ≤ 1000000 ∧ xs = nI j) → ∀ at_ way nx e f wr k1 k2 k3 k4 k5 k6 k7 k8 k9 vo he we sr, Φ (-1) 0 at_ way nx e f wr s n k u k1 k2 k3 k4 k5 k6 k7 k8 k9 vo he we sr hc wo hs)
    (h1 : ∀ j, j ≤ 1000000 → xs = nI j → ∀ at_ way nx e f wr s' n' k' u' k1 k2 k3 k4 k5 k6 k7 k8 k9 vo he we sr hc' wo' hs', RH9 g (runH g (brG g sf tf) j x) s' n' k' u' hc' wo' hs' → Φ (nI ((runH g (brG g sf tf) j x).2.2.1 - x.2.2.1)) 0 at_ way nx e f wr s' n' k' u' k1 k2 k3 k4 k5 k6 k7 k8 k9 vo he we sr hc' wo' hs') : wl_X8_run ln be ac aC ls tw lf lt cd xs th at_ way nx e f wr s n k u k1 k2 k3 k4 k5 k6 k7 k8 k9 vo he we sr hc wo hs Φ := by
  have hx := hP.2.2.2.2.1
  have h4 := hP.1
  have h6 : nC g ≤ 6 := hG.2.2.1
  obtain ⟨r1, r2, r3, r4⟩ := hM
  unfold wl_X8_run
  refine ⟨fun z => ⟨fun y => absurd rfl y, fun _ => h0 (fun q => ?_) _ _ _ _ _ _ _ _ _ _ _ _ _ _ _ _ _ _ _⟩, fun z => ⟨fun z2 => ⟨fun y => absurd rfl y, fun _ => h0 (fun q => ?_) _ _ _ _ _ _ _ _ _ _ _ _ _ _ _ _ _ _ _⟩, fun z2 => ⟨fun _ => ?_, fun y => absurd y (by decide)⟩⟩⟩
  · obtain ⟨j, hj, e⟩ := q
    rw [e] at z
    exact nI_pos (by omega) z
  · obtain ⟨j, hj, e⟩ := q
    rw [e] at z2
    exact absurd ((nI_ltI (a := 1000000) (by decide) (by omega)).mp z2) (by omega)
  obtain ⟨j, hj, ej⟩ := nI_of2 (M := 1000000) (n := 1000000) (by decide) z (Int32.not_lt.mp z2)
  have h9 := h1 j hj ej
  have qs : s = 1 ↔ x.1 = 1 := by rw [r1]; exact nI_eq (b := 1) (by omega) (by decide)
  rw [qs]
  refine ⟨fun hs1 => ?_, fun hs1 => ?_⟩
  rotate_left
  · have e := it_off (g := g) (be := brG g sf tf) (wy := 0) (min j (1000000 - x.2.2.1)) hs1
    have er : runH g (brG g sf tf) j x = x := by
      unfold runH
      rw [e, if_neg (fun q => hs1 q.1)]
    rw [er, Nat.sub_self] at h9
    exact h9 _ _ _ _ _ _ _ _ _ _ _ _ _ _ _ _ _ _ _ _ _ _ _ _ _ _ ⟨r1, r2, r3, r4⟩
  obtain ⟨r31, r32, r33, r34⟩ := r3 (by omega)
  have rn := r2 (Or.inl hs1)
  refine sq8_takesUp (fun he0 we0 hhe hwe => ?_)
  -- the end: all is put back
  have k143 : ∀ (i : Nat) (y : PM) (nx e f wr s n k u : Int32) (k1 k2 k3 k4 k5 k6 k7 k8 k9 vo he we sr hc wo hs : Nat → Int32), y = itG g (brG g sf tf) 0 (min j (1000000 - x.2.2.1)) x → y.2.2.1 = x.2.2.1 + i → y.2.2.1 ≤ 1000000 → (y.1 = 1 ∨ y.1 = 2 ∨ y.1 = 3) → RM9 g (clr y) nx e f 0 he we sr → k = nI y.2.2.1 → u = nI y.2.2.2.2.2.length → KE9 200 y.2.2.2.2.2 hs → kl_X8_run_143 ln be ac aC ls tw lf lt cd xs Φ 0 0 0 nx e f wr s n k u k1 k2 k3 k4 k5 k6 k7 k8 k9 vo he we sr hc wo hs (nI i) := by
    intro i y nx e f wr s n k u k1 k2 k3 k4 k5 k6 k7 k8 k9 vo he we sr hc wo hs ey hk hk2 hy3 hm ek eu hke
    have e12 := hm.e0
    obtain ⟨m1, m2, m3, m4, m5, m6, m7⟩ := hm
    have tail : ∀ (s2 : Nat), s2 = (if y.1 = 1 ∧ 1000000 ≤ y.2.2.1 then 4 else y.1) → ∀ m, ll_X8_run_194 ln be ac aC ls tw lf lt cd xs Φ m 0 0 0 nx e f wr (nI s2) nx k u k1 k2 k3 k4 k5 k6 k7 k8 k9 vo he we sr hc wo hs (nI i) 0 := by
      intro s2 es2
      have fin : ∀ hc' wo', AGn 6 he hc' → AGn 16 we wo' → Φ (nI i) 0 0 0 nx e f wr (nI s2) nx k u k1 k2 k3 k4 k5 k6 k7 k8 k9 vo he we sr hc' wo' hs := by
        intro hc' wo' g1 g2
        have er : runH g (brG g sf tf) j x = (s2, y.2) := by
          unfold runH
          rw [← ey, ← es2]
        rw [er] at h9
        have h9 := h9 0 0 nx e f wr (nI s2) nx k u k1 k2 k3 k4 k5 k6 k7 k8 k9 vo he we sr hc' wo' hs ⟨rfl, fun q => m3 ?_, fun q => ⟨ek, eu, fun l hl => (g1 l (by omega)).trans (m5 l hl), hke⟩, fun l hl => (g2 l hl).trans (m6 l hl)⟩
        · have en : (s2, y.2).2.2.1 - x.2.2.1 = i := by show y.2.2.1 - x.2.2.1 = i; omega
          rw [en] at h9
          exact h9
        · have q : s2 = 1 ∨ s2 = 3 ∨ s2 = 4 := q
          show ¬ y.1 = 2
          intro q2
          rw [if_neg (by omega)] at es2
          omega
      have k220 : ∀ (m l : Nat) (hc' wo' : Nat → Int32), l ≤ 16 → AGn 6 he hc' → AGn l we wo' → ll_X8_run_220 ln be ac aC ls tw lf lt cd xs Φ m 0 0 0 nx e f wr (nI s2) nx k u k1 k2 k3 k4 k5 k6 k7 k8 k9 vo he we sr hc' wo' hs (nI i) (nI l) := by
        intro m
        induction m with
        | zero => intros; trivial
        | succ m ih =>
          intro l hc' wo' hl g1 g2
          show bl_X8_run_220 _ _ _ _ _ _ _ _ _ _ _ _ _ _ _ _ _ _ _ _ _ _ _ _ _ _ _ _ _ _ _ _ _ _ _ _ _ _ _ _ _
          unfold bl_X8_run_220
          have q : (16 : Int32) ≤ nI l ↔ 16 ≤ l := nI_leI (a := 16) (by decide) (by omega)
          rw [q, nI_clamp (n := l) (by omega), nI_1]
          refine ⟨fun z => fin _ _ g1 (fun t ht => g2 t (by omega)), fun z _ _ => ih (l + 1) _ _ (by omega) g1 (fun t ht => ?_)⟩
          by_cases e : t = l
          · rw [e, pk_us]
          · rw [pk_un e]; exact g2 t (by omega)
      have k194 : ∀ (m l : Nat) (hc' : Nat → Int32), l ≤ 6 → AGn l he hc' → ll_X8_run_194 ln be ac aC ls tw lf lt cd xs Φ m 0 0 0 nx e f wr (nI s2) nx k u k1 k2 k3 k4 k5 k6 k7 k8 k9 vo he we sr hc' wo hs (nI i) (nI l) := by
        intro m
        induction m with
        | zero => intros; trivial
        | succ m ih =>
          intro l hc' hl g1
          show bl_X8_run_194 _ _ _ _ _ _ _ _ _ _ _ _ _ _ _ _ _ _ _ _ _ _ _ _ _ _ _ _ _ _ _ _ _ _ _ _ _ _ _ _ _
          unfold bl_X8_run_194
          have q : (6 : Int32) ≤ nI l ↔ 6 ≤ l := nI_leI (a := 6) (by decide) (by omega)
          rw [q, nI_clamp (n := l) (by omega), nI_1]
          refine ⟨fun z m => k220 m 0 _ _ (Nat.zero_le _) (fun t ht => g1 t (by omega)) (fun t ht => absurd ht (Nat.not_lt_zero _)), fun z _ _ => ih (l + 1) _ (by omega) (fun t ht => ?_)⟩
          by_cases e : t = l
          · rw [e, pk_us]
          · rw [pk_un e]; exact g1 t (by omega)
      exact fun m => k194 m 0 hc (Nat.zero_le _) (fun t ht => absurd ht (Nat.not_lt_zero _))
    have qk : k = 1000000 ↔ y.2.2.1 = 1000000 := by rw [ek]; exact nI_eq (b := 1000000) (by omega) (by decide)
    have c1 : (clr y).1 = y.1 := rfl
    rw [c1] at e12
    unfold kl_X8_run_143
    rw [qk]
    refine ⟨fun ze => ⟨fun zf => ⟨fun zk => tail 1 ?_, fun zk => tail 4 ?_⟩, fun zf => tail 3 ?_⟩, fun ze => tail 2 ?_⟩
    · have := e12.1.mp ze; have := e12.2.mp zf
      rw [if_neg (by omega)]; omega
    · have := e12.1.mp ze; have := e12.2.mp zf
      rw [if_pos (by omega)]
    · have : y.1 = 3 := by
        by_cases q : y.1 = 3
        · exact q
        · exact absurd (e12.2.mpr q) zf
      rw [if_neg (by omega)]; omega
    · have : y.1 = 2 := by
        by_cases q : y.1 = 2
        · exact q
        · exact absurd (e12.1.mpr q) ze
      rw [if_neg (by omega)]; omega
  have key : ∀ (m i : Nat) (nx e f wr k u : Int32) (k1 k2 k3 k4 k5 k6 k7 k8 k9 vo he we sr hs : Nat → Int32), i ≤ min j (1000000 - x.2.2.1) → (itG g (brG g sf tf) 0 i x).2.2.1 = x.2.2.1 + i → ((itG g (brG g sf tf) 0 i x).1 = 1 ∨ (itG g (brG g sf tf) 0 i x).1 = 2) → RM9 g (clr (itG g (brG g sf tf) 0 i x)) nx e f 0 he we sr → k = nI (itG g (brG g sf tf) 0 i x).2.2.1 → u = nI (itG g (brG g sf tf) 0 i x).2.2.2.2.2.length → KE9 200 (itG g (brG g sf tf) 0 i x).2.2.2.2.2 hs → ll_X8_run_34 ln be ac aC ls tw lf lt cd xs Φ m 0 0 0 nx e f wr s n k u k1 k2 k3 k4 k5 k6 k7 k8 k9 vo he we sr hc wo hs (nI i) := by
    intro m
    induction m with
    | zero => intros; trivial
    | succ m ih =>
      intro i nx e f wr k u k1 k2 k3 k4 k5 k6 k7 k8 k9 vo he we sr hs hi hk hy hm ek eu hke
      have hPy : PMo g 0 (itG g (brG g sf tf) 0 i x) := PMo.itZ i x hP.pmo
      have eit1 := it_one (g := g) (be := brG g sf tf) (wy := 0) (x := x) i
      have eM : ∀ i', i' ≤ min j (1000000 - x.2.2.1) → ¬ (itG g (brG g sf tf) 0 i' x).1 = 1 → itG g (brG g sf tf) 0 i' x = itG g (brG g sf tf) 0 (min j (1000000 - x.2.2.1)) x := by
        intro i' hi' hn
        have := it_add (g := g) (be := brG g sf tf) (wy := 0) i' (min j (1000000 - x.2.2.1) - i') x
        rw [show i' + (min j (1000000 - x.2.2.1) - i') = min j (1000000 - x.2.2.1) by omega, it_off _ hn] at this
        exact this.symm
      have eM0 : i = min j (1000000 - x.2.2.1) → itG g (brG g sf tf) 0 i x = itG g (brG g sf tf) 0 (min j (1000000 - x.2.2.1)) x := fun q => by rw [← q]
      have eM1 := eM i hi
      have eM2 := eM (i + 1)
      rw [eit1] at eM2
      have ihh := ih (i + 1)
      rw [eit1] at ihh
      generalize itG g (brG g sf tf) 0 i x = y at hk hy hm ek eu hke hPy eM0 eM1 eM2 ihh
      have e12 := hm.e0
      have c1 : (clr y).1 = y.1 := rfl
      rw [c1] at e12
      show bl_X8_run_34 _ _ _ _ _ _ _ _ _ _ _ _ _ _ _ _ _ _ _ _ _ _ _ _ _ _ _ _ _ _ _ _ _ _ _ _ _ _ _ _
      unfold bl_X8_run_34
      have qi : xs ≤ nI i ↔ j ≤ i := by rw [ej]; exact nI_leI (by omega) (by omega)
      have qk : (1000000 : Int32) ≤ k ↔ 1000000 ≤ y.2.2.1 := by rw [ek]; exact nI_leI (a := 1000000) (by decide) (by omega)
      rw [qi, qk]
      have out : (¬ y.1 = 1 ∨ i = min j (1000000 - x.2.2.1)) → kl_X8_run_143 ln be ac aC ls tw lf lt cd xs Φ 0 0 0 nx e f wr s n k u k1 k2 k3 k4 k5 k6 k7 k8 k9 vo he we sr hc wo hs (nI i) := fun q => k143 i y nx e f wr s n k u _ _ _ _ _ _ _ _ _ _ he we sr hc wo hs (q.elim eM1 eM0) hk (by omega) (by omega) hm ek eu hke
      refine ⟨fun q => out (Or.inr (by omega)), fun q => ⟨fun ze => out (Or.inl (fun y1 => ze (e12.1.mpr (by omega)))), fun ze => ⟨fun zf => out (Or.inl (fun y1 => zf (e12.2.mpr (by omega)))), fun zf => ⟨fun q2 => out (Or.inr (by omega)), fun q2 => ?_⟩⟩⟩⟩
      have hy1 : y.1 = 1 := hy.resolve_right (e12.1.mp ze)
      have hN := hPy.2.2.1 (Or.inl hy1)
      have hstp : stp g (brG g sf tf) 0 y = if hol (brG g sf tf) 0 y then (3, y.2) else wrk g 0 y := if_pos hy1
      refine sq8_stepsOn (p := 0) (wy := 0) (x := clr y) hG (by decide) hR hY hLy (by decide) hN hy1 hm (by show ([] : List Int32).length < _; decide) (fun nx' e' f' wr' b1 b2 b3 b4 b5 b6 b7 b8 b9 vo' he' we' sr' hM' => ?_)
      have f12 := hM'.e0
      by_cases ho : hol (brG g sf tf) 0 y
      · have es : stp g (brG g sf tf) 0 (clr y) = (3, (clr y).2) := stp_hol (x := clr y) hy1 ho
        rw [es] at hM' f12
        rw [if_pos ho] at hstp
        refine ⟨fun q => absurd rfl (f12.2.mp q), fun _ => ?_⟩
        rw [hstp] at eM2
        exact k143 i (3, y.2) nx' e' f' wr' s n k u _ _ _ _ _ _ _ _ _ _ he' we' sr' hc wo hs (eM2 (by omega) (by show ¬ (3 : Nat) = 1; decide)) hk (by show y.2.2.1 ≤ _; omega) (Or.inr (Or.inr rfl)) ⟨hM'.1, hM'.2.1, hM'.2.2.1, rfl, hM'.2.2.2.2.1, hM'.2.2.2.2.2.1, KE9.nil⟩ ek eu hke
      · have es : stp g (brG g sf tf) 0 (clr y) = wrk g 0 (clr y) := stp_wrk (x := clr y) hy1 ho
        rw [es] at hM' f12
        rw [if_neg ho] at hstp
        rw [hstp] at ihh
        obtain ⟨m1, m2, m3, m4, m5, m6, m7⟩ := hM'
        have hw2 : (wrk g 0 y).1 = 1 ∨ (wrk g 0 y).1 = 2 := by
          show (if _ then 2 else 1) = 1 ∨ (if _ then 2 else 1) = 2
          split
          · exact Or.inr rfl
          · exact Or.inl rfl
        have n3 : ¬ (wrk g 0 (clr y)).1 = 3 := by
          show ¬ (wrk g 0 y).1 = 3
          omega
        have hrm : RM9 g (clr (wrk g 0 y)) nx' e' f' 0 he' we' sr' := ⟨m1, m2, m3, rfl, m5, m6, KE9.nil⟩
        have hkk : (wrk g 0 y).2.2.1 = x.2.2.1 + (i + 1) := by show y.2.2.1 + 1 = _; omega
        have ekk : k + 1 = nI (wrk g 0 y).2.2.1 := by rw [ek, nI_1]; rfl
        refine ⟨fun _ => ?_, fun q => absurd (f12.2.mpr n3) q⟩
        rw [nI_1]
        by_cases ha : (lnG g y.2.1).1 = 1
        · have ewr : wrG g 0 y = y.2.2.2.2.2 ++ [oneG g 0 y] := by unfold wrG; rw [if_pos ha]
          have ewc : wrG g 0 (clr y) = [oneG g 0 y] := by
            show (if (lnG g y.2.1).1 = 1 then [oneG g 0 y] else []) = _
            rw [if_pos ha]
          have m4 : wr' = nI (wrG g 0 (clr y)).length := m4
          have m7 : KE9 1001 (wrG g 0 (clr y)) sr' := m7
          rw [ewc] at m4 m7
          have e0 : sr' 0 = oneG g 0 y := m7 0 _ rfl (by decide)
          have lw : (y.2.2.2.2.2 ++ [oneG g 0 y]).length = y.2.2.2.2.2.length + 1 := by rw [List.length_append]; rfl
          have hW : y.2.2.2.2.2.length ≤ 1000000 := by have := hPy.2.2.2.1; omega
          have q200 : (200 : Int32) ≤ u ↔ 200 ≤ y.2.2.2.2.2.length := by rw [eu]; exact nI_leI (a := 200) (by decide) (by omega)
          have euu : u + 1 = nI (wrk g 0 y).2.2.2.2.2.length := by
            show _ = nI (wrG g 0 y).length
            rw [eu, nI_1, ewr, lw]
          rw [q200]
          refine ⟨fun _ => ⟨fun q => ?_, fun q _ => ?_⟩, fun q => absurd (m4.symm.trans q) (by show ¬ nI 1 = 0; decide)⟩
          · exact ihh _ _ _ _ _ _ _ _ _ _ _ _ _ _ _ _ _ _ _ _ (by omega) hkk hw2 hrm ekk euu (by show KE9 200 (wrG g 0 y) _; rw [ewr]; exact hke.full q)
          · refine ihh _ _ _ _ _ _ _ _ _ _ _ _ _ _ _ _ _ _ _ _ (by omega) hkk hw2 hrm ekk euu ?_
            show KE9 200 (wrG g 0 y) _
            rw [ewr, eu, nI_clamp (n := y.2.2.2.2.2.length) (by omega), e0]
            exact hke.push
        · have ewr : wrG g 0 y = y.2.2.2.2.2 := by unfold wrG; rw [if_neg ha]
          have ewc : wrG g 0 (clr y) = [] := by
            show (if (lnG g y.2.1).1 = 1 then [oneG g 0 y] else []) = _
            rw [if_neg ha]
          have m4 : wr' = nI (wrG g 0 (clr y)).length := m4
          rw [ewc] at m4
          refine ⟨fun q => absurd m4 q, fun _ => ?_⟩
          exact ihh _ _ _ _ _ _ _ _ _ _ _ _ _ _ _ _ _ _ _ _ (by omega) hkk hw2 hrm ekk (by show u = nI (wrG g 0 y).length; rw [ewr]; exact eu) (by show KE9 200 (wrG g 0 y) _; rw [ewr]; exact hke)
  refine fun m => key m 0 n 0 0 wr k u _ _ _ _ _ _ _ _ _ _ he0 we0 _ hs (Nat.zero_le _) rfl (Or.inl hs1) ⟨?_, ?_, fun _ => rn, rfl, fun l hl => (hhe l (by omega)).trans (r33 l hl), fun l hl => (hwe l hl).trans (r4 l hl), KE9.nil⟩ r31 r32 r34
  · show (0 : Int32) = if x.1 = 2 then 1 else 0
    rw [if_neg (by omega)]
  · show (0 : Int32) = if x.1 = 3 then 1 else 0
    rw [if_neg (by omega)]
end HR9
