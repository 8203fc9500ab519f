def wid (y : Nat × Nat × Nat) : Nat := y.2.2 - y.2.1 + 1
def atG (g : PGr) (c : Nat) : Nat := (g.2.1.getD c ([], 0)).2
/-- what a cell is as an input begins -/
def inpL (a0 c i : Nat) : List (Nat × Nat × Nat) → Nat
  | [] => a0
  | [a] => if a.1 = c then a.2.1 + i % wid a else a0
  | a :: b :: _ => if a.1 = c then a.2.1 + i / wid b else if b.1 = c then b.2.1 + i % wid b else a0
def inpG (g : PGr) (i c : Nat) : Nat := inpL (atG g c) c i g.2.2.1
/-- begun with an input -/
def bgG (g : PGr) (i : Nat) (wo : Nat → Int32) : PM := (1, 0, 0, wo, fun c => nI (inpG g i c), [])
def inN (g : PGr) : Nat := many g.2.2.1
/-- asked about: 1,000 steps from the input's begin, nothing worn -/
def rnG (g : PGr) (be : Nat → Int32) (wy : Nat) (x : PM) : PM := pfl be wy (itG g be wy 1000 x)
theorem PMo.bg {g : PGr} {wy i : Nat} {wo : Nat → Int32} (h : 0 < nL g) (hz : wy = 2 → ∀ j, j < 16 → wo j = 0) : PMo g wy (bgG g i wo) := ⟨(by decide : 1 ≤ 4), Nat.zero_le _, fun _ => h, Nat.zero_le _, hz⟩
theorem many_1 (a : Nat × Nat × Nat) : many [a] = wid a := Nat.one_mul _
theorem many_2 (a b : Nat × Nat × Nat) : many [a, b] = wid a * wid b := by
  show 1 * (a.2.2 - a.2.1 + 1) * (b.2.2 - b.2.1 + 1) = _
  rw [Nat.one_mul]
  rfl
theorem wid_pos (a : Nat × Nat × Nat) : 0 < wid a := Nat.succ_pos _
theorem pfl_2 {be : Nat → Int32} {wy : Nat} (y : PM) : (pfl be wy y).2 = y.2 := by
  unfold pfl
  split <;> rfl
theorem rnG_2 {g : PGr} {be : Nat → Int32} {wy : Nat} (x : PM) : (rnG g be wy x).2 = (itG g be wy 1000 x).2 := pfl_2 _
section CS
variable {g : PGr} {x : PM} {wy kn cl : Nat} {pst pce pgi pln : Int32} {be co to gc le gr ac sq tg fr mi en cd : Nat → Int32} {sf tf : Nat → Nat} {st tw : Nat → Int32}
theorem sq2_icount {l : List (Nat × Nat × Nat)} {le gr : Nat → Int32} {Φ : Int32 → Prop} (hI : IA l le gr) (h : Φ (nI (many l))) : wl_X2_inputCount (nI l.length) le gr Φ := by
  have hl := hI.1
  have key : ∀ (n i a : Nat), i ≤ l.length → many l = (l.drop i).foldl (fun a x => a * (x.2.2 - x.2.1 + 1)) a → ll_X2_inputCount_4 (nI l.length) le gr Φ n (nI a) (nI i) := by
    intro n
    induction n with
    | zero => intro i a _ _; trivial
    | succ n ih =>
      intro i a hi he
      refine ⟨fun z => ?_, fun z _ _ => ?_⟩
      · rw [nI_leI (by omega) (by omega)] at z
        rw [List.drop_eq_nil_of_le z] at he
        rw [he] at h
        exact h
      · have hlt : i < l.length := by
          rw [nI_leI (by omega) (by omega)] at z
          omega
        obtain ⟨e1, e2⟩ := hI.2.2 i _ (List.getElem?_eq_getElem hlt)
        obtain ⟨b1, b2⟩ := hI.2.1 _ (List.getElem_mem hlt)
        rw [List.drop_eq_getElem_cons hlt, List.foldl_cons] at he
        have h9 := ih (i + 1) _ (by omega) he
        rw [nI_clamp (n := i) (by omega), e1, e2, nI_1, pk_sub b1, nI_1]
        have ew : (if (1 : Int32) < nI (l[i].2.2 - l[i].2.1 + 1) then nI (l[i].2.2 - l[i].2.1 + 1) else (1 : Int32)) = nI (l[i].2.2 - l[i].2.1 + 1) := by
          by_cases e : 1 < l[i].2.2 - l[i].2.1 + 1
          · exact if_pos ((nI_ltI (a := 1) (by decide) (by omega)).mpr e)
          · show (if nI 1 < nI (l[i].2.2 - l[i].2.1 + 1) then nI (l[i].2.2 - l[i].2.1 + 1) else nI 1) = _
            rw [if_neg (fun y => e ((nI_ltI (a := 1) (by decide) (by omega)).mp y))]
            have : l[i].2.2 - l[i].2.1 + 1 = 1 := by omega
            rw [this]
        rw [ew]
        show ll_X2_inputCount_4 (nI l.length) le gr Φ n (nI a * nI (l[i].2.2 - l[i].2.1 + 1)) (nI (i + 1))
        rw [pk_mul]
        exact h9
  exact fun n => key n 0 1 (Nat.zero_le _) rfl
theorem at_end {n : Nat} {gi v w : Int32} {xi xc : Int32} {Φ : Int32 → Prop} (h : Φ v) : ll_X2_atFirst_18 gi to gc le gr xi xc Φ n v w (nI 0 + (-1)) := by
  cases n with
  | zero => trivial
  | succ n => exact ⟨fun _ => h, fun z => absurd (by decide) z⟩
theorem at_step {l : List (Nat × Nat × Nat)} {j c v w : Nat} {y : Nat × Nat × Nat} {gi xi : Int32} {Φ : Int32 → Prop} (hI : IA l le gr) (hg : ∀ (i : Nat) (y : Nat × Nat × Nat), l[i]? = some y → gc i = nI y.1) (hj : l[j]? = some y) (hc : c < 1000) (hy : y.1 < 1000) (hw : w < 2 ^ 31) (hb : ∀ n, ll_X2_atFirst_18 gi to gc le gr xi (nI c) Φ n (nI (if y.1 = c then y.2.1 + w % wid y else v)) (nI (w / wid y)) (nI j + (-1))) : ∀ n, ll_X2_atFirst_18 gi to gc le gr xi (nI c) Φ n (nI v) (nI w) (nI j) := by
  intro n
  cases n with
  | zero => trivial
  | succ n =>
    have hl := get_lt hj
    have hl2 := hI.1
    obtain ⟨e1, e2⟩ := hI.2.2 j y hj
    obtain ⟨b1, b2⟩ := hI.2.1 y (List.mem_of_getElem? hj)
    have hw9 : wid y ≤ 10000 := by unfold wid; omega
    have hp := wid_pos y
    have hb := hb n
    have eq9 : nI y.1 = nI c ↔ y.1 = c := nI_eq (by omega) (by omega)
    refine ⟨fun z => absurd z (nI_pos (by omega)), fun _ => ?_⟩
    unfold wl_X2_width
    rw [nI_clamp (n := j) (by omega), e1, e2, pk_sub b1, nI_1, hg j y hj, eq9]
    have ew : (if (1 : Int32) < nI (y.2.2 - y.2.1 + 1) then nI (y.2.2 - y.2.1 + 1) else (1 : Int32)) = nI (wid y) := by
      by_cases e : 1 < wid y
      · exact if_pos ((nI_ltI (a := 1) (by decide) (by omega)).mpr e)
      · show (if nI 1 < nI (wid y) then nI (wid y) else nI 1) = _
        rw [if_neg (fun y => e ((nI_ltI (a := 1) (by decide) (by omega)).mp y))]
        have : wid y = 1 := by omega
        rw [this]
    rw [ew]
    refine fun _ _ _ => ⟨fun z _ => ?_, fun z _ _ _ => ?_⟩
    · rw [if_neg z, ← pk_div hw hp (by omega)] at hb; exact hb
    · rw [if_pos z, ← nI_add, ← pk_rem hw hp (by omega), ← pk_div hw hp (by omega)] at hb; exact hb
theorem atG_to (hT : CA9 g.2.1 to) {c : Nat} (hc : c < nC g) : to c = nI (atG g c) := by
  have hc : c < g.2.1.length := hc
  have := hT c _ (List.getElem?_eq_getElem hc)
  unfold atG
  rw [List.getD_eq_getElem?_getD, List.getElem?_eq_getElem hc]
  exact this
theorem sq2_atFirst {i c : Nat} {Φ : Int32 → Prop} (hQ : PQ9 g pst pce pgi pln be co to gc le gr ac sq tg fr mi en cl cd) (hG : GK9 g) (hi : i < inN g) (hc : c < nC g) (h : Φ (nI (inpG g i c))) : wl_X2_atFirst pgi to gc le gr (nI i) (nI c) Φ := by
  obtain ⟨q1, q2, q3, q4, q5, q6, q7, q8, q9, ⟨i1, i2, i3, i4⟩, q11, q12, q13, q14⟩ := hQ
  have h6 : nC g ≤ 6 := q2
  have h64 : inN g ≤ 64 := i2
  unfold wl_X2_atFirst
  rw [q6, nI_clamp (n := c) (by omega), atG_to q9 hc]
  intro _
  unfold inpG at h
  unfold inN at hi
  have hl2 := i1.1
  have h5 := hG.2.2.2.2.2.1
  match hl : g.2.2.1, h, hi, i1, i4, hl2, h5 with
  | [], h, _, _, _, _, _ =>
    intro n
    exact at_end (n := n) (w := nI i) h
  | [a], h, hi, i1, i4, _, h5 =>
    rw [many_1] at hi
    have h1 := (h5 a List.mem_cons_self).1
    have := at_step (to := to) (gi := nI [a].length) (xi := nI i) (Φ := Φ) (c := c) (v := atG g c) (w := i) i1 i4 (j := 0) (y := a) rfl (by omega) (by unfold nC at h6; omega) (by omega) (fun n => at_end (show Φ (nI (if a.1 = c then a.2.1 + i % wid a else atG g c)) from h))
    rw [show nI [a].length - 1 = nI 0 from nI_pred 0]
    exact this
  | [a, b], h, hi, i1, i4, _, h5 =>
    rw [many_2] at hi
    have h1 := (h5 a List.mem_cons_self).1
    have h2 := (h5 b (List.mem_cons_of_mem _ List.mem_cons_self)).1
    have hd : i / wid b < wid a := Nat.div_lt_of_lt_mul (by rw [Nat.mul_comm]; exact hi)
    have ed : i / wid b % wid a = i / wid b := Nat.mod_eq_of_lt hd
    have hdi : i / wid b ≤ i := Nat.div_le_self _ _
    have h : Φ (nI (if a.1 = c then a.2.1 + i / wid b else if b.1 = c then b.2.1 + i % wid b else atG g c)) := h
    rw [← ed] at h
    have s0 := at_step (to := to) (gi := nI [a, b].length) (xi := nI i) (Φ := Φ) (c := c) (v := if b.1 = c then b.2.1 + i % wid b else atG g c) (w := i / wid b) i1 i4 (j := 0) (y := a) rfl (by omega) (by unfold nC at h6; omega) (by omega) (fun n => at_end h)
    have s1 := at_step (to := to) (gi := nI [a, b].length) (xi := nI i) (Φ := Φ) (c := c) (v := atG g c) (w := i) i1 i4 (j := 1) (y := b) rfl (by omega) (by unfold nC at h6; omega) (by omega) (fun n => by rw [pk_m1]; exact s0 n)
    rw [show nI [a, b].length - 1 = nI 1 from nI_pred 1]
    exact s1
  | a :: b :: c' :: r, _, _, _, _, hl2, _ => exact absurd hl2 (by show ¬ (r.length + 3 ≤ 2); omega)
theorem sq1_start {i : Nat} {s0 n0 a0 b0 : Int32} {ce : Nat → Int32} {Φ : Int32 → Int32 → Int32 → Int32 → (Nat → Int32) → Prop} (hQ : PQ9 g pst pce pgi pln be co to gc le gr ac sq tg fr mi en cl cd) (hG : GK9 g) (hi : i < inN g) (h : ∀ ce', AGn (nC g) (fun c => nI (inpG g i c)) ce' → Φ 1 0 0 0 ce') : wl_X1_start pce pgi to gc le gr (nI i) s0 n0 a0 b0 ce Φ := by
  have q5 : pce = nI (nC g) := hQ.2.2.2.2.1
  have h6 : nC g ≤ 6 := hQ.2.1
  have key : ∀ (m c : Nat) (s0 n0 a0 b0 : Int32) (ce : Nat → Int32), c ≤ nC g → AGn c (fun c => nI (inpG g i c)) ce → ll_X1_start_2 pce pgi to gc le gr (nI i) Φ m s0 n0 a0 b0 ce (nI c) := by
    intro m
    induction m with
    | zero => intros; trivial
    | succ m ih =>
      intro c s0 n0 a0 b0 ce hc ha
      show bl_X1_start_2 _ _ _ _ _ _ _ _ _ _ _ _ _ _ _
      unfold bl_X1_start_2
      rw [q5, nI_leI (by omega) (by omega), ← q5]
      refine ⟨fun z => h ce (by rw [show nC g = c by omega]; exact ha), fun z => sq2_atFirst hQ hG hi (by omega) (fun _ => ?_)⟩
      rw [nI_clamp (n := c) (by omega), nI_1]
      refine ih (c + 1) _ _ _ _ _ (by omega) (fun j hj => ?_)
      by_cases e : j = c
      · rw [e, pk_us]
      · rw [pk_un e]; exact ha j (by omega)
  exact fun m => key m 0 _ _ _ _ ce (Nat.zero_le _) (fun j hj => absurd hj (Nat.not_lt_zero _))
theorem sq7_in {i n : Nat} {Φ : Int32 → Prop} (hi : i < n) (hn : n < 2 ^ 31) (h : Φ 1) : wl_X7_within (nI i) (nI n) Φ := ⟨fun z => absurd z (nI_pos (by omega)), fun _ => ⟨fun z => absurd ((nI_leI (by omega) (by omega)).mp z) (by omega), fun _ => h⟩⟩
/-- the class's machine as the pure one -/
def CM9 (g : PGr) (kn : Nat) (x : PM) (s n k u : Int32) (wo ce ke : Nat → Int32) : Prop := s = nI x.1 ∧ n = nI x.2.1 ∧ k = nI x.2.2.1 ∧ u = nI x.2.2.2.2.2.length ∧ AGn 16 x.2.2.2.1 wo ∧ AGn (nC g) x.2.2.2.2.1 ce ∧ KE9 kn x.2.2.2.2.2 ke
theorem sq1_fall {s n k u : Int32} {wo ce ke : Nat → Int32} {Φ : Int32 → Prop} (hQ : PQ9 g pst pce pgi pln be co to gc le gr ac sq tg fr mi en cl cd) (hG : GK9 g) (hL : LYo g sf tf) (hc : CLs g sf tf st tw) (hP : PMo g wy x) (hw : wy ≤ 2) (hM : CM9 g kn x s n k u wo ce ke) (h : Φ (nI (pfl (brG g sf tf) wy x).1)) : wl_X1_fallIfHole (nI wy) n st tw wo pln be s Φ := by
  obtain ⟨m1, m2, m3, m4, m5, m6, m7⟩ := hM
  have h16 : nL g ≤ 16 := hG.2.2.2.2.2.2.2.2.1
  have eln : pln = nI (nL g) := hQ.2.2.2.2.2.2.1
  have hS : SA9 g.1 be co := hQ.2.2.2.2.2.2.2.1
  have hx4 := hP.1
  have q1 : nI x.1 = 1 ↔ x.1 = 1 := nI_eq (b := 1) (by omega) (by decide)
  have q0 : nI wy = 0 ↔ wy = 0 := nI_eq (b := 0) (by omega) (by decide)
  unfold wl_X1_fallIfHole
  rw [m1, m2, eln, q1, q0]
  unfold pfl at h
  refine ⟨fun z => ?_, fun z => ⟨fun y => ?_, fun y => ?_⟩⟩
  · rw [if_neg (fun q => z q.1)] at h; exact h
  · rw [if_neg (fun q => y q.2.1)] at h; exact h
  · have hN := hP.2.2.1 (Or.inl z)
    refine sq7_in hN (by omega) ⟨fun q => absurd q (by decide), fun _ _ => sq1_bearing hS hG hL hc hN ?_⟩
    rw [nI_clamp (n := x.2.1) (by omega), m5 _ (by omega)]
    refine ⟨fun q => ?_, fun q => ?_⟩
    · rw [if_neg (fun p => p.2.2 q)] at h; exact h
    · rw [if_pos ⟨z, y, q⟩] at h; exact h
theorem sq1_step {s n k u : Int32} {wo ce ke sk : Nat → Int32} {Φ : PSq} (hQ : PQ9 g pst pce pgi pln be co to gc le gr ac sq tg fr mi en cl cd) (hG : GK9 g) (hL : LYo g sf tf) (hc : CLs g sf tf st tw) (hP : PMo g wy x) (hw : wy ≤ 2) (hM : CM9 g kn x s n k u wo ce ke) (hK : x.2.2.1 + 1 < 2 ^ 30) (hkn : kn < 2 ^ 30)
    (h : ∀ r s' n' k' u' wo' ce' ke' sk', CM9 g kn (stp g (brG g sf tf) wy x) s' n' k' u' wo' ce' ke' → ((r = 1 ∧ (stp g (brG g sf tf) wy x).2.2.1 = x.2.2.1 + 1) ∨ (r = 0 ∧ ¬ (stp g (brG g sf tf) wy x).1 = 1 ∧ (stp g (brG g sf tf) wy x).2.2.1 = x.2.2.1)) → Φ r s' n' k' u' wo' ce' ke' sk') : wl_X1_step (nI wy) st tw pln be ac tg fr mi en cd kn cl s n k u wo ce ke sk Φ := by
  have h16 : nL g ≤ 16 := hG.2.2.2.2.2.2.2.2.1
  have eln : pln = nI (nL g) := hQ.2.2.2.2.2.2.1
  unfold wl_X1_step
  refine sq1_fall hQ hG hL hc hP hw hM ?_
  obtain ⟨m1, m2, m3, m4, m5, m6, m7⟩ := hM
  have hx4 := hP.1
  by_cases z : x.1 = 1
  · by_cases y : hol (brG g sf tf) wy x
    · have es := stp_hol (g := g) z y
      have ep : pfl (brG g sf tf) wy x = (3, x.2) := if_pos ⟨z, y⟩
      rw [ep]
      rw [es] at h
      refine ⟨fun _ => h _ _ _ _ _ _ _ _ _ ⟨rfl, m2, m3, m4, m5, m6, m7⟩ (Or.inr ⟨rfl, by (try dsimp only); decide, rfl⟩), fun q => absurd q (by (try dsimp only); decide)⟩
    · have es := stp_wrk (g := g) z y
      have ep : pfl (brG g sf tf) wy x = x := if_neg (fun q => y q.2)
      rw [ep]
      rw [es] at h
      have hN := hP.2.2.1 (Or.inl z)
      have e1 : nI x.1 = 1 := by rw [z]; rfl
      refine ⟨fun q => absurd e1 q, fun _ => ?_⟩
      have k52 : ∀ wo' : Nat → Int32, AGn 16 (w1 wy x) wo' → kl_X1_step_52 (nI wy) st tw pln be ac tg fr mi en cd kn cl Φ (nI x.1) n k u wo' ce ke sk := by
        intro wo' ho
        unfold kl_X1_step_52
        rw [m2, m4]
        refine sq1_work hQ hG hN ho (fun e => ?_) m6 m7 (by have := hP.2.2.2.1; omega) hkn (fun wo2 ce2 ke2 sk2 h1 h2 h3 => ?_)
        · rw [w1_plain e]; exact hP.2.2.2.2 e
        · rw [eln, nI_ltI (by have := nxG_le (wy := wy) hN; omega) (by omega), m3, nI_1]
          refine ⟨fun q => h _ _ _ _ _ _ _ _ _ ⟨?_, rfl, rfl, rfl, h1, h2, h3⟩ (Or.inl ⟨rfl, rfl⟩), fun q => h _ _ _ _ _ _ _ _ _ ⟨?_, rfl, rfl, rfl, h1, h2, h3⟩ (Or.inl ⟨rfl, rfl⟩)⟩
          · show nI x.1 = nI (if nL g ≤ nxG g wy x then 2 else 1)
            rw [if_neg (by omega), z]
          · show 2 = nI (if nL g ≤ nxG g wy x then 2 else 1)
            rw [if_pos (by omega)]
            rfl
      rw [m2, eln]
      refine sq7_in hN (by omega) ⟨fun _ => ?_, fun q => absurd q (by decide)⟩
      rw [← m2, ← eln]
      have q2 : nI wy = 2 ↔ wy = 2 := nI_eq (b := 2) (by omega) (by decide)
      rw [q2]
      refine ⟨fun e => k52 _ ?_, fun e _ _ => k52 _ ?_⟩
      · rw [w1_plain e]; exact m5
      · rw [m2, nI_clamp (n := x.2.1) (by omega), m5 _ (by omega), w1_else e]
        exact m5.updZ
  · have es := stp_off (g := g) (be := brG g sf tf) (wy := wy) z
    have ep : pfl (brG g sf tf) wy x = x := if_neg (fun q => z q.1)
    rw [ep]
    rw [es] at h
    refine ⟨fun _ => h _ _ _ _ _ _ _ _ _ ⟨rfl, m2, m3, m4, m5, m6, m7⟩ (Or.inr ⟨rfl, z, rfl⟩), fun q => absurd ((nI_eq (b := 1) (by omega) (by decide)).mp q) z⟩
theorem sq1_go {M : Nat} {s n k u : Int32} {wo ce ke sk : Nat → Int32} {Φ : PSq} (hQ : PQ9 g pst pce pgi pln be co to gc le gr ac sq tg fr mi en cl cd) (hG : GK9 g) (hL : LYo g sf tf) (hc : CLs g sf tf st tw) (hP : PMo g wy x) (hw : wy ≤ 2) (hM : CM9 g kn x s n k u wo ce ke) (hK : x.2.2.1 + M < 2 ^ 30) (hkn : kn < 2 ^ 30)
    (h : ∀ s' n' k' u' wo' ce' ke' sk', CM9 g kn (itG g (brG g sf tf) wy M x) s' n' k' u' wo' ce' ke' → Φ (nI ((itG g (brG g sf tf) wy M x).2.2.1 - x.2.2.1)) s' n' k' u' wo' ce' ke' sk') : wl_X1_go (nI wy) st tw pln be ac tg fr mi en cd kn cl (nI M) s n k u wo ce ke sk Φ := by
  have key : ∀ (m i : Nat) (s n k u : Int32) (wo ce ke sk : Nat → Int32), i ≤ M → CM9 g kn (itG g (brG g sf tf) wy i x) s n k u wo ce ke → (itG g (brG g sf tf) wy i x).2.2.1 = x.2.2.1 + i → ll_X1_go_4 (nI wy) st tw pln be ac tg fr mi en cd kn cl (nI M) Φ m s n k u wo ce ke sk (nI i) (nI i) := by
    intro m
    induction m with
    | zero => intros; trivial
    | succ m ih =>
      intro i s n k u wo ce ke sk hi hm hk
      show bl_X1_go_4 _ _ _ _ _ _ _ _ _ _ _ _ _ _ _ _ _ _ _ _ _ _ _ _ _ _
      unfold bl_X1_go_4
      rw [nI_leI (by omega) (by omega), nI_1]
      refine ⟨fun z => ?_, fun z => ?_⟩
      · have e : i = M := by omega
        subst e
        have := h s n k u wo ce ke sk hm
        rw [hk, Nat.add_sub_cancel_left] at this
        exact this
      · refine sq1_step hQ hG hL hc (PMo.itZ i x hP) hw hm (by omega) hkn (fun r s' n' k' u' wo' ce' ke' sk' hm' hr => ?_)
        rw [← it_one] at hm' hr
        rcases hr with ⟨hr, hk'⟩ | ⟨hr, hs, hk'⟩
        · refine ⟨fun q => absurd (hr.symm.trans q) (by decide), fun _ => ih (i + 1) _ _ _ _ _ _ _ _ (by omega) hm' (by omega)⟩
        · refine ⟨fun _ => ?_, fun q => absurd hr q⟩
          have e : itG g (brG g sf tf) wy M x = itG g (brG g sf tf) wy (i + 1) x := by
            have := it_add (g := g) (be := brG g sf tf) (wy := wy) (i + 1) (M - (i + 1)) x
            rw [show i + 1 + (M - (i + 1)) = M by omega, it_off _ hs] at this
            exact this
          have := h s' n' k' u' wo' ce' ke' sk' (by rw [e]; exact hm')
          rw [e, hk', hk, Nat.add_sub_cancel_left] at this
          exact this
  exact fun m => key m 0 s n k u wo ce ke sk (Nat.zero_le _) hM rfl
theorem CLs.cpy {os ot : Nat → Int32} (hc : CLs g sf tf st tw) (h16 : nL g ≤ 16) : CLs g sf tf (va_cpy st os 0 0 16) (va_cpy tw ot 0 0 16) := by
  intro l hl
  rw [pk_cpy_in (Nat.zero_le _) (by omega), pk_cpy_in (Nat.zero_le _) (by omega), show 0 + (l - 0) = l by omega]
  exact hc l hl
theorem sq7_walk {i pg mp : Nat} {w s n a b : Int32} {os ot wo ce ke sk : Nat → Int32} {Φ : PWq} (hQ : PQ9 g pst pce pgi pln be co to gc le gr ac sq tg fr mi en cl cd) (hG : GK9 g) (hL : LYo g sf tf) (hc : CLs g sf tf st tw) (hw : wy ≤ 2) (hn : 0 < nL g) (hi : i < inN g) (hkn : kn < 2 ^ 30)
    (h : ∀ s' n' k' u' st' tw' wo' ce' ke' sk', CM9 g kn (rnG g (brG g sf tf) wy (bgG g i (fun _ => 0))) s' n' k' u' wo' ce' ke' → Φ pg (nI wy) s' n' k' u' st' tw' wo' ce' ke' sk') : wl_X7_walk st tw pce pgi pln be to gc le gr ac tg fr mi en cd kn cl pg (nI wy) (nI i) mp w s n a b os ot wo ce ke sk Φ := by
  have h16 : nL g ≤ 16 := hG.2.2.2.2.2.2.2.2.1
  unfold wl_X7_walk wl_X1_layLike
  refine sq_fill (rl := 16) (by decide) (fun wo' h0 _ _ => sq1_start hQ hG hi (fun ce' hce => ?_))
  have hP : PMo g wy (bgG g i (fun _ => 0)) := PMo.bg hn (fun _ _ _ => rfl)
  refine sq1_go (M := 1000) (x := bgG g i (fun _ => 0)) hQ hG hL (hc.cpy h16) hP hw ⟨rfl, rfl, rfl, rfl, fun j hj => h0 j hj, hce, KE9.nil⟩ (show 0 + 1000 < 2 ^ 30 by decide) hkn (fun s' n' k' u' wo2 ce2 ke2 sk2 hM => ?_)
  refine sq1_fall hQ hG hL (hc.cpy h16) (PMo.itZ 1000 _ hP) hw hM ?_
  obtain ⟨m1, m2, m3, m4, m5, m6, m7⟩ := hM
  refine h _ _ _ _ _ _ _ _ _ _ ?_
  have hx : (rnG g (brG g sf tf) wy (bgG g i (fun _ => 0))).2 = (itG g (brG g sf tf) wy 1000 (bgG g i (fun _ => 0))).2 := rnG_2 _
  refine ⟨rfl, ?_, ?_, ?_, ?_, ?_, ?_⟩
  · rw [hx]; exact m2
  · rw [hx]; exact m3
  · rw [hx]; exact m4
  · rw [hx]; exact m5
  · rw [hx]; exact m6
  · rw [hx]; exact m7
theorem sq7_canWalk {xi : Int32} {Φ : Int32 → Prop} (hQ : PQ9 g pst pce pgi pln be co to gc le gr ac sq tg fr mi en cl cd) (h0 : ¬ (0 < nL g ∧ ∃ i, i < inN g ∧ xi = nI i) → Φ 0) (h1 : ∀ i, 0 < nL g → i < inN g → xi = nI i → Φ 1) : wl_X7_canWalk pgi pln le gr xi Φ := by
  obtain ⟨q1, q2, q3, q4, q5, q6, q7, q8, q9, ⟨i1, i2, i3, i4⟩, q11, q12, q13, q14⟩ := hQ
  have h16 : nL g ≤ 16 := q3
  have eln : pln = nI (nL g) := q7
  have h64 : many g.2.2.1 ≤ 64 := i2
  unfold wl_X7_canWalk
  rw [eln, q6]
  have z0 : nI (nL g) ≤ 0 ↔ nL g ≤ 0 := nI_leI (b := 0) (by omega) (by decide)
  rw [z0]
  refine ⟨fun z => h0 (fun q => by omega), fun z => sq2_icount i1 ⟨fun y => ⟨fun _ => h0 (fun q => ?_), fun y => absurd rfl y⟩, fun y => ⟨fun y2 => ⟨fun _ => h0 (fun q => ?_), fun y => absurd rfl y⟩, fun y2 => ⟨fun y => absurd y (by decide), fun _ => ?_⟩⟩⟩⟩
  · obtain ⟨_, i, hi, e⟩ := q
    have hi : i < many g.2.2.1 := hi
    rw [e] at y
    exact nI_pos (by omega) y
  · obtain ⟨_, i, hi, e⟩ := q
    have hi : i < many g.2.2.1 := hi
    rw [e, nI_leI (by omega) (by omega)] at y2
    omega
  · obtain ⟨j, hj, e, _⟩ := pk_mu y y2 (by omega)
    exact h1 j (by omega) hj e
end CS
