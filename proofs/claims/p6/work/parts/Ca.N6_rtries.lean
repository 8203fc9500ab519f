section RT9
variable {g : PGr} {p wy : Nat} {x : PM} {st ce ip ln be co ca ic il im ac aC ls tw lf lt cd : Nat → Int32} {sf tf : Nat → Nat}
def wdO (l : List (Nat × Nat × Nat)) (k : Nat) : Nat := match l[k]? with
  | some y => wid y
  | none => 1
theorem sq8_manyOf {k : Nat} {l : List (Nat × Nat × Nat)} {Φ : Int32 → Prop} (hI : IB p l ip ic il im) (hp : p < 6) (hk : k < 2) (hl2 : l.length ≤ 2) (hle : ∀ y ∈ l, y.2.1 ≤ y.2.2) (h : Φ (nI (wdO l k))) : wl_X8_manyOf ip il im (nI p) (nI k) Φ := by
  unfold wl_X8_manyOf
  rw [nI_clamp (n := p) (by omega), hI.1, nI_leI (by omega) (by omega)]
  unfold wdO at h
  refine fun _ => ⟨fun z => ?_, fun z _ _ => ?_⟩
  · rw [List.getElem?_eq_none z] at h
    exact h
  · have hlt : k < l.length := by omega
    obtain ⟨e1, e2, e3⟩ := hI.2 k _ (List.getElem?_eq_getElem hlt)
    have b := hle _ (List.getElem_mem hlt)
    rw [List.getElem?_eq_getElem hlt] at h
    rw [show (2 : Int32) = nI 2 from rfl, pk_mul, nI_add, nI_clamp (n := 2 * p + k) (by omega), e2, e3, pk_sub b, nI_1]
    exact h
theorem wdO_many : ∀ {l : List (Nat × Nat × Nat)}, l.length ≤ 2 → wdO l 0 * wdO l 1 = many l
  | [], _ => rfl
  | [a], _ => by
    rw [many_1]
    show wid a * 1 = wid a
    rw [Nat.mul_one]
  | [a, b], _ => by rw [many_2]; rfl
  | a :: b :: c :: r, h => absurd h (by show ¬ (r.length + 3 ≤ 2); omega)
theorem sq8_inputsOf {Φ : Int32 → Prop} (hI : IB p g.2.2.1 ip ic il im) (hG : GK9 g) (hp : p < 6) (h : Φ (nI (inN g))) : wl_X8_inputsOf ip il im (nI p) Φ := by
  have hl2 := hG.2.2.2.2.1
  have hle : ∀ y ∈ g.2.2.1, y.2.1 ≤ y.2.2 := fun y hy => (hG.2.2.2.2.2.1 y hy).2.1
  unfold wl_X8_inputsOf
  refine sq8_manyOf (k := 0) hI hp (by decide) hl2 hle (sq8_manyOf (k := 1) hI hp (by decide) hl2 hle ?_)
  rw [pk_mul, wdO_many hl2]
  exact h
theorem sq8_beginsWith {i c : Nat} {Φ : Int32 → Prop} (hC : CB p g.2.1 ce ca) (hI : IB p g.2.2.1 ip ic il im) (hG : GK9 g) (hp : p < 6) (hi : i < inN g) (hc : c < nC g) (h : Φ (nI (inpG g i c))) : wl_X8_beginsWith ip ca ic il im (nI p) (nI i) (nI c) Φ := by
  have h6 : nC g ≤ 6 := hG.2.2.1
  have h64 : inN g ≤ 64 := hG.2.2.2.2.2.2.1
  have hl2 := hG.2.2.2.2.1
  have h5 := hG.2.2.2.2.2.1
  have hle : ∀ y ∈ g.2.2.1, y.2.1 ≤ y.2.2 := fun y hy => (h5 y hy).2.1
  have hcc : c < g.2.1.length := hc
  have eca : ca (6 * p + c) = nI (atG g c) := by
    have := hC.2 c _ (List.getElem?_eq_getElem hcc)
    unfold atG
    rw [List.getD_eq_getElem?_getD, List.getElem?_eq_getElem hcc]
    exact this
  -- behind the last input: as told
  have last : ∀ (n k : Nat), k = g.2.2.1.length → Φ (nI (atG g c)) → ll_X8_beginsWith_3 ip ca ic il im (nI p) (nI i) (nI c) Φ n (nI k) := by
    intro n k hk hΦ
    cases n with
    | zero => trivial
    | succ n =>
      show bl_X8_beginsWith_3 _ _ _ _ _ _ _ _ _ _ _
      unfold bl_X8_beginsWith_3
      rw [nI_clamp (n := p) (by omega), hI.1, nI_leI (by omega) (by omega)]
      refine fun _ => ⟨fun _ _ => ?_, fun z => absurd (by omega) z⟩
      rw [show (6 : Int32) = nI 6 from rfl, pk_mul, nI_add, nI_clamp (n := 6 * p + c) (by omega), eca]
      exact hΦ
  -- an input
  have step : ∀ (n k : Nat) (y : Nat × Nat × Nat), g.2.2.1[k]? = some y → (¬ y.1 = c → ll_X8_beginsWith_3 ip ca ic il im (nI p) (nI i) (nI c) Φ n (nI (k + 1))) → (y.1 = c → k + 1 = g.2.2.1.length → Φ (nI (y.2.1 + i % wid y))) → (y.1 = c → ¬ k + 1 = g.2.2.1.length → Φ (nI (y.2.1 + i / wdO g.2.2.1 1))) → ll_X8_beginsWith_3 ip ca ic il im (nI p) (nI i) (nI c) Φ (n + 1) (nI k) := by
    intro n k y hy f1 f2 f3
    have hlt := get_lt hy
    obtain ⟨e1, e2, e3⟩ := hI.2 k y hy
    have hy1 := (h5 y (List.mem_of_getElem? hy)).1
    have hy9 := (h5 y (List.mem_of_getElem? hy)).2
    have hw9 : wid y ≤ 10000 := by unfold wid; omega
    show bl_X8_beginsWith_3 _ _ _ _ _ _ _ _ _ _ _
    unfold bl_X8_beginsWith_3
    have eq9 : nI y.1 = nI c ↔ y.1 = c := nI_eq (by unfold nC at h6; omega) (by omega)
    have eL : nI g.2.2.1.length - 1 = nI (g.2.2.1.length - 1) := by
      have := nI_pred (g.2.2.1.length - 1)
      rw [show g.2.2.1.length - 1 + 1 = g.2.2.1.length by omega] at this
      exact this
    rw [nI_clamp (n := p) (by omega), hI.1, nI_leI (by omega) (by omega), show (2 : Int32) = nI 2 from rfl, pk_mul, nI_add, nI_clamp (n := 2 * p + k) (by omega), e1, e2, eq9, eL, nI_eq (by omega) (by omega), nI_1]
    refine fun _ => ⟨fun z => absurd z (by omega), fun _ _ => ⟨fun z => f1 z, fun z _ _ => ⟨fun z2 => sq8_manyOf (k := 1) hI hp (by decide) hl2 hle (fun _ => ?_), fun z2 => sq8_manyOf (k := k) hI hp (by omega) hl2 hle (fun _ => ?_)⟩⟩⟩
    · have hwp : 0 < wdO g.2.2.1 1 := by unfold wdO; split <;> first | exact wid_pos _ | exact Nat.one_pos
      have hw1 : wdO g.2.2.1 1 ≤ 10000 := by
        unfold wdO
        split
        · rename_i y2 hy2
          have := (h5 y2 (List.mem_of_getElem? hy2)).2
          unfold wid; omega
        · decide
      rw [pk_div (by omega) hwp (by omega), nI_add]
      exact f3 z (by omega)
    · have ew : wdO g.2.2.1 k = wid y := by unfold wdO; rw [hy]
      rw [ew, pk_rem (by omega) (wid_pos y) (by omega), nI_add]
      exact f2 z (by omega)
  unfold inpG at h
  intro n
  cases n with
  | zero => trivial
  | succ n =>
    match hl : g.2.2.1, h, hl2 with
    | [], h, _ => exact last (n + 1) 0 (by rw [hl]; rfl) h
    | [a], h, _ =>
      have h : Φ (nI (if a.1 = c then a.2.1 + i % wid a else atG g c)) := h
      refine step n 0 a (by rw [hl]; rfl) (fun z => last n 1 (by rw [hl]; rfl) ?_) (fun z _ => ?_) (fun z z2 => absurd (by rw [hl]; rfl) z2)
      · rw [if_neg z] at h; exact h
      · rw [if_pos z] at h; exact h
    | [a, b], h, _ =>
      have h : Φ (nI (if a.1 = c then a.2.1 + i / wid b else if b.1 = c then b.2.1 + i % wid b else atG g c)) := h
      refine step n 0 a (by rw [hl]; rfl) (fun z => ?_) (fun z z2 => absurd z2 (by rw [hl]; show ¬ 0 + 1 = 2; decide)) (fun z _ => ?_)
      · rw [if_neg z] at h
        cases n with
        | zero => trivial
        | succ n =>
          refine step n 1 b (by rw [hl]; rfl) (fun y => last n 2 (by rw [hl]; rfl) ?_) (fun y _ => ?_) (fun y y2 => absurd (by rw [hl]; rfl) y2)
          · rw [if_neg y] at h; exact h
          · rw [if_pos y] at h; exact h
      · rw [if_pos z] at h
        rw [hl]
        exact h
    | a :: b :: c' :: r, _, hl2 => exact absurd hl2 (by show ¬ (r.length + 3 ≤ 2); omega)
theorem sq8_begins {i : Nat} {a0 w0 n0 e0 f0 u0 : Int32} {he : Nat → Int32} {Φ : Int32 → Int32 → Int32 → Int32 → Int32 → Int32 → (Nat → Int32) → Prop} (hC : CB p g.2.1 ce ca) (hI : IB p g.2.2.1 ip ic il im) (hG : GK9 g) (hp : p < 6) (hi : i < inN g) (h : ∀ he', AGn (nC g) (fun c => nI (inpG g i c)) he' → Φ (nI p) (nI wy) 0 0 0 0 he') : wl_X8_begins ce ip ca ic il im (nI p) (nI i) (nI wy) a0 w0 n0 e0 f0 u0 he Φ := by
  have h6 : nC g ≤ 6 := hG.2.2.1
  have hc0 : ce p = nI (nC g) := hC.1
  have key : ∀ (m c : Nat) (he : Nat → Int32), c ≤ 6 → (∀ j, j < c → j < nC g → he j = nI (inpG g i j)) → ll_X8_begins_33 ce ip ca ic il im (nI p) (nI i) (nI wy) Φ m (nI p) (nI wy) 0 0 0 0 he (nI c) := by
    intro m
    induction m with
    | zero => intros; trivial
    | succ m ih =>
      intro c he hc ha
      show bl_X8_begins_33 _ _ _ _ _ _ _ _ _ _ _ _ _ _ _ _ _ _ _
      unfold bl_X8_begins_33
      have q6 : (6 : Int32) ≤ nI c ↔ 6 ≤ c := nI_leI (a := 6) (by decide) (by omega)
      rw [q6, nI_clamp (n := p) (by omega), hc0, nI_leI (by omega) (by omega), nI_clamp (n := c) (by omega), nI_1]
      refine ⟨fun z => h he (fun j hj => ha j (by omega) hj), fun z _ => ⟨fun y _ => ih (c + 1) _ (by omega) (fun j hj hj2 => ?_), fun y => sq8_beginsWith hC hI hG hp hi (by omega) (fun _ => ih (c + 1) _ (by omega) (fun j hj hj2 => ?_))⟩⟩
      · rw [pk_un (by omega)]; exact ha j (by omega) hj2
      · by_cases e : j = c
        · rw [e, pk_us]
        · rw [pk_un e]; exact ha j (by omega) hj2
  exact fun m => key m 0 he (Nat.zero_le _) (fun j hj => absurd hj (Nat.not_lt_zero _))
theorem sq8_freshens {we : Nat → Int32} {Φ : (Nat → Int32) → Prop} (h : ∀ we', (∀ j, j < 16 → we' j = 0) → Φ we') : wl_X8_freshens we Φ := by
  have key : ∀ (m k : Nat) (we : Nat → Int32), k ≤ 16 → (∀ j, j < k → we j = 0) → ll_X8_freshens_2 Φ m we (nI k) := by
    intro m
    induction m with
    | zero => intros; trivial
    | succ m ih =>
      intro k we hk h0
      show bl_X8_freshens_2 _ _ _ _
      unfold bl_X8_freshens_2
      have q : (16 : Int32) ≤ nI k ↔ 16 ≤ k := nI_leI (a := 16) (by decide) (by omega)
      rw [q, nI_clamp (n := k) (by omega), nI_1]
      refine ⟨fun z => h we (fun j hj => h0 j (by omega)), fun z _ => ih (k + 1) _ (by omega) (fun j hj => ?_)⟩
      by_cases e : j = k
      · rw [e, pk_us]
      · rw [pk_un e]; exact h0 j (by omega)
  exact fun m => key m 0 we (Nat.zero_le _) (fun j hj => absurd hj (Nat.not_lt_zero _))
theorem pg0_1 : (pg0 x).1 = x := rfl
theorem sq8_goesOn {n e f u ma : Int32} {k1 k2 k3 k4 k5 k6 k7 k8 k9 vo he we sr go pk : Nat → Int32} {Φ : PG} (hG : GK9 g) (hp : p < 6) (hR : RP8 p g st ce ip ln be co ca ic il im ac aC lf lt cd) (hY : YB p (nL g) sf tf ls tw) (hLy : LYo g sf tf) (hw : wy ≤ 2) (hP0 : PMo g wy x) (hK0 : x.2.2.1 < 2 ^ 29) (hx : x.1 = 1 ∨ x.1 = 2) (hM : RM9 g x n e f u he we sr)
    (h : ∀ n e f u ma k1 k2 k3 k4 k5 k6 k7 k8 k9 vo he we sr go pk, RM9 g (rnG g (brG g sf tf) wy x) n e f u he we sr → ma = nI ((rnG g (brG g sf tf) wy x).2.2.1 - x.2.2.1) → GP9 (gitG g (brG g sf tf) wy 1000 (pg0 x)) go pk → Φ n e f u ma k1 k2 k3 k4 k5 k6 k7 k8 k9 vo he we sr go pk) : wl_X8_goesOn (nI p) (nI wy) ln be ac aC ls tw lf lt cd n e f u ma k1 k2 k3 k4 k5 k6 k7 k8 k9 vo he we sr go pk Φ := by
  have ek : (rnG g (brG g sf tf) wy x).2.2.1 = (gitG g (brG g sf tf) wy 1000 (pg0 x)).1.2.2.1 := by
    rw [git_1, rnG_2, pg0_1]
  have h33 := sq8_goesOn33 (wy := wy) (ln := ln) (Φ := Φ) (y0 := pg0 x) hG hp hR hY hLy hw hP0 hK0 (fun n e f u ma k1 k2 k3 k4 k5 k6 k7 k8 k9 vo he we sr go pk m1 m2 m3 => h n e f u ma k1 k2 k3 k4 k5 k6 k7 k8 k9 vo he we sr go pk (by rw [git_1, pg0_1] at m1; exact m1) (by rw [ek]; exact m2) m3)
  have key : ∀ (m k : Nat) (go pk : Nat → Int32), k ≤ 16 → (∀ j, j < k → go j = 0 ∧ pk j = 0) → ll_X8_goesOn_7 (nI p) (nI wy) ln be ac aC ls tw lf lt cd Φ m n e f u 0 k1 k2 k3 k4 k5 k6 k7 k8 k9 vo he we sr go pk (nI k) := by
    intro m
    induction m with
    | zero => intros; trivial
    | succ m ih =>
      intro k go pk hk h0
      show bl_X8_goesOn_7 _ _ _ _ _ _ _ _ _ _ _ _ _ _ _ _ _ _ _ _ _ _ _ _ _ _ _ _ _ _ _ _ _ _
      unfold bl_X8_goesOn_7
      have q : (16 : Int32) ≤ nI k ↔ 16 ≤ k := nI_leI (a := 16) (by decide) (by omega)
      rw [q, nI_clamp (n := k) (by omega), nI_1]
      refine ⟨fun z m => h33 m 0 n e f u _ _ _ _ _ _ _ _ _ _ _ _ _ go pk (by decide) hM hx rfl ⟨fun l hl => (h0 l (by omega)).1, fun l hl => (h0 l (by omega)).2⟩, fun z _ _ => ih (k + 1) _ _ (by omega) (fun j hj => ?_)⟩
      by_cases e : j = k
      · rw [e, pk_us, pk_us]; exact ⟨rfl, rfl⟩
      · rw [pk_un e, pk_un e]; exact h0 j (by omega)
  exact fun m => key m 0 go pk (Nat.zero_le _) (fun j hj => absurd hj (Nat.not_lt_zero _))
theorem RM9.bg {i : Nat} {he we sr : Nat → Int32} (hn : 0 < nL g) {wo : Nat → Int32} (h1 : AGn (nC g) (fun c => nI (inpG g i c)) he) (h2 : AGn 16 wo we) : RM9 g (bgG g i wo) 0 0 0 0 he we sr := ⟨rfl, rfl, fun _ => rfl, rfl, h1, h2, KE9.nil⟩
theorem sq8_tries {i : Nat} {a0 w0 n e f u ma : Int32} {k1 k2 k3 k4 k5 k6 k7 k8 k9 vo he we sr go pk : Nat → Int32} {Φ : PTr} (hG : GK9 g) (hp : p < 6) (hR : RP8 p g st ce ip ln be co ca ic il im ac aC lf lt cd) (hY : YB p (nL g) sf tf ls tw) (hLy : LYo g sf tf) (hw : wy ≤ 2) (hn : 0 < nL g) (hi : i < inN g)
    (h : ∀ n e f u ma k1 k2 k3 k4 k5 k6 k7 k8 k9 vo he we sr go pk, RM9 g (rnG g (brG g sf tf) wy (bgG g i (fun _ => 0))) n e f u he we sr → ma = nI (rnG g (brG g sf tf) wy (bgG g i (fun _ => 0))).2.2.1 → GP9 (gitG g (brG g sf tf) wy 1000 (pg0 (bgG g i (fun _ => 0)))) go pk → Φ (nI p) (nI wy) n e f u ma k1 k2 k3 k4 k5 k6 k7 k8 k9 vo he we sr go pk) : wl_X8_tries ce ip ln be ca ic il im ac aC ls tw lf lt cd (nI p) (nI i) (nI wy) a0 w0 n e f u ma k1 k2 k3 k4 k5 k6 k7 k8 k9 vo he we sr go pk Φ := by
  unfold wl_X8_tries
  refine sq8_freshens (fun we' h0 => sq8_begins hR.2.1 hR.2.2.1 hG hp hi (fun he' hh => ?_))
  exact sq8_goesOn (x := bgG g i (fun _ => 0)) hG hp hR hY hLy hw (PMo.bg hn (fun _ _ _ => rfl)) (show (0 : Nat) < 2 ^ 29 by decide) (Or.inl rfl) (RM9.bg hn hh (fun j hj => h0 j hj)) (fun n e f u ma k1 k2 k3 k4 k5 k6 k7 k8 k9 vo he we sr go pk m1 m2 m3 => h n e f u ma k1 k2 k3 k4 k5 k6 k7 k8 k9 vo he we sr go pk m1 (by rw [show (bgG g i (fun _ => 0)).2.2.1 = 0 from rfl, Nat.sub_zero] at m2; exact m2) m3)
end RT9
