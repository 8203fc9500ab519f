section RW9
variable {g : PGr} {p wy : Nat} {x : PM} {st ce ip ln be co ca ic il im ac aC ls tw lf lt cd : Nat → Int32} {sf tf : Nat → Nat}
theorem sq8_lineOf {n : Nat} {v : Int32} {Φ : Int32 → Prop} (hp : p < 6) (hl : ln p = nI n) (h0 : 0 < n) (h16 : n ≤ 16) (h : Φ (nI (lnOf v n))) : wl_X8_lineOf (nI p) ln v Φ := by
  unfold wl_X8_lineOf
  rw [nI_clamp (n := p) (by omega), hl]
  have e := lnOf_eq v (v - v / nI n * nI n) h0 h16 rfl
  refine fun _ _ => ⟨fun z => ?_, fun z => ?_⟩
  · rw [e.2 (Int32.not_lt.mpr z)]; exact h
  · rw [e.1 (Int32.not_le.mp z)]; exact h
theorem sq8_wornness {n : Nat} {wo we : Nat → Int32} {v : Int32} {Φ : Int32 → Prop} (hp : p < 6) (hl : ln p = nI n) (h0 : 0 < n) (h16 : n ≤ 16) (hw : wy ≤ 2) (ho : AGn 16 wo we) (h : Φ (wvG n wy wo v)) : wl_X8_wornness (nI p) (nI wy) ln we v Φ := by
  have q2 : nI wy = 2 ↔ wy = 2 := nI_eq (b := 2) (by omega) (by decide)
  have hlt := lnOf_lt v h0
  unfold wl_X8_wornness
  rw [q2]
  unfold wvG at h
  refine ⟨fun z => sq8_lineOf hp hl h0 h16 (fun _ => ?_), fun z => ?_⟩
  · rw [if_neg z] at h
    rw [nI_clamp (n := lnOf v n) (by omega), ho _ (by omega)]
    exact h
  · rw [if_pos z] at h; exact h
theorem sq8_worked {k : Nat} {e : EC} {F : EF} {w : Int32} {vo we k1 k2 k3 k4 k5 k6 k7 k8 k9 c0 : Nat → Int32} {wv : Int32 → Int32} {Φ : PW9} (hp : p < 6) (hk : k < 32) (hR : ER9 p k e.1 lf lt cd) (hF : IX9 0 0 e.1 F) (hvo : ∀ c, c < 6 → vo (1 + c) = c0 c) (hwv : ∀ (x : Int32) (Ψ : Int32 → Prop), Ψ (wv x) → wl_X8_wornness (nI p) w ln we x Ψ) (h : ∀ b1 b2 b3 b4 b5 b6 b7 b8 b9, Φ (F c0 wv) b1 b2 b3 b4 b5 b6 b7 b8 b9) : wl_X8_worked (nI p) w ln lf lt cd vo we (nI (32 * p + k)) k1 k2 k3 k4 k5 k6 k7 k8 k9 Φ := by
  obtain ⟨o, h1, h2, h3, h4⟩ := hR
  unfold wl_X8_worked
  refine sq8_opens (d := 0) (R := rg9 k1 k2 k3 k4 k5 k6 k7 k8 k9) (by decide) ?_
  intro _ n
  rw [nI_clamp (n := 32 * p + k) (by omega), h1]
  have hci : CI9 lt cd (nI (32 * p + k)) (1000 * p + o) e.1 := ⟨⟨1000 * p + o + e.1.length, by rw [nI_clamp (n := 32 * p + k) (by omega)]; exact h2, Nat.le_refl _, by omega⟩, h4⟩
  refine hF (nI p) w ln lf lt cd vo we (nI (32 * p + k)) Φ c0 wv hvo hwv n (1000 * p + o) (rg9 k1 (upd k2 0 0) k3 (upd k4 0 0) (upd k5 0 0) (upd k6 0 20) k7 (upd k8 0 0) k9) hci ⟨fun _ => pk_us, fun _ => ⟨pk_us, pk_us⟩, fun _ => pk_us, fun _ => pk_us, Or.inr rfl⟩ (fun n' R' hpt => ?_)
  cases n' with
  | zero => trivial
  | succ n' =>
    obtain ⟨ha, hb⟩ := hpt
    have hb : XV9 R' 0 = F c0 wv ∧ SM9r [8] 0 _ R' := hb
    show bl_X8_worked_14 _ _ _ _ _ _ _ _ _ _ _ _ _ _ _ _ _ _ _ _ _ _
    unfold bl_X8_worked_14
    rw [nI_clamp (n := 32 * p + k) (by omega), h2]
    refine fun _ => ⟨fun _ => sq8_tests (d := 0) (R := R') (by decide) ?_, fun z => absurd (Int32.le_refl _) z⟩
    rw [pk_us, hb.1]
    exact h _ _ _ _ _ _ _ _ _
theorem sq8_works {l v : Nat} {e : EC} {w : Int32} {he we k1 k2 k3 k4 k5 k6 k7 k8 k9 vo C : Nat → Int32} {wv : Int32 → Int32} {Φ : PWk} (hG : GK9 g) (hp : p < 6) (hk : 2 * l + v < 32) (hR : ER9 p (2 * l + v) e.1 lf lt cd) (hE : OKE (nC g) e) (hC : AGn (nC g) C he) (hwv : ∀ (x : Int32) (Ψ : Int32 → Prop), Ψ (wv x) → wl_X8_wornness (nI p) w ln we x Ψ) (h : ∀ b1 b2 b3 b4 b5 b6 b7 b8 b9 vo', Φ (FE e C wv) b1 b2 b3 b4 b5 b6 b7 b8 b9 vo') : wl_X8_works (nI p) w ln lf lt cd he we (nI l) (nI v) k1 k2 k3 k4 k5 k6 k7 k8 k9 vo Φ := by
  have h6 : nC g ≤ 6 := hG.2.2.1
  obtain ⟨F, hev, hix⟩ := hE.me h6
  have eF : F he wv = FE e C wv := by rw [← FE_of hev]; exact (show OE9 (nC g) e from Or.inl hE).cong hC
  have key : ∀ (n k : Nat) (vo : Nat → Int32), k ≤ 6 → (∀ c, c < k → vo (1 + c) = he c) → ll_X8_works_2 (nI p) w ln lf lt cd he we (nI l) (nI v) Φ n k1 k2 k3 k4 k5 k6 k7 k8 k9 vo (nI k) := by
    intro n
    induction n with
    | zero => intros; trivial
    | succ n ih =>
      intro k vo hk' hvo
      show bl_X8_works_2 _ _ _ _ _ _ _ _ _ _ _ _ _ _ _ _ _ _ _ _ _ _ _
      unfold bl_X8_works_2
      have q6 : (6 : Int32) ≤ nI k ↔ 6 ≤ k := nI_leI (a := 6) (by decide) (by omega)
      rw [q6]
      refine ⟨fun z => ?_, fun z _ _ => ?_⟩
      · have ex : ((32 : Int32) * nI p) + (2 * nI l) + nI v = nI (32 * p + (2 * l + v)) := by
          rw [show (32 : Int32) = nI 32 from rfl, show (2 : Int32) = nI 2 from rfl, pk_mul, pk_mul, nI_add, nI_add]
          exact congrArg nI (by omega)
        rw [ex]
        refine sq8_worked hp hk hR hix (fun c hc => hvo c (by omega)) hwv (fun b1 b2 b3 b4 b5 b6 b7 b8 b9 => ?_)
        rw [eF]
        exact h _ _ _ _ _ _ _ _ _ _
      · have e1 : (1 : Int32) + nI k = nI (1 + k) := nI_add 1 k
        rw [e1, nI_1, nI_clamp (n := 1 + k) (by omega), nI_clamp (n := k) (by omega)]
        refine ih (k + 1) _ (by omega) (fun c hc => ?_)
        by_cases ec : c = k
        · rw [ec, pk_us]
        · rw [pk_un (by omega)]; exact hvo c (by omega)
  exact fun n => key n 0 vo (Nat.zero_le _) (fun c hc => absurd hc (Nat.not_lt_zero _))
/-- the reference's machine as the pure one -/
def RM9 (g : PGr) (x : PM) (n e f u : Int32) (he we sr : Nat → Int32) : Prop := (e = if x.1 = 2 then 1 else 0) ∧ (f = if x.1 = 3 then 1 else 0) ∧ (¬ x.1 = 2 → n = nI x.2.1) ∧ u = nI x.2.2.2.2.2.length ∧ AGn (nC g) x.2.2.2.2.1 he ∧ AGn 16 x.2.2.2.1 we ∧ KE9 1001 x.2.2.2.2.2 sr
theorem sq8_wrk {n e f u : Int32} {he we sr k1 k2 k3 k4 k5 k6 k7 k8 k9 vo : Nat → Int32} {Φ : PSt} (hG : GK9 g) (hp : p < 6) (hL : LBd p g.2.2.2 ln ac aC lf lt cd) (hw : wy ≤ 2) (hN : x.2.1 < nL g) (hx1 : x.1 = 1) (hM : RM9 g x n e f u he we sr) (hW : x.2.2.2.2.2.length < 2 ^ 30)
    (h : ∀ n' e' f' u' b1 b2 b3 b4 b5 b6 b7 b8 b9 vo' he' we' sr', RM9 g (wrk g wy x) n' e' f' u' he' we' sr' → Φ n' e' f' u' b1 b2 b3 b4 b5 b6 b7 b8 b9 vo' he' we' sr') : kl_X8_stepsOn_62 (nI p) (nI wy) ln be ac aC ls tw lf lt cd Φ n e f u k1 k2 k3 k4 k5 k6 k7 k8 k9 vo he we sr n ((16 * nI p) + n) := by
  obtain ⟨m1, m2, m3, m4, m5, m6, m7⟩ := hM
  have m3 := m3 (by rw [hx1]; decide)
  have m2 : f = 0 := m2.trans (if_neg (by rw [hx1]; decide))
  have h16 : nL g ≤ 16 := hG.2.2.2.2.2.2.2.2.1
  have h6 : nC g ≤ 6 := hG.2.2.1
  have hp0 : 0 < nL g := by omega
  have hln : ln p = nI (nL g) := hL.1
  have ok := lnG_ok hG hN
  obtain ⟨l1, l2, l3, l4⟩ := hL.2 _ _ (lnG_get hN)
  have e16 : ((16 : Int32) * nI p) + n = nI (16 * p + x.2.1) := by rw [m3, show (16 : Int32) = nI 16 from rfl, pk_mul, nI_add]
  have qq : ∀ j : Nat, j < 100 → (nI (lnG g x.2.1).1 = nI j ↔ (lnG g x.2.1).1 = j) := fun j hj => nI_eq (by have := ok.1; omega) (by omega)
  have q0 : nI (lnG g x.2.1).1 = 0 ↔ (lnG g x.2.1).1 = 0 := qq 0 (by decide)
  have q1 : nI (lnG g x.2.1).1 = 1 ↔ (lnG g x.2.1).1 = 1 := qq 1 (by decide)
  have q2 : nI (lnG g x.2.1).1 = 2 ↔ (lnG g x.2.1).1 = 2 := qq 2 (by decide)
  have q3 : nI (lnG g x.2.1).1 = 3 ↔ (lnG g x.2.1).1 = 3 := qq 3 (by decide)
  have q4 : nI (lnG g x.2.1).1 = 4 ↔ (lnG g x.2.1).1 = 4 := qq 4 (by decide)
  have q5 : nI (lnG g x.2.1).1 = 5 ↔ (lnG g x.2.1).1 = 5 := qq 5 (by decide)
  have q6 : nI (lnG g x.2.1).1 = 6 ↔ (lnG g x.2.1).1 = 6 := qq 6 (by decide)
  have qw : nI wy = 2 ↔ wy = 2 := nI_eq (b := 2) (by omega) (by decide)
  have oke1 := ok.2.2.2.1
  have oke2 := ok.2.2.2.2.1
  have okc := ok.2.2.1
  have ok6 := ok.1
  have hnx : nxG g wy x ≤ nL g := nxG_le hN
  have one : FE (lnG g x.2.1).2.2.2.1 x.2.2.2.2.1 (wvG (nL g) wy (w1 wy x)) = oneG g wy x := rfl
  have two : FE (lnG g x.2.1).2.2.2.2 x.2.2.2.2.1 (wvG (nL g) wy (w1 wy x)) = twoG g wy x := rfl
  have wv : ∀ {we' : Nat → Int32}, AGn 16 (w1 wy x) we' → ∀ (v : Int32) (Ψ : Int32 → Prop), Ψ (wvG (nL g) wy (w1 wy x) v) → wl_X8_wornness (nI p) (nI wy) ln we' v Ψ := fun ho v Ψ hΨ => sq8_wornness hp hln hp0 h16 hw ho hΨ
  have fin : ∀ n' e' f' u' b1 b2 b3 b4 b5 b6 b7 b8 b9 vo' he' we' sr', (e' = if nL g ≤ nxG g wy x then 1 else 0) → f' = 0 → (¬ nL g ≤ nxG g wy x → n' = nI (nxG g wy x)) → u' = nI (wrG g wy x).length → AGn (nC g) (ceG g wy x) he' → AGn 16 (woG g wy x) we' → KE9 1001 (wrG g wy x) sr' → Φ n' e' f' u' b1 b2 b3 b4 b5 b6 b7 b8 b9 vo' he' we' sr' := by
    intro n' e' f' u' b1 b2 b3 b4 b5 b6 b7 b8 b9 vo' he' we' sr' h1 h2 h3 h4 h5 h6 h7
    have w2 : nL g ≤ nxG g wy x → (wrk g wy x).1 = 2 := fun z => if_pos z
    have w0 : ¬ nL g ≤ nxG g wy x → (wrk g wy x).1 = 1 := fun z => if_neg z
    refine h _ _ _ _ _ _ _ _ _ _ _ _ _ _ _ _ _ ⟨?_, ?_, ?_, h4, h5, h6, h7⟩
    · rw [h1]
      by_cases z : nL g ≤ nxG g wy x
      · rw [if_pos z, w2 z]; rfl
      · rw [if_neg z, w0 z]; rfl
    · rw [h2]
      by_cases z : nL g ≤ nxG g wy x
      · rw [w2 z]; rfl
      · rw [w0 z]; rfl
    · intro y
      by_cases z : nL g ≤ nxG g wy x
      · exact absurd (w2 z) y
      · exact h3 z
  generalize ha : (lnG g x.2.1).1 = a at *
  have k298 : ∀ n' u' b1 b2 b3 b4 b5 b6 b7 b8 b9 vo' he' we' sr', (a = 6 ∨ n' = nI (nxG g wy x)) → u' = nI (wrG g wy x).length → AGn (nC g) (ceG g wy x) he' → AGn 16 (woG g wy x) we' → KE9 1001 (wrG g wy x) sr' → kl_X8_stepsOn_298 (nI p) (nI wy) ln be ac aC ls tw lf lt cd Φ n' e f u' b1 b2 b3 b4 b5 b6 b7 b8 b9 vo' he' we' sr' (nI a) := by
    intro n' u' b1 b2 b3 b4 b5 b6 b7 b8 b9 vo' he' we' sr' h1 h2 h3 h4 h5
    unfold kl_X8_stepsOn_298
    rw [q6, nI_clamp (n := p) (by omega), hln]
    refine ⟨fun z => fin _ _ _ _ _ _ _ _ _ _ _ _ _ _ _ _ _ ?_ m2 (fun y => ?_) h2 h3 h4 h5, fun z _ => ⟨fun y => fin _ _ _ _ _ _ _ _ _ _ _ _ _ _ _ _ _ ?_ m2 (fun _ => h1.resolve_left z) h2 h3 h4 h5, fun y => fin _ _ _ _ _ _ _ _ _ _ _ _ _ _ _ _ _ ?_ m2 (fun _ => h1.resolve_left z) h2 h3 h4 h5⟩⟩
    · have : nxG g wy x = nL g := by unfold nxG; rw [ha, if_neg (by omega), if_neg (by omega), if_pos z]
      rw [if_pos (by omega)]
    · have : nxG g wy x = nL g := by unfold nxG; rw [ha, if_neg (by omega), if_neg (by omega), if_pos z]
      omega
    · rw [h1.resolve_left z, nI_eq (by omega) (by omega)] at y
      rw [if_neg (by omega)]
    · rw [h1.resolve_left z, nI_eq (by omega) (by omega)] at y
      rw [if_pos (by omega)]
  have k251 : ∀ n' u' b1 b2 b3 b4 b5 b6 b7 b8 b9 vo' he' we' sr' v4 v5, (¬ a = 6 → v4 = oneG g wy x) → (a = 3 ∨ a = 5 → v5 = twoG g wy x) → (a = 6 ∨ n' = nI (nxG g wy x)) → u' = nI (wrG g wy x).length → AGn (nC g) (ceG g wy x) he' → AGn 16 (w1 wy x) we' → KE9 1001 (wrG g wy x) sr' → kl_X8_stepsOn_251 (nI p) (nI wy) ln be ac aC ls tw lf lt cd Φ n' e f u' b1 b2 b3 b4 b5 b6 b7 b8 b9 vo' he' we' sr' (nI a) v4 v5 := by
    intro n' u' b1 b2 b3 b4 b5 b6 b7 b8 b9 vo' he' we' sr' v4 v5 hv4 hv5 h1 h2 h3 h4 h5
    unfold kl_X8_stepsOn_251
    rw [q5, qw]
    have same : ¬ (a = 5 ∧ ¬ twoG g wy x ≤ 0 ∧ ¬ wy = 2) → AGn 16 (woG g wy x) we' := fun z => by unfold woG; rw [ha, if_neg z]; exact h4
    refine ⟨fun z => k298 _ _ _ _ _ _ _ _ _ _ _ _ _ _ _ h1 h2 h3 (same (fun q => z q.1)) h5, fun z => ⟨fun y => k298 _ _ _ _ _ _ _ _ _ _ _ _ _ _ _ h1 h2 h3 (same (fun q => ?_)) h5, fun y => ⟨fun w => k298 _ _ _ _ _ _ _ _ _ _ _ _ _ _ _ h1 h2 h3 (same (fun q => q.2.2 w)) h5, fun w => ?_⟩⟩⟩
    · rw [hv5 (Or.inr z)] at y; exact q.2.1 y
    · have hlt := lnOf_lt (oneG g wy x) hp0
      rw [hv5 (Or.inr z)] at y
      rw [hv4 (by omega), hv5 (Or.inr z)]
      refine sq8_lineOf hp hln hp0 h16 (sq8_lineOf hp hln hp0 h16 (fun _ _ => k298 _ _ _ _ _ _ _ _ _ _ _ _ _ _ _ h1 h2 h3 ?_ h5))
      rw [nI_clamp (n := lnOf (oneG g wy x) (nL g)) (by omega), h4 _ (by omega)]
      unfold woG
      rw [ha, if_pos ⟨z, y, w⟩]
      exact h4.updZ
  have k222 : ∀ n' u' b1 b2 b3 b4 b5 b6 b7 b8 b9 vo' he' we' sr' v4 v5, (¬ a = 6 → v4 = oneG g wy x) → (a = 3 ∨ a = 5 → v5 = twoG g wy x) → (a = 4 ∨ a = 6 ∨ n' = nI (nxG g wy x)) → u' = nI (wrG g wy x).length → (a = 4 → AGn (nC g) x.2.2.2.2.1 he') → (¬ a = 4 → AGn (nC g) (ceG g wy x) he') → AGn 16 (w1 wy x) we' → KE9 1001 (wrG g wy x) sr' → kl_X8_stepsOn_222 (nI p) (nI wy) ln be ac aC ls tw lf lt cd Φ n' e f u' b1 b2 b3 b4 b5 b6 b7 b8 b9 vo' he' we' sr' n (nI (16 * p + x.2.1)) (nI a) v4 v5 := by
    intro n' u' b1 b2 b3 b4 b5 b6 b7 b8 b9 vo' he' we' sr' v4 v5 hv4 hv5 h1 h2 h3 h3' h4 h5
    unfold kl_X8_stepsOn_222
    rw [q4]
    refine ⟨fun z => k251 _ _ _ _ _ _ _ _ _ _ _ _ _ _ _ _ _ hv4 hv5 (h1.resolve_left z) h2 (h3' z) h4 h5, fun z _ _ => ?_⟩
    have t6 := okc (Or.inr z)
    rw [nI_clamp (n := 16 * p + x.2.1) (by omega), l2 (Or.inr z), nI_clamp (n := (lnG g x.2.1).2.2.1) (by omega), hv4 (by omega), m3, nI_1]
    refine sq8_lineOf hp hln hp0 h16 (k251 _ _ _ _ _ _ _ _ _ _ _ _ _ _ _ _ _ (fun _ => rfl) hv5 (Or.inr ?_) h2 ?_ h4 h5)
    · unfold nxG; rw [ha, if_pos (Or.inr z)]
    · unfold ceG; rw [ha, if_neg (by omega), if_pos z]; exact (h3 z).updZ
  have k202 : ∀ n' u' b1 b2 b3 b4 b5 b6 b7 b8 b9 vo' he' we' sr' v4 v5, (¬ a = 6 → v4 = oneG g wy x) → (a = 3 ∨ a = 5 → v5 = twoG g wy x) → (a = 3 → n' = nI (x.2.1 + 1)) → (a = 3 ∨ a = 4 ∨ a = 6 ∨ n' = nI (nxG g wy x)) → u' = nI (wrG g wy x).length → (a = 4 → AGn (nC g) x.2.2.2.2.1 he') → (¬ a = 4 → AGn (nC g) (ceG g wy x) he') → AGn 16 (w1 wy x) we' → KE9 1001 (wrG g wy x) sr' → kl_X8_stepsOn_202 (nI p) (nI wy) ln be ac aC ls tw lf lt cd Φ n' e f u' b1 b2 b3 b4 b5 b6 b7 b8 b9 vo' he' we' sr' n (nI (16 * p + x.2.1)) (nI a) v4 v5 := by
    intro n' u' b1 b2 b3 b4 b5 b6 b7 b8 b9 vo' he' we' sr' v4 v5 hv4 hv5 h0 h1 h2 h3 h3' h4 h5
    unfold kl_X8_stepsOn_202
    rw [q3]
    refine ⟨fun z => k222 _ _ _ _ _ _ _ _ _ _ _ _ _ _ _ _ _ hv4 hv5 (h1.resolve_left z) h2 h3 h3' h4 h5, fun z => ?_⟩
    rw [hv4 (by omega), hv5 (Or.inl z)]
    refine ⟨fun y => k222 _ _ _ _ _ _ _ _ _ _ _ _ _ _ _ _ _ (fun _ => rfl) (fun _ => rfl) (Or.inr (Or.inr ?_)) h2 h3 h3' h4 h5, fun y => sq8_lineOf hp hln hp0 h16 (k222 _ _ _ _ _ _ _ _ _ _ _ _ _ _ _ _ _ (fun _ => rfl) (fun _ => rfl) (Or.inr (Or.inr ?_)) h2 h3 h3' h4 h5)⟩
    · rw [h0 z]; unfold nxG; rw [ha, if_neg (by omega), if_neg (fun q => q.2 y), if_neg (by omega)]
    · unfold nxG; rw [ha, if_neg (by omega), if_pos ⟨z, y⟩]
  have k187 : ∀ u' b1 b2 b3 b4 b5 b6 b7 b8 b9 vo' he' we' sr' v4 v5, (¬ a = 6 → v4 = oneG g wy x) → (a = 3 ∨ a = 5 → v5 = twoG g wy x) → u' = nI (wrG g wy x).length → (a = 4 → AGn (nC g) x.2.2.2.2.1 he') → (¬ a = 4 → AGn (nC g) (ceG g wy x) he') → AGn 16 (w1 wy x) we' → KE9 1001 (wrG g wy x) sr' → kl_X8_stepsOn_187 (nI p) (nI wy) ln be ac aC ls tw lf lt cd Φ (nI (x.2.1 + 1)) e f u' b1 b2 b3 b4 b5 b6 b7 b8 b9 vo' he' we' sr' n (nI (16 * p + x.2.1)) (nI a) v4 v5 := by
    intro u' b1 b2 b3 b4 b5 b6 b7 b8 b9 vo' he' we' sr' v4 v5 hv4 hv5 h2 h3 h3' h4 h5
    unfold kl_X8_stepsOn_187
    rw [q2]
    refine ⟨fun z => k202 _ _ _ _ _ _ _ _ _ _ _ _ _ _ _ _ _ hv4 hv5 (fun _ => rfl) ?_ h2 h3 h3' h4 h5, fun z => ?_⟩
    · by_cases e3 : a = 3
      · exact Or.inl e3
      by_cases e4 : a = 4
      · exact Or.inr (Or.inl e4)
      by_cases e6 : a = 6
      · exact Or.inr (Or.inr (Or.inl e6))
      · refine Or.inr (Or.inr (Or.inr ?_))
        unfold nxG; rw [ha, if_neg (by omega), if_neg (fun q => e3 q.1), if_neg e6]
    · rw [hv4 (by omega)]
      refine sq8_lineOf hp hln hp0 h16 (k202 _ _ _ _ _ _ _ _ _ _ _ _ _ _ _ _ _ (fun _ => rfl) hv5 (fun q => by omega) (Or.inr (Or.inr (Or.inr ?_))) h2 h3 h3' h4 h5)
      unfold nxG; rw [ha, if_pos (Or.inl z)]
  have k151 : ∀ b1 b2 b3 b4 b5 b6 b7 b8 b9 vo' he' we' v4 v5, (¬ a = 6 → v4 = oneG g wy x) → (a = 3 ∨ a = 5 → v5 = twoG g wy x) → (a = 4 → AGn (nC g) x.2.2.2.2.1 he') → (¬ a = 4 → AGn (nC g) (ceG g wy x) he') → AGn 16 (w1 wy x) we' → kl_X8_stepsOn_151 (nI p) (nI wy) ln be ac aC ls tw lf lt cd Φ (nI (x.2.1 + 1)) e f u b1 b2 b3 b4 b5 b6 b7 b8 b9 vo' he' we' sr n (nI (16 * p + x.2.1)) (nI a) v4 v5 := by
    intro b1 b2 b3 b4 b5 b6 b7 b8 b9 vo' he' we' v4 v5 hv4 hv5 h3 h3' h4
    unfold kl_X8_stepsOn_151
    have q1001 : (1001 : Int32) ≤ nI x.2.2.2.2.2.length ↔ 1001 ≤ x.2.2.2.2.2.length := nI_leI (a := 1001) (by decide) (by omega)
    rw [q1, m4, q1001, nI_1, nI_clamp (n := x.2.2.2.2.2.length) (by omega)]
    refine ⟨fun z => k187 _ _ _ _ _ _ _ _ _ _ _ _ _ _ _ _ hv4 hv5 ?_ h3 h3' h4 ?_, fun z => ⟨fun y => k187 _ _ _ _ _ _ _ _ _ _ _ _ _ _ _ _ hv4 hv5 ?_ h3 h3' h4 ?_, fun y _ => k187 _ _ _ _ _ _ _ _ _ _ _ _ _ _ _ _ hv4 hv5 ?_ h3 h3' h4 ?_⟩⟩
    · unfold wrG; rw [ha, if_neg z]
    · unfold wrG; rw [ha, if_neg z]; exact m7
    · unfold wrG; rw [ha, if_pos z, List.length_append]; rfl
    · unfold wrG; rw [ha, if_pos z]; exact m7.full y
    · unfold wrG; rw [ha, if_pos z, List.length_append]; rfl
    · unfold wrG; rw [ha, if_pos z, hv4 (by omega)]; exact m7.push
  have k125 : ∀ b1 b2 b3 b4 b5 b6 b7 b8 b9 vo' we' v4 v5, (¬ a = 6 → v4 = oneG g wy x) → (a = 3 ∨ a = 5 → v5 = twoG g wy x) → AGn 16 (w1 wy x) we' → kl_X8_stepsOn_125 (nI p) (nI wy) ln be ac aC ls tw lf lt cd Φ n e f u b1 b2 b3 b4 b5 b6 b7 b8 b9 vo' he we' sr n (nI (16 * p + x.2.1)) (nI a) v4 v5 := by
    intro b1 b2 b3 b4 b5 b6 b7 b8 b9 vo' we' v4 v5 hv4 hv5 h4
    unfold kl_X8_stepsOn_125
    rw [q0, m3, nI_1, ← m3]
    refine ⟨fun z => k151 _ _ _ _ _ _ _ _ _ _ _ _ _ _ hv4 hv5 (fun _ => m5) (fun y => ?_) h4, fun z _ _ => ?_⟩
    · unfold ceG; rw [ha, if_neg z, if_neg y]; exact m5
    · have t6 := okc (Or.inl z)
      rw [nI_clamp (n := 16 * p + x.2.1) (by omega), l2 (Or.inl z), nI_clamp (n := (lnG g x.2.1).2.2.1) (by omega)]
      refine k151 _ _ _ _ _ _ _ _ _ _ _ _ _ _ hv4 hv5 (fun y => by omega) (fun y => ?_) h4
      unfold ceG; rw [ha, if_pos z, hv4 (by omega)]; exact m5.updZ
  have k103 : ∀ b1 b2 b3 b4 b5 b6 b7 b8 b9 vo' we' v4, (¬ a = 6 → v4 = oneG g wy x) → AGn 16 (w1 wy x) we' → kl_X8_stepsOn_103 (nI p) (nI wy) ln be ac aC ls tw lf lt cd Φ n e f u b1 b2 b3 b4 b5 b6 b7 b8 b9 vo' he we' sr n (nI (16 * p + x.2.1)) (nI a) v4 := by
    intro b1 b2 b3 b4 b5 b6 b7 b8 b9 vo' we' v4 hv4 h4
    unfold kl_X8_stepsOn_103
    rw [q3, q5]
    have wk : a = 3 ∨ a = 5 → wl_X8_works (nI p) (nI wy) ln lf lt cd he we' n 1 b1 b2 b3 b4 b5 b6 b7 b8 b9 vo' (fun r b1 b2 b3 b4 b5 b6 b7 b8 b9 vo' => kl_X8_stepsOn_125 (nI p) (nI wy) ln be ac aC ls tw lf lt cd Φ n e f u b1 b2 b3 b4 b5 b6 b7 b8 b9 vo' he we' sr n (nI (16 * p + x.2.1)) (nI a) v4 r) := by
      intro z
      have := sq8_works (v := 1) (w := nI wy) (we := we') (k1 := b1) (k2 := b2) (k3 := b3) (k4 := b4) (k5 := b5) (k6 := b6) (k7 := b7) (k8 := b8) (k9 := b9) (vo := vo') (Φ := fun r b1 b2 b3 b4 b5 b6 b7 b8 b9 vo' => kl_X8_stepsOn_125 (nI p) (nI wy) ln be ac aC ls tw lf lt cd Φ n e f u b1 b2 b3 b4 b5 b6 b7 b8 b9 vo' he we' sr n (nI (16 * p + x.2.1)) (nI a) v4 r) hG hp (show 2 * x.2.1 + 1 < 32 by omega) (l4 z) (oke2 z) m5 (wv h4) (fun b1 b2 b3 b4 b5 b6 b7 b8 b9 vo' => k125 _ _ _ _ _ _ _ _ _ _ _ _ _ hv4 (fun _ => rfl) h4)
      rw [← m3] at this
      exact this
    refine ⟨fun z => wk (Or.inl z), fun z => ⟨fun y => k125 _ _ _ _ _ _ _ _ _ _ _ _ _ hv4 (fun q => q.elim (fun q => absurd q z) (fun q => absurd q y)) h4, fun y => wk (Or.inr y)⟩⟩
  have k80 : ∀ we', AGn 16 (w1 wy x) we' → kl_X8_stepsOn_80 (nI p) (nI wy) ln be ac aC ls tw lf lt cd Φ n e f u k1 k2 k3 k4 k5 k6 k7 k8 k9 vo he we' sr n (nI (16 * p + x.2.1)) := by
    intro we' h4
    unfold kl_X8_stepsOn_80
    rw [nI_clamp (n := 16 * p + x.2.1) (by omega), l1, q6]
    refine fun _ => ⟨fun z => ?_, fun z => k103 _ _ _ _ _ _ _ _ _ _ _ _ (fun y => absurd z y) h4⟩
    have := sq8_works (v := 0) (w := nI wy) (we := we') (k1 := k1) (k2 := k2) (k3 := k3) (k4 := k4) (k5 := k5) (k6 := k6) (k7 := k7) (k8 := k8) (k9 := k9) (vo := vo) (Φ := fun r b1 b2 b3 b4 b5 b6 b7 b8 b9 vo' => kl_X8_stepsOn_103 (nI p) (nI wy) ln be ac aC ls tw lf lt cd Φ n e f u b1 b2 b3 b4 b5 b6 b7 b8 b9 vo' he we' sr n (nI (16 * p + x.2.1)) (nI a) r) hG hp (show 2 * x.2.1 + 0 < 32 by omega) (l3 z) (oke1 z) m5 (wv h4) (fun b1 b2 b3 b4 b5 b6 b7 b8 b9 vo' => k103 _ _ _ _ _ _ _ _ _ _ _ _ (fun _ => rfl) h4)
    rw [← m3] at this
    exact this
  rw [e16]
  unfold kl_X8_stepsOn_62
  rw [qw]
  refine ⟨fun z => k80 _ ?_, fun z _ _ => k80 _ ?_⟩
  · rw [w1_plain z]; exact m6
  · rw [w1_else z, m3, nI_clamp (n := x.2.1) (by omega), m6 _ (by omega)]
    exact m6.updZ
end RW9
