theorem sp_X8_keeps {a : Nat} {x xb : Int32} {mk : Nat → Int32} {Φ : Int32 → Int32 → (Nat → Int32) → Prop} (ha : a < 1200) (h0 : xb = 0 → Φ x (nI (a + 1)) (upd mk a x)) (h1 : ¬ xb = 0 → Φ (mk a) (nI (a + 1)) mk) : wp_X8_keeps x xb (nI a) mk Φ := by
  unfold wp_X8_keeps
  rw [nI_1, nI_clamp (by omega)]
  exact ⟨fun e => ⟨pk_in a 1200 ha, h0 e⟩, fun e => ⟨pk_in a 1200 ha, h1 e⟩⟩
theorem sp_X8_keepsRow {n a : Nat} {xb : Int32} {mk r : Nat → Int32} {Φ : Int32 → (Nat → Int32) → (Nat → Int32) → Prop} (hn : n ≤ 200) (ha : a + n ≤ 1200) (hΦ : ∀ mk' r' : Nat → Int32, (∀ j, (j < a ∨ a + n ≤ j) → mk' j = mk j) → Φ (nI (a + n)) mk' r') : wp_X8_keepsRow n (nI n) xb (nI a) mk r Φ := by
  have key : ∀ (m k : Nat) (mk' r' : Nat → Int32), m = n - k → k ≤ n → (∀ j, (j < a ∨ a + n ≤ j) → mk' j = mk j) → lf_X8_keepsRow_3 n (nI n) xb Φ (m + 1) (nI (a + k)) mk' r' (nI k) := by
    intro m
    induction m with
    | zero =>
      intro k mk' r' hm hk hf
      have e : k = n := by omega
      subst e
      exact ⟨fun _ => hΦ _ _ hf, fun z => absurd (nI_le (Nat.le_refl _) (by omega)) z⟩
    | succ m ih =>
      intro k mk' r' hm hk hf
      show lb_X8_keepsRow_3 _ _ _ _ _ _ _ _ _
      unfold lb_X8_keepsRow_3
      rw [nI_1]
      have ik : vp_in (nI k) n := pk_in k n (by omega)
      refine ⟨fun z => absurd z (nI_ge (by omega) (by omega)), fun _ => ⟨ik, sp_X8_keeps (by omega) (fun _ => ⟨ik, ?_⟩) (fun _ => ⟨ik, ?_⟩)⟩⟩
      · refine ih (k + 1) _ _ (by omega) (by omega) (fun j hj => ?_)
        rw [pk_un (by omega)]
        exact hf j hj
      · exact ih (k + 1) _ _ (by omega) (by omega) hf
  exact ⟨n - 0 + 1, key (n - 0) 0 mk r rfl (Nat.zero_le _) (fun _ _ => rfl)⟩
/-- what a laid mark keeps of the hand -/
def MK (il mk ln : Nat → Int32) : Prop := ∀ m, m < 4 → ¬ il m = 0 → ∃ l : Nat, ln (2 + m) = nI l ∧ l ≤ 16 ∧ HS l (mk (300 * m)) (mk (300 * m + 1)) (mk (300 * m + 2)) (mk (300 * m + 3))
abbrev PMk : Type := Int32 → Int32 → Int32 → Int32 → Int32 → Int32 → Int32 → (Nat → Int32) → (Nat → Int32) → (Nat → Int32) → (Nat → Int32) → (Nat → Int32) → (Nat → Int32) → (Nat → Int32) → (Nat → Int32) → (Nat → Int32) → (Nat → Int32) → (Nat → Int32) → (Nat → Int32) → (Nat → Int32) → (Nat → Int32) → (Nat → Int32) → (Nat → Int32) → (Nat → Int32) → (Nat → Int32) → (Nat → Int32) → (Nat → Int32) → (Nat → Int32) → (Nat → Int32) → Prop
section MARK
variable {st ce ip ln be co ca ic le mo ta ac ls tw lf lt cd hc wo hst il mk : Nat → Int32} {sta hn hs hw f0 fa x1 : Int32} {Φ : PMk}
theorem sp_mark59 {m : Nat} (hm : m < 4) (hΦ : ∀ (sta' hn' hs' hw' fa' : Int32) (hc' wo' hst' mk' : Nat → Int32), (x1 = 0 → (sta' = sta ∧ hn' = hn ∧ hs' = hs ∧ hw' = hw) ∧ mk' (300 * m) = sta ∧ mk' (300 * m + 1) = hn ∧ mk' (300 * m + 2) = hs ∧ mk' (300 * m + 3) = hw) → (¬ x1 = 0 → (sta' = mk (300 * m) ∧ hn' = mk (300 * m + 1) ∧ hs' = mk (300 * m + 2) ∧ hw' = mk (300 * m + 3)) ∧ ∀ j, j < 300 * m + 4 → mk' j = mk j) → (∀ j, (j < 300 * m ∨ 300 * m + 226 ≤ j) → mk' j = mk j) → Φ 1 f0 sta' hn' hs' hw' fa' st ce ip ln be co ca ic le mo ta ac ls tw lf lt cd hc' wo' hst' il mk') : kf_X8_mark_59 (nI m) x1 Φ f0 sta hn hs hw fa st ce ip ln be co ca ic le mo ta ac ls tw lf lt cd hc wo hst il mk := by
  unfold kf_X8_mark_59
  rw [show (300 : Int32) * nI m = nI (300 * m) by rw [show (300 : Int32) = nI 300 from rfl, pk_mul]]
  by_cases e : x1 = 0
  · refine sp_X8_keeps (by omega) (fun _ => ?_) (fun z => absurd e z)
    refine sp_X8_keeps (by omega) (fun _ => ?_) (fun z => absurd e z)
    refine sp_X8_keeps (by omega) (fun _ => ?_) (fun z => absurd e z)
    refine sp_X8_keeps (by omega) (fun _ => ?_) (fun z => absurd e z)
    refine sp_X8_keepsRow (n := 6) (by decide) (by omega) (fun m1 r1 h1 => ?_)
    refine sp_X8_keepsRow (n := 16) (by decide) (by omega) (fun m2 r2 h2 => ?_)
    refine sp_X8_keepsRow (n := 200) (by decide) (by omega) (fun m3 r3 h3 => ?_)
    refine hΦ _ _ _ _ _ _ _ _ _ (fun _ => ⟨⟨rfl, rfl, rfl, rfl⟩, ?_, ?_, ?_, ?_⟩) (fun z => absurd e z) (fun j hj => ?_)
    · rw [h3 _ (by omega), h2 _ (by omega), h1 _ (by omega), pk_un (by omega), pk_un (by omega), pk_un (by omega), pk_us]
    · rw [h3 _ (by omega), h2 _ (by omega), h1 _ (by omega), pk_un (by omega), pk_un (by omega), pk_us]
    · rw [h3 _ (by omega), h2 _ (by omega), h1 _ (by omega), pk_un (by omega), pk_us]
    · rw [h3 _ (by omega), h2 _ (by omega), h1 _ (by omega), pk_us]
    · rw [h3 _ (by omega), h2 _ (by omega), h1 _ (by omega), pk_un (by omega), pk_un (by omega), pk_un (by omega), pk_un (by omega)]
  · refine sp_X8_keeps (by omega) (fun z => absurd z e) (fun _ => ?_)
    refine sp_X8_keeps (by omega) (fun z => absurd z e) (fun _ => ?_)
    refine sp_X8_keeps (by omega) (fun z => absurd z e) (fun _ => ?_)
    refine sp_X8_keeps (by omega) (fun z => absurd z e) (fun _ => ?_)
    refine sp_X8_keepsRow (n := 6) (by decide) (by omega) (fun m1 r1 h1 => ?_)
    refine sp_X8_keepsRow (n := 16) (by decide) (by omega) (fun m2 r2 h2 => ?_)
    refine sp_X8_keepsRow (n := 200) (by decide) (by omega) (fun m3 r3 h3 => ?_)
    exact hΦ _ _ _ _ _ _ _ _ _ (fun z => absurd z e) (fun _ => ⟨⟨rfl, rfl, rfl, rfl⟩, fun j hj => by rw [h3 _ (by omega), h2 _ (by omega), h1 _ (by omega)]⟩) (fun j hj => by rw [h3 _ (by omega), h2 _ (by omega), h1 _ (by omega)])
theorem sp_X8_mark {l : Nat} {x0 : Int32} (h : GM st ce ip ln le mo ta ac ls lf lt cd) (hl : ln 0 = nI l) (hl6 : l ≤ 16) (hH : HS l sta hn hs hw) (hM : MK il mk ln)
    (h0 : (x0 < 0 ∨ 3 < x0 ∨ (¬ x1 = 0 ∧ il x0.toNatClampNeg = 0)) → Φ 0 0 sta hn hs hw fa st ce ip ln be co ca ic le mo ta ac ls tw lf lt cd hc wo hst il mk)
    (h1 : ∀ (m l' : Nat) (sta' hn' hs' hw' fa' : Int32) (st' ce' ip' ln' be' co' ca' ic' le' mo' ta' ac' ls' tw' lf' lt' cd' hc' wo' hst' mk' : Nat → Int32), m < 4 → x0 = nI m → (x1 = 0 ∨ ¬ il m = 0) → GM st' ce' ip' ln' le' mo' ta' ac' ls' lf' lt' cd' → ln' 0 = nI l' → l' ≤ 16 → HS l' sta' hn' hs' hw' → MK (upd il m (vp_nar .boolean 1)) mk' ln' → (CO co → CO co') → Φ 1 0 sta' hn' hs' hw' fa' st' ce' ip' ln' be' co' ca' ic' le' mo' ta' ac' ls' tw' lf' lt' cd' hc' wo' hst' (upd il m (vp_nar .boolean 1)) mk') : wp_X8_mark x0 x1 f0 sta hn hs hw fa st ce ip ln be co ca ic le mo ta ac ls tw lf lt cd hc wo hst il mk Φ := by
  unfold wp_X8_mark
  refine sp_X8_within (fun a b => ⟨fun z => absurd z (by decide), fun _ => ?_⟩) (fun z => ⟨fun _ => h0 (z.elim Or.inl (fun y => Or.inr (Or.inl y))), fun z => absurd rfl z⟩)
  obtain ⟨m, hm, rfl⟩ := nI_of a
  have m4 : m < 4 := Nat.lt_of_not_le (fun z => b (nI_lt (a := 3) (by omega) hm))
  have im : vp_in (nI m) 4 := pk_in m 4 m4
  have ecl : (nI m).toNatClampNeg = m := nI_clamp (by omega)
  rw [ecl] at h0
  rw [ecl]
  have e2 : (2 : Int32) + nI m = nI (2 + m) := by rw [show (2 : Int32) = nI 2 from rfl, nI_add]
  have go : (x1 = 0 ∨ ¬ il m = 0) → kf_X8_mark_29 (nI m) x1 Φ 0 sta hn hs hw fa st ce ip ln be co ca ic le mo ta ac ls tw lf lt cd hc wo hst il mk := by
    intro hor
    unfold kf_X8_mark_29
    rw [e2, nI_clamp (n := m) (by omega)]
    refine ⟨im, fun e => ?_, fun e => ?_⟩
    · refine sp_X8_lays (f := 0) (g := 2 + m) (cap := 1000 * 0 + 1000) (by decide) (by omega) (by omega) (Nat.le_refl _) (h 0 (by decide) (by decide)) (fun st' ce' ip' ln' be' co' ca' ic' le' mo' ta' ac' ls' tw' lf' lt' cd' hg hk hq hn0 hco => ?_)
      have hGM : GM st' ce' ip' ln' le' mo' ta' ac' ls' lf' lt' cd' := fun p hp hp1 => by
        by_cases ep : p = 2 + m
        · subst ep; exact hg
        · exact hk p _ hp ep (Nat.le_refl _) (h p hp hp1)
      refine sp_mark59 m4 (fun sta' hn' hs' hw' fa' hc' wo' hst' mk' c0 _ cf => ?_)
      obtain ⟨⟨rfl, rfl, rfl, rfl⟩, d0, d1, d2, d3⟩ := c0 e
      refine h1 m l _ _ _ _ _ _ _ _ _ _ _ _ _ _ _ _ _ _ _ _ _ _ _ _ _ _ m4 rfl hor hGM ((hn0 0 (by omega) (by decide)).trans hl) hl6 hH (fun q hq4 hil => ?_) hco
      by_cases eq : q = m
      · subst eq
        exact ⟨l, hq.2.2.2.trans hl, hl6, by rw [d0, d1, d2, d3]; exact hH⟩
      · rw [pk_un (by omega)] at hil
        obtain ⟨y, y1, y2, y3⟩ := hM q hq4 hil
        exact ⟨y, (hn0 (2 + q) (by omega) (by omega)).trans y1, y2, by rw [cf _ (by omega), cf _ (by omega), cf _ (by omega), cf _ (by omega)]; exact y3⟩
    · have him : ¬ il m = 0 := hor.resolve_left e
      obtain ⟨lm, g1, g2, g3⟩ := hM m m4 him
      refine sp_X8_lays (f := 2 + m) (g := 0) (cap := 1000 * (2 + m) + 1000) (by omega) (by decide) (by omega) (Nat.le_refl _) (h (2 + m) (by omega) (by omega)) (fun st' ce' ip' ln' be' co' ca' ic' le' mo' ta' ac' ls' tw' lf' lt' cd' hg hk hq hn0 hco => ?_)
      have hGM : GM st' ce' ip' ln' le' mo' ta' ac' ls' lf' lt' cd' := fun p hp hp1 => by
        by_cases ep : p = 0
        · subst ep; exact hg
        · exact hk p _ hp ep (Nat.le_refl _) (h p hp hp1)
      refine sp_mark59 m4 (fun sta' hn' hs' hw' fa' hc' wo' hst' mk' _ c1 cf => ?_)
      obtain ⟨⟨rfl, rfl, rfl, rfl⟩, d⟩ := c1 e
      refine h1 m lm _ _ _ _ _ _ _ _ _ _ _ _ _ _ _ _ _ _ _ _ _ _ _ _ _ _ m4 rfl hor hGM (hq.2.2.2.trans g1) g2 g3 (fun q hq4 hil => ?_) hco
      have hil' : ¬ il q = 0 := by
        by_cases eq : q = m
        · subst eq; exact him
        · rw [pk_un (by omega)] at hil; exact hil
      obtain ⟨y, y1, y2, y3⟩ := hM q hq4 hil'
      refine ⟨y, (hn0 (2 + q) (by omega) (by omega)).trans y1, y2, ?_⟩
      by_cases eq : q = m
      · subst eq
        rw [d _ (by omega), d _ (by omega), d _ (by omega), d _ (by omega)]; exact y3
      · rw [cf _ (by omega), cf _ (by omega), cf _ (by omega), cf _ (by omega)]; exact y3
  exact ⟨fun e => go (Or.inl e), fun e => ⟨im, fun z => go (Or.inr z), fun z => h0 (Or.inr (Or.inr ⟨e, z⟩))⟩⟩
end MARK
