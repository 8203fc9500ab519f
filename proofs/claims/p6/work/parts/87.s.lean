theorem LW_congr {ta ac lf lt cd ta' ac' lf' lt' cd' : Nat → Int32} {l lo hi hi' : Nat} (h : LW ta ac lf lt cd l lo hi) (h1 : ta' l = ta l) (h2 : ac' l = ac l) (h3 : ∀ w, w < 2 → lf' (2 * l + w) = lf (2 * l + w) ∧ lt' (2 * l + w) = lt (2 * l + w)) (h4 : ∀ j, lo ≤ j → j < hi → cd' j = cd j) (h5 : hi ≤ hi') : LW ta' ac' lf' lt' cd' l lo hi' := by
  refine ⟨fun z => ?_, fun w hw => ?_⟩
  · rw [h1] at z; rw [h2]; exact h.1 z
  · obtain ⟨f, g, L, a1, a2, a3, a4, a5, a6⟩ := h.2 w hw
    exact ⟨f, g, L, by rw [(h3 w hw).1]; exact a1, by rw [(h3 w hw).2]; exact a2, a3, a4, by omega, BR_congr (fun j b1 b2 => h4 j (by omega) (by omega)) a6⟩
/-- a programme of the reference (place p) as its rows hold it; its codes end at cap -/
def GP (p cap : Nat) (st ce ip ln le mo ta ac ls lf lt cd : Nat → Int32) : Prop :=
  (∃ s : Nat, s ≤ 4 ∧ st p = nI s) ∧ (∃ k : Nat, k ≤ 6 ∧ ce p = nI k) ∧ (∃ i : Nat, i ≤ 2 ∧ ip p = nI i ∧ ∀ j, j < i → ∃ a m : Nat, le (2 * p + j) = nI a ∧ mo (2 * p + j) = nI m ∧ a ≤ m ∧ m ≤ 9999) ∧ (∃ l : Nat, l ≤ 16 ∧ ln p = nI l ∧ ∀ j, j < l → (∃ x : Nat, x < 4 ∧ ls (16 * p + j) = nI x) ∧ LW ta ac lf lt cd (16 * p + j) (1000 * p) cap)
def cp (p c : Nat) : Nat := if p = 1 then c else 1000 * p + 1000
theorem cp1 (c : Nat) : cp 1 c = c := if_pos rfl
theorem cpn {p c : Nat} (h : ¬ p = 1) : cp p c = 1000 * p + 1000 := if_neg h
def GA (c : Nat) (st ce ip ln le mo ta ac ls lf lt cd : Nat → Int32) : Prop := ∀ p, p < 6 → GP p (cp p c) st ce ip ln le mo ta ac ls lf lt cd
section GAS
variable {c : Nat} {st ce ip ln le mo ta ac ls lf lt cd : Nat → Int32}
theorem GA.upSt (h : GA c st ce ip ln le mo ta ac ls lf lt cd) {s : Nat} (hs : s ≤ 4) : GA c (upd st 1 (nI s)) ce ip ln le mo ta ac ls lf lt cd := by
  intro p hp
  obtain ⟨h1, h2⟩ := h p hp
  refine ⟨?_, h2⟩
  by_cases e : p = 1
  · exact ⟨s, hs, by rw [e]; exact pk_us⟩
  · obtain ⟨s', a, b⟩ := h1; exact ⟨s', a, by rw [pk_un e]; exact b⟩
theorem GA.upCe (h : GA c st ce ip ln le mo ta ac ls lf lt cd) {s : Nat} (hs : s ≤ 6) : GA c st (upd ce 1 (nI s)) ip ln le mo ta ac ls lf lt cd := by
  intro p hp
  obtain ⟨h0, h1, h2⟩ := h p hp
  refine ⟨h0, ?_, h2⟩
  by_cases e : p = 1
  · exact ⟨s, hs, by rw [e]; exact pk_us⟩
  · obtain ⟨s', a, b⟩ := h1; exact ⟨s', a, by rw [pk_un e]; exact b⟩
theorem GA.upIp {ip' le' mo' : Nat → Int32} {i : Nat} (h : GA c st ce ip ln le mo ta ac ls lf lt cd) (hi : ip 1 = nI i) (hi2 : i ≤ 2) (hf : ∀ j, ¬ j = 2 + i → le' j = le j ∧ mo' j = mo j) (hx : ip' = ip ∨ (i < 2 ∧ ip' = upd ip 1 (nI (i + 1)) ∧ ∃ a m : Nat, le' (2 + i) = nI a ∧ mo' (2 + i) = nI m ∧ a ≤ m ∧ m ≤ 9999)) (hi3 : i < 2 ∨ (le' = le ∧ mo' = mo)) : GA c st ce ip' ln le' mo' ta ac ls lf lt cd := by
  intro p hp
  obtain ⟨h0, h1, ⟨i', a1, a2, a3⟩, h3⟩ := h p hp
  refine ⟨h0, h1, ?_, h3⟩
  have old : ∀ j, j < i' → ∃ a m : Nat, le' (2 * p + j) = nI a ∧ mo' (2 * p + j) = nI m ∧ a ≤ m ∧ m ≤ 9999 := by
    intro j hj
    obtain ⟨a, m, b1, b2, b3⟩ := a3 j hj
    rcases hi3 with hi3 | hi3
    · have hne : ¬ 2 * p + j = 2 + i := by
        intro e
        have ep : p = 1 := by omega
        subst ep
        have : i' = i := (nI_eq (by omega) (by omega)).mp (a2.symm.trans hi)
        omega
      exact ⟨a, m, by rw [(hf _ hne).1]; exact b1, by rw [(hf _ hne).2]; exact b2, b3⟩
    · rw [hi3.1, hi3.2]; exact ⟨a, m, b1, b2, b3⟩
  rcases hx with hx | ⟨hi1, hx, a, m, e1, e2, e3⟩
  · rw [hx]; exact ⟨i', a1, a2, old⟩
  · by_cases ep : p = 1
    · subst ep
      have : i' = i := (nI_eq (by omega) (by omega)).mp (a2.symm.trans hi)
      refine ⟨i + 1, by omega, by rw [hx]; exact pk_us, fun j hj => ?_⟩
      by_cases ej : j = i
      · exact ⟨a, m, by rw [ej]; exact e1, by rw [ej]; exact e2, e3⟩
      · exact old j (by omega)
    · exact ⟨i', a1, by rw [hx, pk_un ep]; exact a2, old⟩
/-- a line is being read -/
theorem GA.frame {c' l : Nat} {ta' ac' ls' lf' lt' cd' : Nat → Int32} (h : GA c st ce ip ln le mo ta ac ls lf lt cd) (hl : ln 1 = nI l) (hl6 : l < 16) (hc : 1000 ≤ c) (hc' : c ≤ c') (h1 : ∀ j, ¬ j = 16 + l → ta' j = ta j ∧ ac' j = ac j) (h2 : ∀ j, ¬ j = 16 + l → ls' j = ls j) (h3 : ∀ j, ¬ j = 2 * (16 + l) → ¬ j = 2 * (16 + l) + 1 → lf' j = lf j ∧ lt' j = lt j) (h4 : ∀ j, j < c ∨ 2000 ≤ j → cd' j = cd j) : GA c' st ce ip ln le mo ta' ac' ls' lf' lt' cd' := by
  intro p hp
  obtain ⟨g0, g1, g2, ⟨k, a1, a2, a3⟩⟩ := h p hp
  refine ⟨g0, g1, g2, k, a1, a2, fun j hj => ?_⟩
  obtain ⟨⟨x, x1, x2⟩, b2⟩ := a3 j hj
  have hne : ¬ 16 * p + j = 16 + l := by
    intro e
    have ep : p = 1 := by omega
    subst ep
    have : k = l := (nI_eq (by omega) (by omega)).mp (a2.symm.trans hl)
    omega
  refine ⟨⟨x, x1, by rw [h2 _ hne]; exact x2⟩, LW_congr b2 (h1 _ hne).1 (h1 _ hne).2 (fun w hw => h3 _ (by omega) (by omega)) (fun i i1 i2 => ?_) ?_⟩
  · by_cases ep : p = 1
    · subst ep; rw [cp1] at i2; exact h4 i (Or.inl i2)
    · rw [cpn ep] at i2
      apply h4
      omega
  · by_cases ep : p = 1
    · subst ep; rw [cp1, cp1]; exact hc'
    · rw [cpn ep, cpn ep]; exact Nat.le_refl _
theorem GA.line {l x : Nat} (h : GA c st ce ip ln le mo ta ac ls lf lt cd) (hl : ln 1 = nI l) (hl6 : l < 16) (hx : x < 4) (hs : ls (16 + l) = nI x) (hw : LW ta ac lf lt cd (16 + l) 1000 c) : GA c st ce ip (upd ln 1 (nI (l + 1))) le mo ta ac ls lf lt cd := by
  intro p hp
  obtain ⟨g0, g1, g2, ⟨k, a1, a2, a3⟩⟩ := h p hp
  refine ⟨g0, g1, g2, ?_⟩
  by_cases ep : p = 1
  · subst ep
    have e : k = l := (nI_eq (by omega) (by omega)).mp (a2.symm.trans hl)
    refine ⟨l + 1, by omega, pk_us, fun j hj => ?_⟩
    by_cases ej : j = l
    · subst ej; rw [cp1]; exact ⟨⟨x, hx, hs⟩, hw⟩
    · exact a3 j (by omega)
  · exact ⟨k, a1, by rw [pk_un ep]; exact a2, a3⟩
end GAS
section RL
variable {t : Nat → Int32} {n b q c s k l : Nat} {T td wr : Int32} {w : Int64} {st ce ip ln le mo ta ac ls tw lf lt cd op cm : Nat → Int32} {sn cn : Nat → Int64}
abbrev PL_ : Type := Int32 → Int32 → Int32 → Int32 → Int64 → Int32 → Int32 → Int32 → (Nat → Int32) → (Nat → Int32) → (Nat → Int32) → (Nat → Int32) → (Nat → Int32) → (Nat → Int32) → (Nat → Int32) → (Nat → Int32) → (Nat → Int32) → (Nat → Int32) → Prop
variable {Φ : PL_}
theorem sp_X8_readsLine (h : RS n b q T td) (hc : 1000 ≤ c) (hc2 : c ≤ 1000 + b) (hG : GA c st ce ip ln le mo ta ac ls lf lt cd) (hs : st 1 = nI s) (hs4 : s ≤ 4) (hk : ce 1 = nI k) (hk6 : k ≤ 6) (hl : ln 1 = nI l) (hl6 : l ≤ 16)
    (hΦ : ∀ r b' q' T' w' td' wr' c' ln' ta' ac' ls' tw' lf' lt' cd' op' cm', RS n b' q' T' td' → b ≤ b' → (r = 0 ∨ r = 1) → (r = 1 → b < b') → 1000 ≤ c' → c' ≤ 1000 + b' → GA c' st ce ip ln' le mo ta' ac' ls' lf' lt' cd' → (∀ p, ¬ p = 1 → ln' p = ln p) → Φ r (nI q') (nI b') T' w' td' wr' (nI c') ln' ta' ac' ls' tw' lf' lt' cd' op' cm') : wp_X8_readsLine (nI n) t st ce sn cn (nI q) (nI b) T w td wr (nI c) ln ta ac ls tw lf lt cd op cm Φ := by
  unfold wp_X8_readsLine
  have z0 : (0 : Int32) = 1 → False := by decide
  refine ⟨fun hne => ?_, fun _ => sp_X8_fails ⟨Or.inl rfl, hΦ 0 b q T w td _ c ln ta ac ls tw lf lt cd op cm h (Nat.le_refl _) (Or.inl rfl) (fun z => (z0 z).elim) hc hc2 hG (fun _ _ => rfl)⟩⟩
  have hl1 : l < 16 := Nat.lt_of_le_of_ne hl6 (fun e => hne (by rw [hl, e]; rfl))
  have hbq := h.2.1
  refine h.next (fun b1 q1 T1 w1 td1 h1 hb1 => ?_)
  refine sp_X8_isKept ⟨fun z => absurd z (by decide), fun _ => sp_X8_fails ⟨Or.inl rfl, hΦ 0 b1 q1 T1 w1 td1 _ c ln ta ac ls tw lf lt cd op cm h1 (by omega) (Or.inl rfl) (fun z => (z0 z).elim) hc (by omega) hG (fun _ _ => rfl)⟩⟩ (fun eT => ⟨fun _ => ?_, fun z => absurd rfl z⟩)
  have hlt := h1.lt (by rw [eT]; decide)
  have e2 : (16 : Int32) + nI l = nI (16 + l) := nI_add 16 l
  have hin : vp_in (nI (16 + l)) 96 := pk_in (16 + l) 96 (by omega)
  have ecl : (nI (16 + l)).toNatClampNeg = 16 + l := nI_clamp (by omega)
  rw [hl, e2]
  refine sp_X8_stuffOf hs hs4 ⟨hin, hin, hin, fun z => ?_, fun _ => ?_⟩ (fun x hx _ => ⟨hin, hin, hin, fun _ => ?_, fun z => ?_⟩)
  · rw [pk_us] at z; exact absurd z (by decide)
  · refine sp_X8_fails ⟨Or.inl rfl, hΦ 0 b1 q1 T1 w1 td1 _ c ln ta ac _ _ lf lt cd op cm h1 (by omega) (Or.inl rfl) (fun z => (z0 z).elim) hc (by omega) ?_ (fun _ _ => rfl)⟩
    rw [ecl]
    exact hG.frame hl hl1 hc (Nat.le_refl _) (fun _ _ => ⟨rfl, rfl⟩) (fun j hj => pk_un hj) (fun _ _ _ => ⟨rfl, rfl⟩) (fun _ _ => rfl)
  · rw [ecl]
    refine h1.next (fun b2 q2 T2 w2 td2 h2 hb2 => ?_)
    refine sp_X8_readsAct h2 (by omega) hk hk6 hc (by omega) (fun r b3 q3 T3 w3 td3 wr3 c3 ta3 ac3 lf3 lt3 cd3 op3 cm3 h3 hb3 hc3 hc3' hta hlf hcd hr hLW => ?_)
    have hG3 : GA c3 st ce ip ln le mo ta3 ac3 (upd ls (16 + l) (nI x)) lf3 lt3 cd3 := hG.frame hl hl1 hc hc3 hta (fun j hj => pk_un hj) hlf hcd
    refine ⟨fun hr1 => ?_, fun _ => hΦ 0 b3 q3 T3 w3 td3 wr3 c3 ln ta3 ac3 _ _ lf3 lt3 cd3 op3 cm3 h3 (by omega) (Or.inl rfl) (fun z => (z0 z).elim) (by omega) hc3' hG3 (fun _ _ => rfl)⟩
    have er : r = 1 := hr.resolve_left hr1
    refine sp_X8_ends h3 (fun r4 b4 q4 T4 w4 td4 wr4 h4 hb4 hr4 _ => ⟨hr4, ?_⟩)
    rw [nI_1]
    refine hΦ r4 b4 q4 T4 w4 td4 wr4 c3 _ ta3 ac3 _ _ lf3 lt3 cd3 op3 cm3 h4 (by omega) hr4 (fun _ => by omega) (by omega) (by omega) (hG3.line hl hl1 (by omega : x < 4) pk_us ?_) (fun p hp => pk_un hp)
    exact LW_congr (hi := c3) (lo := 1000) (by
      obtain ⟨u1, u2⟩ := hLW er
      refine ⟨u1, fun w hw => ?_⟩
      obtain ⟨f, g, L, a1, a2, a3, a4, a5, a6⟩ := u2 w hw
      exact ⟨f, g, L, a1, a2, by omega, a4, a5, a6⟩) rfl rfl (fun _ _ => ⟨rfl, rfl⟩) (fun _ _ _ => rfl) (Nat.le_refl _)
  · rw [pk_us] at z; exact absurd (nI_pos' (by omega)) z
end RL
