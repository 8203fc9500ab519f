def RH (n b : Nat) (Φ : Int32 → Int32 → Int32 → Int32 → Int64 → Int32 → Int32 → Prop) : Prop := ∀ r b' q' T' w' td' wr', RS n b' q' T' td' → b ≤ b' → (r = 0 ∨ r = 1) → (r = 1 → b < b') → Φ r (nI q') (nI b') T' w' td' wr'
theorem sp_X8_ends {t : Nat → Int32} {n b q : Nat} {T td wr : Int32} {w : Int64} {Φ : Int32 → Int32 → Int32 → Int32 → Int64 → Int32 → Int32 → Prop} (h : RS n b q T td) (hΦ : RH n b Φ) : wp_X8_ends (nI n) t (nI q) (nI b) T w td wr Φ := by
  unfold wp_X8_ends
  refine sp_X8_isSign h.sgn (fun e _ => ⟨fun _ => h.next (fun b' q' T' w' td' hR hq => ?_), fun z => absurd z (by decide)⟩) (fun _ => ⟨fun z => absurd rfl z, fun _ => sp_X8_fails ⟨Or.inl rfl, ?_⟩⟩)
  · have := h.lt (by rw [e]; decide)
    exact hΦ 1 b' q' T' w' td' wr hR (by omega) (Or.inr rfl) (fun _ => by omega)
  · exact hΦ 0 b q T w td _ h (Nat.le_refl _) (Or.inl rfl) (fun z => absurd z (by decide))
theorem sp_X8_needsWord {t : Nat → Int32} {n b q : Nat} {T td wr : Int32} {w x : Int64} {Φ : Int32 → Int32 → Int32 → Int32 → Int64 → Int32 → Int32 → Prop} (h : RS n b q T td) (hΦ : RH n b Φ) : wp_X8_needsWord (nI n) t x (nI q) (nI b) T w td wr Φ := by
  unfold wp_X8_needsWord
  refine sp_X8_isWord (fun e _ => ⟨fun _ => h.next (fun b' q' T' w' td' hR hq => ?_), fun z => absurd z (by decide)⟩) (fun _ => ⟨fun z => absurd rfl z, fun _ => sp_X8_fails ⟨Or.inl rfl, ?_⟩⟩)
  · have := h.lt (by rw [e]; decide)
    exact hΦ 1 b' q' T' w' td' wr hR (by omega) (Or.inr rfl) (fun _ => by omega)
  · exact hΦ 0 b q T w td _ h (Nat.le_refl _) (Or.inl rfl) (fun z => absurd z (by decide))
theorem sp_X8_needsNumber {B T td lo hi wr : Int32} {Φ : Int32 → Int32 → Prop} (h0 : ∀ wr', Φ 0 wr') (h1 : T = 2 → ¬ td < lo → ¬ hi < td → Φ 1 wr) : wp_X8_needsNumber B T td lo hi wr Φ := by
  unfold wp_X8_needsNumber
  refine ⟨fun e => sp_X8_within (fun a c => ⟨fun _ => h1 e a c, fun z => absurd z (by decide)⟩) (fun _ => ⟨fun z => absurd rfl z, fun _ => sp_X8_fails ⟨fun _ => h0 _, fun z => absurd rfl z⟩⟩), fun _ => sp_X8_fails ⟨Or.inl rfl, h0 _⟩⟩
theorem sp_X8_needsNew {B T wr : Int32} {w : Int64} {st ce : Nat → Int32} {sn cn : Nat → Int64} {s k : Nat} {Φ : Int32 → Int32 → Prop} (hs : st 1 = nI s) (hs4 : s ≤ 4) (hk : ce 1 = nI k) (hk6 : k ≤ 6) (h0 : ∀ wr', Φ 0 wr') (h1 : T = 1 → Φ 1 wr) : wp_X8_needsNew B T w st ce sn cn wr Φ := by
  unfold wp_X8_needsNew
  have f3 : wp_X8_fails B 3 wr (fun r_9 Fwrong_8 => (r_9 = 0 → Φ 0 Fwrong_8) ∧ (¬ r_9 = 0 → Φ 1 Fwrong_8)) := sp_X8_fails ⟨fun _ => h0 _, fun z => absurd rfl z⟩
  refine sp_X8_isKept ⟨fun z => absurd z (by decide), fun _ => sp_X8_fails ⟨Or.inl rfl, h0 _⟩⟩ (fun e1 => ⟨fun _ => sp_X8_stuffOf hs hs4 ⟨fun z => absurd z (by decide), fun _ => ?_⟩ (fun j hj _ => ⟨fun _ => f3, fun z => absurd (nI_pos' (by omega)) z⟩), fun z => absurd rfl z⟩)
  exact sp_X8_cellOf hk hk6 ⟨fun _ => h1 e1, fun z => absurd (by decide) z⟩ (fun j hj _ => ⟨fun z => absurd z (nI_pos (by omega)), fun _ => f3⟩)
/-- every cost kept is one that may be told -/
def CO (co : Nat → Int32) : Prop := ∀ j, ∃ c : Nat, c ≤ 999 ∧ co j = nI c
theorem CO_upd {co : Nat → Int32} {i : Nat} {v : Int32} (h : CO co) (h0 : ¬ v < 0) (h9 : ¬ 999 < v) : CO (upd co i v) := by
  intro j
  by_cases e : j = i
  · subst e
    obtain ⟨c, hc, rfl⟩ := nI_of h0
    exact ⟨c, Nat.le_of_not_lt (fun z => h9 (nI_lt (a := 999) z hc)), pk_us⟩
  · obtain ⟨c, hc, ec⟩ := h j
    exact ⟨c, hc, by rw [pk_un e]; exact ec⟩
theorem sp_X8_readsStuff {t : Nat → Int32} {n b q s k : Nat} {T td wr : Int32} {w : Int64} {st ce be co : Nat → Int32} {sn cn : Nat → Int64} {Φ : Int32 → Int32 → Int32 → Int32 → Int64 → Int32 → Int32 → (Nat → Int32) → (Nat → Int64) → (Nat → Int32) → (Nat → Int32) → Prop} (h : RS n b q T td) (hs : st 1 = nI s) (hs4 : s ≤ 4) (hk : ce 1 = nI k) (hk6 : k ≤ 6)
    (hΦ : ∀ r b' q' T' w' td' wr' st' sn' be' co', RS n b' q' T' td' → b ≤ b' → (r = 0 ∨ r = 1) → (r = 1 → b < b') → (st' = st ∨ ∃ s', s' ≤ 4 ∧ st' = upd st 1 (nI s')) → (CO co → CO co') → Φ r (nI q') (nI b') T' w' td' wr' st' sn' be' co') : wp_X8_readsStuff (nI n) t ce cn (nI q) (nI b) T w td wr st sn be co Φ := by
  unfold wp_X8_readsStuff
  refine ⟨fun hne => ?_, fun _ => sp_X8_fails ⟨Or.inl rfl, hΦ 0 b q T w td _ st sn be co h (Nat.le_refl _) (Or.inl rfl) (fun z => absurd z (by decide)) (Or.inl rfl) id⟩⟩
  have hs3 : s < 4 := Nat.lt_of_le_of_ne hs4 (fun e => hne (by rw [hs, e]; rfl))
  have z0 : (0 : Int32) = 1 → False := by decide
  refine h.next (fun b1 q1 T1 w1 td1 h1 hb1 => ?_)
  have hbq := h.2.1
  refine sp_X8_needsNew hs hs4 hk hk6 (fun wr' => ⟨fun z => absurd rfl z, fun _ => hΦ 0 b1 q1 T1 w1 td1 wr' _ _ _ _ h1 (by omega) (Or.inl rfl) (fun z => (z0 z).elim) (Or.inl rfl) id⟩) (fun eT => ⟨fun _ => ?_, fun z => absurd z (by decide)⟩)
  have hlt1 := h1.lt (by rw [eT]; decide)
  rw [hs]
  refine ⟨pk_in s 4 hs3, h1.next (fun b2 q2 T2 w2 td2 h2 hb2 => ?_)⟩
  refine sp_X8_needsWord h2 (fun r b3 q3 T3 w3 td3 wr3 h3 hb3 hr _ => ⟨fun _ => hΦ 0 b3 q3 T3 w3 td3 wr3 _ _ _ _ h3 (by omega) (Or.inl rfl) (fun z => (z0 z).elim) (Or.inl rfl) id, fun _ => ?_⟩)
  refine sp_X8_needsNumber (fun wr' => ⟨fun z => absurd rfl z, fun _ => hΦ 0 b3 q3 T3 w3 td3 wr' _ _ _ _ h3 (by omega) (Or.inl rfl) (fun z => (z0 z).elim) (Or.inl rfl) id⟩) (fun _ _ _ => ⟨fun _ => ?_, fun z => absurd z (by decide)⟩)
  have e4 : (4 : Int32) + nI s = nI (4 + s) := nI_add 4 s
  rw [e4]
  refine ⟨pk_in (4 + s) 24 (by omega), h3.next (fun b4 q4 T4 w4 td4 h4 hb4 => ?_)⟩
  have := h3.2.1
  refine sp_X8_needsWord h4 (fun r b5 q5 T5 w5 td5 wr5 h5 hb5 hr _ => ⟨fun _ => hΦ 0 b5 q5 T5 w5 td5 wr5 _ _ _ _ h5 (by omega) (Or.inl rfl) (fun z => (z0 z).elim) (Or.inl rfl) id, fun _ => ?_⟩)
  refine sp_X8_needsNumber (fun wr' => ⟨fun z => absurd rfl z, fun _ => hΦ 0 b5 q5 T5 w5 td5 wr' _ _ _ _ h5 (by omega) (Or.inl rfl) (fun z => (z0 z).elim) (Or.inl rfl) id⟩) (fun _ c0 c9 => ⟨fun _ => ?_, fun z => absurd z (by decide)⟩)
  refine ⟨pk_in (4 + s) 24 (by omega), h5.next (fun b6 q6 T6 w6 td6 h6 hb6 => ?_)⟩
  have := h5.2.1
  refine sp_X8_ends h6 (fun r b7 q7 T7 w7 td7 wr7 h7 hb7 hr _ => ⟨hr, hΦ r b7 q7 T7 w7 td7 wr7 _ _ _ _ h7 (by omega) hr (fun _ => by omega) (Or.inr ⟨s + 1, by omega, by rw [nI_1]⟩) (fun hC => CO_upd hC c0 c9)⟩)
theorem sp_X8_readsCell {t : Nat → Int32} {n b q s k : Nat} {T td wr : Int32} {w : Int64} {st ce ca : Nat → Int32} {sn cn : Nat → Int64} {Φ : Int32 → Int32 → Int32 → Int32 → Int64 → Int32 → Int32 → (Nat → Int32) → (Nat → Int64) → (Nat → Int32) → Prop} (h : RS n b q T td) (hs : st 1 = nI s) (hs4 : s ≤ 4) (hk : ce 1 = nI k) (hk6 : k ≤ 6)
    (hΦ : ∀ r b' q' T' w' td' wr' ce' cn' ca', RS n b' q' T' td' → b ≤ b' → (r = 0 ∨ r = 1) → (r = 1 → b < b') → (ce' = ce ∨ ∃ k', k' ≤ 6 ∧ ce' = upd ce 1 (nI k')) → Φ r (nI q') (nI b') T' w' td' wr' ce' cn' ca') : wp_X8_readsCell (nI n) t st sn (nI q) (nI b) T w td wr ce cn ca Φ := by
  unfold wp_X8_readsCell
  refine ⟨fun hne => ?_, fun _ => sp_X8_fails ⟨Or.inl rfl, hΦ 0 b q T w td _ ce cn ca h (Nat.le_refl _) (Or.inl rfl) (fun z => absurd z (by decide)) (Or.inl rfl)⟩⟩
  have hk5 : k < 6 := Nat.lt_of_le_of_ne hk6 (fun e => hne (by rw [hk, e]; rfl))
  have z0 : (0 : Int32) = 1 → False := by decide
  refine h.next (fun b1 q1 T1 w1 td1 h1 hb1 => ?_)
  have hbq := h.2.1
  refine sp_X8_needsNew hs hs4 hk hk6 (fun wr' => ⟨fun z => absurd rfl z, fun _ => hΦ 0 b1 q1 T1 w1 td1 wr' _ _ _ h1 (by omega) (Or.inl rfl) (fun z => (z0 z).elim) (Or.inl rfl)⟩) (fun eT => ⟨fun _ => ?_, fun z => absurd z (by decide)⟩)
  have hlt1 := h1.lt (by rw [eT]; decide)
  rw [hk]
  refine ⟨pk_in k 6 hk5, h1.next (fun b2 q2 T2 w2 td2 h2 hb2 => ?_)⟩
  refine sp_X8_needsNumber (fun wr' => ⟨fun z => absurd rfl z, fun _ => hΦ 0 b2 q2 T2 w2 td2 wr' _ _ _ h2 (by omega) (Or.inl rfl) (fun z => (z0 z).elim) (Or.inl rfl)⟩) (fun _ _ _ => ⟨fun _ => ?_, fun z => absurd z (by decide)⟩)
  have e4 : (6 : Int32) + nI k = nI (6 + k) := nI_add 6 k
  rw [e4]
  have := h2.2.1
  refine ⟨pk_in (6 + k) 36 (by omega), h2.next (fun b6 q6 T6 w6 td6 h6 hb6 => ?_)⟩
  refine sp_X8_ends h6 (fun r b7 q7 T7 w7 td7 wr7 h7 hb7 hr _ => ⟨hr, hΦ r b7 q7 T7 w7 td7 wr7 _ _ _ h7 (by omega) hr (fun _ => by omega) (Or.inr ⟨k + 1, by omega, by rw [nI_1]⟩)⟩)
