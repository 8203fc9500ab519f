section RI
variable {t : Nat → Int32} {n b q i k : Nat} {T td wr : Int32} {w : Int64} {ce ip ic le mo : Nat → Int32} {cn : Nat → Int64}
abbrev PI : Type := Int32 → Int32 → Int32 → Int32 → Int64 → Int32 → Int32 → (Nat → Int32) → (Nat → Int32) → (Nat → Int32) → (Nat → Int32) → Prop
variable {Φ : PI}
theorem sp_rI201 {s0 s1 : Int32} (h : RS n b q T td) (hi : ip 1 = nI i) (h0 : ∀ wr', Φ 0 (nI q) (nI b) T w td wr' ip ic le mo) (h1 : ∀ r b' q' T' w' td' wr', RS n b' q' T' td' → q ≤ b' → (r = 0 ∨ r = 1) → Φ r (nI q') (nI b') T' w' td' wr' (upd ip 1 (nI (i + 1))) ic le mo) : kf_X8_readsInput_201 (nI n) t ce cn Φ (nI q) (nI b) T w td wr ip ic le mo s0 s1 := by
  unfold kf_X8_readsInput_201
  refine ⟨fun _ => h.next (fun b1 q1 T1 w1 td1 h1' hb1 => sp_X8_ends h1' (fun r b2 q2 T2 w2 td2 wr2 h2 hb2 hr _ => ⟨hr, ?_⟩)), fun _ => sp_X8_fails ⟨Or.inl rfl, h0 _⟩⟩
  rw [hi, nI_1]
  exact h1 r b2 q2 T2 w2 td2 wr2 h2 (by omega) hr
theorem sp_rI98 (h : RS n b q T td) (hi : ip 1 = nI i) (hi2 : i < 2)
    (hΦ : ∀ r b' q' T' w' td' wr' ip' le' mo', RS n b' q' T' td' → q ≤ b' → (r = 0 ∨ r = 1) → (∀ j, ¬ j = 2 + i → le' j = le j ∧ mo' j = mo j) → (ip' = ip ∨ (ip' = upd ip 1 (nI (i + 1)) ∧ ∃ a m : Nat, le' (2 + i) = nI a ∧ mo' (2 + i) = nI m ∧ a ≤ m ∧ m ≤ 9999)) → Φ r (nI q') (nI b') T' w' td' wr' ip' ic le' mo') : kf_X8_readsInput_98 (nI n) t ce cn Φ (nI q) (nI b) T w td wr ip ic le mo (nI (2 + i)) := by
  unfold kf_X8_readsInput_98
  refine h.next (fun b1 q1 T1 w1 td1 h1 hb1 => ?_)
  refine sp_X8_needsNumber (fun wr' => ⟨fun z => absurd rfl z, fun _ => hΦ 0 b1 q1 T1 w1 td1 wr' ip le mo h1 hb1 (Or.inl rfl) (fun _ _ => ⟨rfl, rfl⟩) (Or.inl rfl)⟩) (fun _ _ _ => ⟨fun _ => ?_, fun z => absurd z (by decide)⟩)
  have := h1.2.1
  have hin : vp_in (nI (2 + i)) 12 := pk_in (2 + i) 12 (by omega)
  rw [nI_clamp (by omega)]
  refine ⟨hin, h1.next (fun b2 q2 T2 w2 td2 h2 hb2 => ⟨hin, ?_⟩)⟩
  have hle : ∀ j, ¬ j = 2 + i → upd le (2 + i) td1 j = le j := fun j hj => pk_un hj
  rw [pk_us]
  refine sp_X8_needsNumber (fun wr' => ⟨fun z => absurd rfl z, fun _ => hΦ 0 b2 q2 T2 w2 td2 wr' ip _ mo h2 (by omega) (Or.inl rfl) (fun j hj => ⟨hle j hj, rfl⟩) (Or.inl rfl)⟩) (fun _ hlo _ => ⟨fun _ => ⟨hin, hin, ?_⟩, fun z => absurd z (by decide)⟩)
  obtain ⟨a, ha, rfl⟩ := h1.2.2.2.2
  obtain ⟨m, hm, rfl⟩ := h2.2.2.2.2
  have ham : a ≤ m := Nat.le_of_not_lt (fun z => hlo (nI_lt z (by omega)))
  have := h2.2.1
  have fr : ∀ j, ¬ j = 2 + i → upd le (2 + i) (nI a) j = le j ∧ upd mo (2 + i) (nI m) j = mo j := fun j hj => ⟨pk_un hj, pk_un hj⟩
  have fin : ∀ s0 s1 : Int32, kf_X8_readsInput_201 (nI n) t ce cn Φ (nI q2) (nI b2) T2 w2 (nI m) wr ip ic (upd le (2 + i) (nI a)) (upd mo (2 + i) (nI m)) s0 s1 := fun s0 s1 =>
    sp_rI201 h2 hi (fun wr' => hΦ 0 b2 q2 T2 w2 _ wr' ip _ _ h2 (by omega) (Or.inl rfl) fr (Or.inl rfl)) (fun r b' q' T' w' td' wr' hR hq hr => hΦ r b' q' T' w' td' wr' _ _ _ hR (by omega) hr fr (Or.inr ⟨rfl, a, m, pk_us, pk_us, ham, hm⟩))
  exact ⟨fun _ => fin _ _, fun _ => fin _ _⟩
theorem sp_X8_readsInput (h : RS n b q T td) (hi : ip 1 = nI i) (hi2 : i ≤ 2) (hk : ce 1 = nI k) (hk6 : k ≤ 6)
    (hΦ : ∀ r b' q' T' w' td' wr' ip' ic' le' mo', RS n b' q' T' td' → b ≤ b' → (r = 0 ∨ r = 1) → (r = 1 → b < b') → (∀ j, ¬ j = 2 + i → le' j = le j ∧ mo' j = mo j) → (ip' = ip ∨ (i < 2 ∧ ip' = upd ip 1 (nI (i + 1)) ∧ ∃ a m : Nat, le' (2 + i) = nI a ∧ mo' (2 + i) = nI m ∧ a ≤ m ∧ m ≤ 9999)) → (i < 2 ∨ (le' = le ∧ mo' = mo)) → Φ r (nI q') (nI b') T' w' td' wr' ip' ic' le' mo') : wp_X8_readsInput (nI n) t ce cn (nI q) (nI b) T w td wr ip ic le mo Φ := by
  unfold wp_X8_readsInput
  have z0 : (0 : Int32) = 1 → False := by decide
  refine ⟨fun hne => ?_, fun _ => sp_X8_fails ⟨Or.inl rfl, hΦ 0 b q T w td _ ip ic le mo h (Nat.le_refl _) (Or.inl rfl) (fun z => (z0 z).elim) (fun _ _ => ⟨rfl, rfl⟩) (Or.inl rfl) (Or.inr ⟨rfl, rfl⟩)⟩⟩
  have hi1 : i < 2 := Nat.lt_of_le_of_ne hi2 (fun e => hne (by rw [hi, e]; rfl))
  have hbq := h.2.1
  refine h.next (fun b1 q1 T1 w1 td1 h1 hb1 => ?_)
  have fl : ∀ (wr' : Int32) (ic' : Nat → Int32), Φ 0 (nI q1) (nI b1) T1 w1 td1 wr' ip ic' le mo := fun wr' ic' => hΦ 0 b1 q1 T1 w1 td1 wr' ip ic' le mo h1 (by omega) (Or.inl rfl) (fun z => (z0 z).elim) (fun _ _ => ⟨rfl, rfl⟩) (Or.inl rfl) (Or.inl hi1)
  refine sp_X8_isKept ⟨fun z => absurd z (by decide), fun _ => sp_X8_fails ⟨Or.inl rfl, fl _ _⟩⟩ (fun eT => ⟨fun _ => ?_, fun z => absurd rfl z⟩)
  have hlt := h1.lt (by rw [eT]; decide)
  have e2 : (2 : Int32) + nI i = nI (2 + i) := nI_add 2 i
  have hin : vp_in (nI (2 + i)) 12 := pk_in (2 + i) 12 (by omega)
  have all : ∀ r : Int32, vp_in (2 + ip 1) 12 ∧ vp_in (2 + ip 1) 12 ∧ (0 ≤ (upd ic (2 + ip 1).toNatClampNeg r) (2 + ip 1).toNatClampNeg → (¬ ip 1 = 1 → kf_X8_readsInput_98 (nI n) t ce cn Φ (nI q1) (nI b1) T1 w1 td1 wr ip (upd ic (2 + ip 1).toNatClampNeg r) le mo (2 + ip 1)) ∧ (ip 1 = 1 → vp_in (2 + ip 1) 12 ∧ (¬ (upd ic (2 + ip 1).toNatClampNeg r) 2 = (upd ic (2 + ip 1).toNatClampNeg r) (2 + ip 1).toNatClampNeg → kf_X8_readsInput_98 (nI n) t ce cn Φ (nI q1) (nI b1) T1 w1 td1 wr ip (upd ic (2 + ip 1).toNatClampNeg r) le mo (2 + ip 1)) ∧ ((upd ic (2 + ip 1).toNatClampNeg r) 2 = (upd ic (2 + ip 1).toNatClampNeg r) (2 + ip 1).toNatClampNeg → wp_X8_fails (nI b1) 3 wr (fun r_70 Fwrong_69 => (r_70 = 0 ∨ r_70 = 1) ∧ Φ r_70 (nI q1) (nI b1) T1 w1 td1 Fwrong_69 ip (upd ic (2 + ip 1).toNatClampNeg r) le mo)))) ∧ (¬ 0 ≤ (upd ic (2 + ip 1).toNatClampNeg r) (2 + ip 1).toNatClampNeg → wp_X8_fails (nI b1) 2 wr (fun r_74 Fwrong_73 => (r_74 = 0 ∨ r_74 = 1) ∧ Φ r_74 (nI q1) (nI b1) T1 w1 td1 Fwrong_73 ip (upd ic (2 + ip 1).toNatClampNeg r) le mo)) := by
    intro r
    rw [hi, e2]
    have g98 : kf_X8_readsInput_98 (nI n) t ce cn Φ (nI q1) (nI b1) T1 w1 td1 wr ip (upd ic (nI (2 + i)).toNatClampNeg r) le mo (nI (2 + i)) :=
      sp_rI98 h1 hi hi1 (fun r b' q' T' w' td' wr' ip' le' mo' hR hq hr hf hx => hΦ r b' q' T' w' td' wr' ip' _ le' mo' hR (by omega) hr (fun _ => by omega) hf (hx.imp id (fun e => ⟨hi1, e⟩)) (Or.inl hi1))
    exact ⟨hin, hin, fun _ => ⟨fun _ => g98, fun _ => ⟨hin, fun _ => g98, fun _ => sp_X8_fails ⟨Or.inl rfl, fl _ _⟩⟩⟩, fun _ => sp_X8_fails ⟨Or.inl rfl, fl _ _⟩⟩
  exact sp_X8_cellOf hk hk6 (all _) (fun j _ _ => all _)
end RI
theorem sp_X8_needsCell {t : Nat → Int32} {n b q l k : Nat} {T td wr : Int32} {w : Int64} {ce ac : Nat → Int32} {cn : Nat → Int64} {Φ : Int32 → Int32 → Int32 → Int32 → Int64 → Int32 → Int32 → (Nat → Int32) → Prop} (h : RS n b q T td) (hl : l < 96) (hk : ce 1 = nI k) (hk6 : k ≤ 6)
    (hΦ : ∀ r b' q' T' w' td' wr' ac', RS n b' q' T' td' → b ≤ b' → (r = 0 ∨ r = 1) → (∀ j, ¬ j = l → ac' j = ac j) → (r = 1 → ∃ y : Nat, y < 6 ∧ ac' l = nI y) → Φ r (nI q') (nI b') T' w' td' wr' ac') : wp_X8_needsCell (nI n) t ce cn (nI l) (nI q) (nI b) T w td wr ac Φ := by
  unfold wp_X8_needsCell
  have z0 : (0 : Int32) = 1 → False := by decide
  refine sp_X8_isKept ⟨fun z => absurd z (by decide), fun _ => sp_X8_fails ⟨Or.inl rfl, hΦ 0 b q T w td _ ac h (Nat.le_refl _) (Or.inl rfl) (fun _ _ => rfl) (fun z => (z0 z).elim)⟩⟩ (fun _ => ⟨fun _ => ?_, fun z => absurd rfl z⟩)
  have hin : vp_in (nI l) 96 := pk_in l 96 hl
  have := h.2.1
  rw [nI_clamp (by omega)]
  refine sp_X8_cellOf hk hk6 ⟨hin, hin, fun z => ?_, fun _ => ?_⟩ (fun j hj _ => ⟨hin, hin, fun _ => h.next (fun b' q' T' w' td' hR hq => ?_), fun z => ?_⟩)
  · rw [pk_us] at z; exact absurd z (by decide)
  · exact sp_X8_fails ⟨Or.inl rfl, hΦ 0 b q T w td _ _ h (Nat.le_refl _) (Or.inl rfl) (fun j hj => pk_un hj) (fun z => (z0 z).elim)⟩
  · exact hΦ 1 b' q' T' w' td' wr _ hR (by omega) (Or.inr rfl) (fun j hj => pk_un hj) (fun _ => ⟨j, by omega, pk_us⟩)
  · rw [pk_us] at z; exact absurd (nI_pos' (by omega)) z
theorem sp_X8_actAt {T : Int32} {w : Int64} {Φ : Int32 → Prop} (hn : Φ (-1)) (ha : ∀ a : Nat, a ≤ 6 → T = 1 → Φ (nI a)) : wp_X8_actAt T w Φ := by
  unfold wp_X8_actAt
  refine sp_X8_isWord (fun e _ => ⟨fun z => absurd z (by decide), fun _ => ha 0 (by decide) e⟩) (fun _ => ⟨fun _ => ?_, fun z => absurd rfl z⟩)
  refine sp_X8_isWord (fun e _ => ⟨fun z => absurd z (by decide), fun _ => ha 1 (by decide) e⟩) (fun _ => ⟨fun _ => ?_, fun z => absurd rfl z⟩)
  refine sp_X8_isWord (fun e _ => ⟨fun z => absurd z (by decide), fun _ => ha 2 (by decide) e⟩) (fun _ => ⟨fun _ => ?_, fun z => absurd rfl z⟩)
  refine sp_X8_isWord (fun e _ => ⟨fun z => absurd z (by decide), fun _ => ha 3 (by decide) e⟩) (fun _ => ⟨fun _ => ?_, fun z => absurd rfl z⟩)
  refine sp_X8_isWord (fun e _ => ⟨fun z => absurd z (by decide), fun _ => ha 4 (by decide) e⟩) (fun _ => ⟨fun _ => ?_, fun z => absurd rfl z⟩)
  refine sp_X8_isWord (fun e _ => ⟨fun z => absurd z (by decide), fun _ => ha 5 (by decide) e⟩) (fun _ => ⟨fun _ => ?_, fun z => absurd rfl z⟩)
  exact sp_X8_isWord (fun e _ => ⟨fun z => absurd z (by decide), fun _ => ha 6 (by decide) e⟩) (fun _ => ⟨fun _ => hn, fun z => absurd rfl z⟩)
