/-- the reference's programmes, but for the one that is being read -/
def GM (st ce ip ln le mo ta ac ls lf lt cd : Nat → Int32) : Prop := ∀ p, p < 6 → ¬ p = 1 → GP p (1000 * p + 1000) st ce ip ln le mo ta ac ls lf lt cd
theorem GA.gm {c : Nat} {st ce ip ln le mo ta ac ls lf lt cd : Nat → Int32} (h : GA c st ce ip ln le mo ta ac ls lf lt cd) : GM st ce ip ln le mo ta ac ls lf lt cd := by
  intro p hp h1
  have := h p hp
  rw [cpn h1] at this
  exact this
theorem GM.start {st ce ip ln le mo ta ac ls lf lt cd : Nat → Int32} (h : GM st ce ip ln le mo ta ac ls lf lt cd) : GA 1000 (upd st 1 0) (upd ce 1 0) (upd ip 1 0) (upd ln 1 0) le mo ta ac ls lf lt cd := by
  intro p hp
  by_cases e : p = 1
  · subst e
    exact ⟨⟨0, by decide, pk_us⟩, ⟨0, by decide, pk_us⟩, ⟨0, by decide, pk_us, fun j hj => absurd hj (Nat.not_lt_zero _)⟩, ⟨0, by decide, pk_us, fun j hj => absurd hj (Nat.not_lt_zero _)⟩⟩
  · rw [cpn e]
    obtain ⟨⟨s, a1, a2⟩, ⟨k, b1, b2⟩, ⟨i, c1, c2, c3⟩, ⟨l, d1, d2, d3⟩⟩ := h p hp e
    exact ⟨⟨s, a1, by rw [pk_un e]; exact a2⟩, ⟨k, b1, by rw [pk_un e]; exact b2⟩, ⟨i, c1, by rw [pk_un e]; exact c2, c3⟩, ⟨l, d1, by rw [pk_un e]; exact d2, d3⟩⟩
abbrev PR : Type := Int32 → Int32 → Int32 → Int32 → Int32 → Int32 → Int64 → Int32 → Int32 → Int32 → (Nat → Int32) → (Nat → Int32) → (Nat → Int32) → (Nat → Int32) → (Nat → Int64) → (Nat → Int64) → (Nat → Int32) → (Nat → Int32) → (Nat → Int32) → (Nat → Int32) → (Nat → Int32) → (Nat → Int32) → (Nat → Int32) → (Nat → Int32) → (Nat → Int32) → (Nat → Int32) → (Nat → Int32) → (Nat → Int32) → (Nat → Int32) → (Nat → Int32) → (Nat → Int32) → Prop
section RAL
variable {t : Nat → Int32} {n : Nat} {Φ : PR}
theorem sp_X8_readsAll {F1 F2 F3 F4 : Int32} {F5 : Int64} {F6 F7 F8 : Int32} {st ce ip ln be co ca ic le mo ta ac ls tw lf lt cd op cm : Nat → Int32} {sn cn : Nat → Int64} (hn : n ≤ 1000) (hG : GM st ce ip ln le mo ta ac ls lf lt cd)
    (hΦ : ∀ r q' b' T' w' td' wr' (c' : Nat) st' ce' ip' ln' sn' cn' be' co' ca' ic' le' mo' ta' ac' ls' tw' lf' lt' cd' op' cm', (r = 0 ∨ r = 1) → c' ≤ 2000 → GA c' st' ce' ip' ln' le' mo' ta' ac' ls' lf' lt' cd' → (∀ p, ¬ p = 1 → ln' p = ln p) → (CO co → CO co') → Φ r 0 (nI n) q' b' T' w' td' wr' (nI c') st' ce' ip' ln' sn' cn' be' co' ca' ic' le' mo' ta' ac' ls' tw' lf' lt' cd' op' cm') : wp_X8_readsAll t (nI n) F1 F2 F3 F4 F5 F6 F7 F8 st ce ip ln sn cn be co ca ic le mo ta ac ls tw lf lt cd op cm Φ := by
  unfold wp_X8_readsAll
  obtain ⟨ln0, hl0⟩ : ∃ x, ln = x := ⟨ln, rfl⟩
  rw [hl0] at hΦ
  obtain ⟨co0, hco0⟩ : ∃ x, co = x := ⟨co, rfl⟩
  rw [hco0] at hΦ
  have key : ∀ (m b q : Nat) (T : Int32) (w : Int64) (td wr : Int32) (c : Nat) (st ce ip ln : Nat → Int32) (sn cn : Nat → Int64) (be co ca ic le mo ta ac ls tw lf lt cd op cm : Nat → Int32), RS n b q T td → 1000 ≤ c → c ≤ 1000 + b → GA c st ce ip ln le mo ta ac ls lf lt cd → (∀ p, ¬ p = 1 → ln p = ln0 p) → (CO co0 → CO co) → n - b < m → lf_X8_readsAll_57 t Φ m 0 (nI n) (nI q) (nI b) T w td wr (nI c) st ce ip ln sn cn be co ca ic le mo ta ac ls tw lf lt cd op cm := by
    intro m
    induction m with
    | zero => intro b q T w td wr c st ce ip ln sn cn be co ca ic le mo ta ac ls tw lf lt cd op cm _ _ _ _ _ _ h; exact absurd h (Nat.not_lt_zero _)
    | succ m ih =>
      intro b q T w td wr c st ce ip ln sn cn be co ca ic le mo ta ac ls tw lf lt cd op cm h hc hc2 hG hln hco hm
      show lb_X8_readsAll_57 _ _ _ _ _ _ _ _ _ _ _ _ _ _ _ _ _ _ _ _ _ _ _ _ _ _ _ _ _ _ _ _ _
      unfold lb_X8_readsAll_57
      have hqn := h.2.2.1
      have hbq := h.2.1
      refine ⟨fun _ => hΦ 1 _ _ _ _ _ _ c st ce ip ln sn cn be co ca ic le mo ta ac ls tw lf lt cd op cm (Or.inr rfl) (by omega) hG hln hco, fun hT => ?_⟩
      have hlt := h.lt hT
      have hg1 := hG 1 (by decide)
      obtain ⟨⟨s, s4, hs⟩, ⟨k, k6, hk⟩, ⟨i, i2, hi, -⟩, ⟨l, l6, hl, -⟩⟩ := hg1
      refine sp_X8_isWord (fun _ _ => ⟨fun z => absurd z (by decide), fun _ => ?_⟩) (fun _ => ⟨fun _ => ?_, fun z => absurd rfl z⟩)
      · refine sp_X8_readsStuff h hs s4 hk k6 (fun r b' q' T' w' td' wr' st' sn' be' co' hR hb hr hr1 hx hcx => ?_)
        have hG' : GA c st' ce ip ln le mo ta ac ls lf lt cd := by
          rcases hx with hx | ⟨s', e1, e2⟩
          · rw [hx]; exact hG
          · rw [e2]; exact hG.upSt e1
        have := hR.2.2.1
        have := hR.2.1
        refine ⟨fun hr0 => ?_, fun _ => hΦ 0 _ _ _ _ _ _ c st' ce ip ln sn' cn be' co' ca ic le mo ta ac ls tw lf lt cd op cm (Or.inl rfl) (by omega) hG' hln (fun z => hcx (hco z))⟩
        have := hr1 (hr.resolve_left hr0)
        exact ih b' q' T' w' td' wr' c st' ce ip ln sn' cn be' co' ca ic le mo ta ac ls tw lf lt cd op cm hR hc (by omega) hG' hln (fun z => hcx (hco z)) (by omega)
      refine sp_X8_isWord (fun _ _ => ⟨fun z => absurd z (by decide), fun _ => ?_⟩) (fun _ => ⟨fun _ => ?_, fun z => absurd rfl z⟩)
      · refine sp_X8_readsCell h hs s4 hk k6 (fun r b' q' T' w' td' wr' ce' cn' ca' hR hb hr hr1 hx => ?_)
        have hG' : GA c st ce' ip ln le mo ta ac ls lf lt cd := by
          rcases hx with hx | ⟨s', e1, e2⟩
          · rw [hx]; exact hG
          · rw [e2]; exact hG.upCe e1
        have := hR.2.2.1
        have := hR.2.1
        refine ⟨fun hr0 => ?_, fun _ => hΦ 0 _ _ _ _ _ _ c st ce' ip ln sn cn' be co ca' ic le mo ta ac ls tw lf lt cd op cm (Or.inl rfl) (by omega) hG' hln hco⟩
        have := hr1 (hr.resolve_left hr0)
        exact ih b' q' T' w' td' wr' c st ce' ip ln sn cn' be co ca' ic le mo ta ac ls tw lf lt cd op cm hR hc (by omega) hG' hln hco (by omega)
      refine sp_X8_isWord (fun _ _ => ⟨fun z => absurd z (by decide), fun _ => ?_⟩) (fun _ => ⟨fun _ => ?_, fun z => absurd rfl z⟩)
      · refine sp_X8_readsInput h hi i2 hk k6 (fun r b' q' T' w' td' wr' ip' ic' le' mo' hR hb hr hr1 hf hx hi3 => ?_)
        have hG' : GA c st ce ip' ln le' mo' ta ac ls lf lt cd := hG.upIp hi i2 hf hx hi3
        have := hR.2.2.1
        have := hR.2.1
        refine ⟨fun hr0 => ?_, fun _ => hΦ 0 _ _ _ _ _ _ c st ce ip' ln sn cn be co ca ic' le' mo' ta ac ls tw lf lt cd op cm (Or.inl rfl) (by omega) hG' hln hco⟩
        have := hr1 (hr.resolve_left hr0)
        exact ih b' q' T' w' td' wr' c st ce ip' ln sn cn be co ca ic' le' mo' ta ac ls tw lf lt cd op cm hR hc (by omega) hG' hln hco (by omega)
      refine sp_X8_isWord (fun _ _ => ⟨fun z => absurd z (by decide), fun _ => ?_⟩) (fun _ => ⟨fun _ => ?_, fun z => absurd rfl z⟩)
      · refine sp_X8_readsLine h hc hc2 hG hs s4 hk k6 hl l6 (fun r b' q' T' w' td' wr' c' ln' ta' ac' ls' tw' lf' lt' cd' op' cm' hR hb hr hr1 hc' hc2' hG' hln' => ?_)
        have := hR.2.2.1
        have := hR.2.1
        refine ⟨fun hr0 => ?_, fun _ => hΦ 0 _ _ _ _ _ _ c' st ce ip ln' sn cn be co ca ic le mo ta' ac' ls' tw' lf' lt' cd' op' cm' (Or.inl rfl) (by omega) hG' (fun p hp => by rw [hln' p hp, hln p hp]) hco⟩
        have := hr1 (hr.resolve_left hr0)
        exact ih b' q' T' w' td' wr' c' st ce ip ln' sn cn be co ca ic le mo ta' ac' ls' tw' lf' lt' cd' op' cm' hR hc' hc2' hG' (fun p hp => by rw [hln' p hp, hln p hp]) hco (by omega)
      · exact sp_X8_fails ⟨fun z => absurd rfl z, fun _ => hΦ 0 _ _ _ _ _ _ c st ce ip ln sn cn be co ca ic le mo ta ac ls tw lf lt cd op cm (Or.inl rfl) (by omega) hG hln hco⟩
  refine sp_X8_nextToken (p := 0) hn (Nat.zero_le _) (fun b q tk w td hN => ⟨n - b + 1, ?_⟩)
  refine key (n - b + 1) b q tk w td _ 1000 _ _ _ _ _ _ _ _ _ _ _ _ _ _ _ _ _ _ _ _ _ ⟨hn, hN.2.1, hN.2.2.1, ?_, hN.2.2.2.2⟩ (Nat.le_refl _) (by omega) hG.start (fun p hp => by rw [pk_un hp, hl0]) (fun z => by rw [hco0]; exact z) (Nat.lt_succ_self _)
  rcases hN.2.2.2.1 with e | e
  · exact Or.inl e
  · exact Or.inr ⟨e.1, by rcases e.2 with e | e | e | e <;> rw [e] <;> decide⟩
end RAL
