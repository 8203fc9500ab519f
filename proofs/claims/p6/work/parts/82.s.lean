theorem bst_opnd {v : Nat} (h : v < 20 ∨ 100 ≤ v) (hv : v < 20000) (l : List Bool) : bst (nI v) l = some (popN l) := by
  have ne : ∀ k : Nat, 20 ≤ k → k < 100 → ¬ nI v = nI k := fun k h1 h2 e => by
    have := (nI_eq (by omega) (by omega)).mp e
    omega
  have n20 : ¬ nI v = 20 := ne 20 (by omega) (by omega)
  have n21 : ¬ nI v = 21 := ne 21 (by omega) (by omega)
  have n22 : ¬ nI v = 22 := ne 22 (by omega) (by omega)
  have n24 : ¬ nI v = 24 := ne 24 (by omega) (by omega)
  have n25 : ¬ nI v = 25 := ne 25 (by omega) (by omega)
  have n26 : ¬ nI v = 26 := ne 26 (by omega) (by omega)
  have n27 : ¬ nI v = 27 := ne 27 (by omega) (by omega)
  have n28 : ¬ nI v = 28 := ne 28 (by omega) (by omega)
  have n29 : ¬ nI v = 29 := ne 29 (by omega) (by omega)
  have n30 : ¬ nI v = 30 := ne 30 (by omega) (by omega)
  have n31 : ¬ nI v = 31 := ne 31 (by omega) (by omega)
  unfold bst
  rw [if_neg (by simp [n30, n31]), if_neg n28, if_neg n29, if_neg (by simp [n20, n21, n22, n24, n25, n26, n27])]
theorem bst_op {v : Int32} (h : v = 20 ∨ v = 21 ∨ v = 22 ∨ v = 24 ∨ v = 25 ∨ v = 26 ∨ v = 27) (l : List Bool) : bst v l = some l ∧ ¬ v < 0 := by
  rcases h with rfl | rfl | rfl | rfl | rfl | rfl | rfl <;> exact ⟨rfl, by decide⟩
abbrev KE : Type := Int32 → Int32 → Int32 → Int64 → Int32 → Int32 → Int32 → (Nat → Int32) → (Nat → Int32) → (Nat → Int32) → (Nat → Int32) → (Nat → Int32) → Int32 → Int32 → Prop
abbrev PE : Type := Int32 → Int32 → Int32 → Int32 → Int64 → Int32 → Int32 → Int32 → (Nat → Int32) → (Nat → Int32) → (Nat → Int32) → (Nat → Int32) → (Nat → Int32) → Prop
def EI (n b0 c0 : Nat) (cd0 : Nat → Int32) (b q : Nat) (T td : Int32) (c x : Nat) (cd op : Nat → Int32) (L : List Bool) (wn : Int32) : Prop :=
  RS n b q T td ∧ (1000 ≤ c0 ∧ b0 ≤ b) ∧ c0 ≤ c ∧ c ≤ 1000 + b + x ∧ L.length ≤ 5 ∧ OP op L ∧ BR cd c0 (c - c0) [] L ∧ (∀ j, j < c0 ∨ 2000 ≤ j → cd j = cd0 j) ∧ (wn = 0 → L = [] ∨ ∃ m, L = false :: m)
def KH (n b0 c0 : Nat) (cd0 lf lt : Nat → Int32) (b : Nat) (κ : KE) : Prop := ∀ b' q' T' w' td' wr' c' cd' op' cm' L' wn', EI n b0 c0 cd0 b' q' T' td' c' 0 cd' op' L' wn' → b < b' → κ (nI q') (nI b') T' w' td' wr' (nI c') lf lt cd' op' cm' (nI L'.length) wn'
def FH (n b0 c0 : Nat) (cd0 lf lt : Nat → Int32) (Φ : PE) : Prop := ∀ b' q' T' w' td' wr' c' cd' op' cm', RS n b' q' T' td' → b0 ≤ b' → c0 ≤ c' → c' ≤ 1000 + b' → (∀ j, j < c0 ∨ 2000 ≤ j → cd' j = cd0 j) → Φ 0 (nI q') (nI b') T' w' td' wr' (nI c') lf lt cd' op' cm'
def SH (n b0 c0 li : Nat) (cd0 lf lt : Nat → Int32) (Φ : PE) : Prop := ∀ b' q' T' w' td' wr' c' cd' op' cm', RS n b' q' T' td' → b0 ≤ b' → c0 ≤ c' → c' ≤ 1000 + b' → (∀ j, j < c0 ∨ 2000 ≤ j → cd' j = cd0 j) → (∃ L, BR cd' c0 (c' - c0) [] L) → Φ 1 (nI q') (nI b') T' w' td' wr' (nI c') lf (upd lt li (nI c')) cd' op' cm'
section RE
variable {t : Nat → Int32} {n b0 c0 li : Nat} {cs cd0 lf lt : Nat → Int32} {nm : Nat → Int64} {κ : KE} {Φ : PE} {b q c : Nat} {T td wr : Int32} {w : Int64} {cd op cm : Nat → Int32} {L : List Bool}
theorem ei_next {wn : Int32} (h : EI n b0 c0 cd0 b q T td c 1 cd op L wn) (hT : ¬ T = 0) (hK : KH n b0 c0 cd0 lf lt b κ) : wp_X8_nextToken (nI n) t (nI q) (nI b) T w td (fun q' b' T' w' td' => κ q' b' T' w' td' wr (nI c) lf lt cd op cm (nI L.length) wn) := by
  obtain ⟨h1, h2, h3, h4, h5, h6, h7, h8, h9⟩ := h
  have hb := h1.lt hT
  exact h1.next (fun b' q' T' w' td' hR hq => hK b' q' T' w' td' wr c cd op cm L wn ⟨hR, ⟨h2.1, by have := h2.2; omega⟩, h3, by omega, h5, h6, h7, h8, h9⟩ (by omega))
/-- a code is put -/
theorem ei_put {wn wn' : Int32} {v : Int32} {x : List Bool} (h : EI n b0 c0 cd0 b q T td c 0 cd op L wn) (hT : ¬ T = 0) (h1 : bst v L = some x) (h2 : x.length ≤ 5) (h3 : ¬ v < 0) (h4 : OP op x) (h5 : wn' = 0 → x = [] ∨ ∃ m, x = false :: m) : EI n b0 c0 cd0 b q T td (c + 1) 1 (upd cd c v) op x wn' ∧ c < 6000 := by
  obtain ⟨a1, a2, a3, a4, a5, a6, a7, a8, a9⟩ := h
  have hb := a1.lt hT
  refine ⟨⟨a1, a2, by omega, by omega, h2, h4, ?_, fun j hj => ?_, h5⟩, by omega⟩
  · have := BR_upd a7 h1 h2 h3
    rw [show c0 + (c - c0) = c by omega] at this
    rw [show c + 1 - c0 = c - c0 + 1 by omega]
    exact this
  · rw [pk_un (by omega)]; exact a8 j hj
theorem ei_keep {wn wn' : Int32} {v : Int32} (h : EI n b0 c0 cd0 b q T td c 0 cd op L wn) (hT : ¬ T = 0) (hv : v = 20 ∨ v = 21 ∨ v = 22 ∨ v = 24 ∨ v = 25 ∨ v = 26 ∨ v = 27) (hw : wn' = 1) : EI n b0 c0 cd0 b q T td (c + 1) 1 (upd cd c v) op L wn' ∧ c < 6000 :=
  ei_put h hT (bst_op hv L).1 h.2.2.2.2.1 (bst_op hv L).2 h.2.2.2.2.2.1 (fun e => by rw [hw] at e; exact absurd e (by decide))
theorem sp_rE279 {wn : Int32} (h : EI n b0 c0 cd0 b q T td c 0 cd op L wn) (hT : ¬ T = 0) (hK : KH n b0 c0 cd0 lf lt b κ) : kf_X8_readsE_279 (nI n) t cs nm (nI li) κ Φ (nI q) (nI b) T w td wr (nI c) lf lt cd op cm (nI L.length) := by
  unfold kf_X8_readsE_279
  have go : ∀ v : Int32, (v = 20 ∨ v = 21 ∨ v = 22 ∨ v = 24 ∨ v = 25 ∨ v = 26 ∨ v = 27) → wp_X8_puts v (nI c) cd (fun c' cd' => wp_X8_nextToken (nI n) t (nI q) (nI b) T w td (fun q' b' T' w' td' => κ q' b' T' w' td' wr c' lf lt cd' op cm (nI L.length) 1)) := by
    intro v hv
    have e := ei_keep (wn' := 1) h hT hv rfl
    exact sp_X8_puts e.2 (ei_next e.1 hT hK)
  refine sp_X8_isSign h.1.sgn (fun _ _ => ⟨fun e => absurd e (by decide), fun _ => go 20 (by simp)⟩) (fun _ => ⟨fun _ => ?_, fun e => absurd rfl e⟩)
  exact sp_X8_isSign h.1.sgn (fun _ _ => ⟨fun e => absurd e (by decide), fun _ => go 21 (by simp)⟩) (fun _ => ⟨fun _ => go 22 (by simp), fun e => absurd rfl e⟩)
theorem sp_rE415 {wn s0 : Int32} (h : EI n b0 c0 cd0 b q T td c 0 cd op L wn) (hT : ¬ T = 0) (hK : KH n b0 c0 cd0 lf lt b κ) (hs : s0 = 26 ∨ s0 = 27) : kf_X8_readsE_415 (nI n) t cs nm (nI li) κ Φ (nI q) (nI b) T w td wr (nI c) lf lt cd op cm (nI L.length) s0 := by
  unfold kf_X8_readsE_415
  have e := ei_keep (wn' := 1) (v := s0) h hT (by rcases hs with e | e <;> simp [e]) rfl
  have hl := h.2.2.2.2.1
  exact sp_X8_puts e.2 ⟨pk_in L.length 7 (by omega), ei_next e.1 hT hK⟩
theorem sp_rE362 {wn s0 : Int32} (h : EI n b0 c0 cd0 b q T td c 0 cd op L wn) (hT : ¬ T = 0) (hK : KH n b0 c0 cd0 lf lt b κ) (hs : s0 = 24 ∨ s0 = 25) : kf_X8_readsE_362 (nI n) t cs nm (nI li) κ Φ (nI q) (nI b) T w td wr (nI c) lf lt cd op cm (nI L.length) s0 := by
  unfold kf_X8_readsE_362
  have e := ei_keep (wn' := 1) (v := s0) h hT (by rcases hs with e | e <;> simp [e]) rfl
  have hl := h.2.2.2.2.1
  exact sp_X8_puts e.2 ⟨pk_in L.length 7 (by omega), ei_next e.1 hT hK⟩
theorem sp_rE397 {wn : Int32} (h : EI n b0 c0 cd0 b q T td c 0 cd op L wn) (hT : ¬ T = 0) (hK : KH n b0 c0 cd0 lf lt b κ) : kf_X8_readsE_397 (nI n) t cs nm (nI li) κ Φ (nI q) (nI b) T w td wr (nI c) lf lt cd op cm (nI L.length) := by
  unfold kf_X8_readsE_397
  exact sp_X8_isWord (fun _ _ => ⟨fun e => absurd e (by decide), fun _ => sp_rE415 h hT hK (Or.inl rfl)⟩) (fun _ => ⟨fun _ => sp_rE415 h hT hK (Or.inr rfl), fun e => absurd rfl e⟩)
theorem sp_rE472 {wn : Int32} (h : EI n b0 c0 cd0 b q T td c 0 cd op L wn) (hl : li < 192) (hF : FH n b0 c0 cd0 lf lt Φ) (hS : SH n b0 c0 li cd0 lf lt Φ) : kf_X8_readsE_472 (nI n) t cs nm (nI li) Φ (nI q) (nI b) T w td wr (nI c) lf lt cd op cm (nI L.length) := by
  unfold kf_X8_readsE_472
  obtain ⟨a1, a2, a3, a4, a5, a6, a7, a8, a9⟩ := h
  refine ⟨fun _ => ⟨pk_in li 192 hl, ?_⟩, fun _ => sp_X8_fails ⟨Or.inl rfl, hF b q T w td _ c cd op cm a1 a2.2 a3 (by omega) a8⟩⟩
  rw [nI_clamp (by omega)]
  exact hS b q T w td wr c cd op cm a1 a2.2 a3 (by omega) a8 ⟨L, a7⟩
theorem sp_rE229 (hT : ¬ T = 0) (hK : KH n b0 c0 cd0 lf lt b κ) : ∀ (M : List Bool), M.length ≤ 5 → OP op M → EI n b0 c0 cd0 b q T td c 1 cd op (popN M) 0 → ∃ k, lf_X8_readsE_229 (nI n) t cs nm (nI li) κ Φ k (nI q) (nI b) T w td wr (nI c) lf lt cd op cm (nI M.length) 0 := by
  intro M
  induction M with
  | nil =>
    intro _ _ h
    refine ⟨1, ?_⟩
    show lb_X8_readsE_229 _ _ _ _ _ _ _ _ _ _ _ _ _ _ _ _ _ _ _ _ _ _
    unfold lb_X8_readsE_229
    exact ⟨fun _ => ei_next h hT hK, fun e => absurd (by decide) e⟩
  | cons x M ih =>
    intro hl hO h
    have hlen : (x :: M).length = M.length + 1 := rfl
    simp only [List.length_cons] at hl
    cases x with
    | true =>
      obtain ⟨k, hk⟩ := ih (by omega) hO.2 h
      refine ⟨k + 1, ?_⟩
      show lb_X8_readsE_229 _ _ _ _ _ _ _ _ _ _ _ _ _ _ _ _ _ _ _ _ _ _
      unfold lb_X8_readsE_229
      rw [hlen]
      refine ⟨fun e => absurd e (nI_nle (by omega) (by omega)), fun _ => ⟨pk_in (M.length + 1) 7 (by omega), fun e => ?_, fun _ => ?_⟩⟩
      · rw [nI_clamp (by omega)] at e
        exact absurd hO.1 e
      · rw [pk_m1]; exact hk
    | false =>
      refine ⟨1, ?_⟩
      show lb_X8_readsE_229 _ _ _ _ _ _ _ _ _ _ _ _ _ _ _ _ _ _ _ _ _ _
      unfold lb_X8_readsE_229
      rw [hlen]
      refine ⟨fun e => absurd e (nI_nle (by omega) (by omega)), fun _ => ⟨pk_in (M.length + 1) 7 (by omega), fun _ => ei_next (L := false :: M) h hT hK, fun e => ?_⟩⟩
      rw [nI_clamp (by omega), hO.1] at e
      exact absurd e (by decide)
theorem sp_rE452 (hT : ¬ T = 0) (hK : KH n b0 c0 cd0 lf lt b κ) : ∀ (M : List Bool), M.length ≤ 5 → OP op M → EI n b0 c0 cd0 b q T td c 1 cd op (popN M) 0 → ∃ k, lf_X8_readsE_452 (nI n) t cs nm (nI li) κ Φ k (nI q) (nI b) T w td wr (nI c) lf lt cd op cm (nI M.length) 0 := by
  intro M
  induction M with
  | nil =>
    intro _ _ h
    refine ⟨1, ?_⟩
    show lb_X8_readsE_452 _ _ _ _ _ _ _ _ _ _ _ _ _ _ _ _ _ _ _ _ _ _
    unfold lb_X8_readsE_452
    exact ⟨fun _ => ei_next h hT hK, fun e => absurd (by decide) e⟩
  | cons x M ih =>
    intro hl hO h
    have hlen : (x :: M).length = M.length + 1 := rfl
    simp only [List.length_cons] at hl
    cases x with
    | true =>
      obtain ⟨k, hk⟩ := ih (by omega) hO.2 h
      refine ⟨k + 1, ?_⟩
      show lb_X8_readsE_452 _ _ _ _ _ _ _ _ _ _ _ _ _ _ _ _ _ _ _ _ _ _
      unfold lb_X8_readsE_452
      rw [hlen]
      refine ⟨fun e => absurd e (nI_nle (by omega) (by omega)), fun _ => ⟨pk_in (M.length + 1) 7 (by omega), fun e => ?_, fun _ => ?_⟩⟩
      · rw [nI_clamp (by omega)] at e
        exact absurd hO.1 e
      · rw [pk_m1]; exact hk
    | false =>
      refine ⟨1, ?_⟩
      show lb_X8_readsE_452 _ _ _ _ _ _ _ _ _ _ _ _ _ _ _ _ _ _ _ _ _ _
      unfold lb_X8_readsE_452
      rw [hlen]
      refine ⟨fun e => absurd e (nI_nle (by omega) (by omega)), fun _ => ⟨pk_in (M.length + 1) 7 (by omega), fun _ => ei_next (L := false :: M) h hT hK, fun e => ?_⟩⟩
      rw [nI_clamp (by omega), hO.1] at e
      exact absurd e (by decide)
theorem sp_rE377 (h : EI n b0 c0 cd0 b q T td c 0 cd op L 0) (hl : li < 192) (hK : KH n b0 c0 cd0 lf lt b κ) (hF : FH n b0 c0 cd0 lf lt Φ) (hS : SH n b0 c0 li cd0 lf lt Φ) : kf_X8_readsE_377 (nI n) t cs nm (nI li) κ Φ (nI q) (nI b) T w td wr (nI c) lf lt cd op cm (nI L.length) 0 := by
  unfold kf_X8_readsE_377
  refine sp_X8_isWord (fun e _ => ⟨fun _ => sp_rE397 h (by rw [e]; decide) hK, fun e => absurd e (by decide)⟩) (fun _ => ⟨fun e => absurd rfl e, fun _ => ?_⟩)
  refine sp_X8_isWord (fun e _ => ⟨fun e => absurd e (by decide), fun _ => sp_rE397 h (by rw [e]; decide) hK⟩) (fun _ => ⟨fun _ => ?_, fun e => absurd rfl e⟩)
  refine sp_X8_isSign h.1.sgn (fun e3 _ => ⟨fun e => absurd e (by decide), fun _ => ⟨fun _ => sp_rE472 h hl hF hS, fun hd => ?_⟩⟩) (fun _ => ⟨fun _ => sp_rE472 h hl hF hS, fun e => absurd rfl e⟩)
  have hT : ¬ T = 0 := by rw [e3]; decide
  obtain ⟨M, rfl⟩ : ∃ M, L = false :: M := by
    rcases h.2.2.2.2.2.2.2.2 rfl with e | e
    · rw [e] at hd; exact absurd (by decide) hd
    · exact e
  have hO := h.2.2.2.2.2.1
  have hlen := h.2.2.2.2.1
  simp only [List.length_cons] at hlen
  have e := ei_put (wn' := 0) (v := 29) (x := popN M) h hT rfl (Nat.le_trans (popN_len M) (by omega)) (by decide) (OP_pop hO.2) (fun _ => popN_top M)
  refine sp_X8_puts e.2 ?_
  rw [show ((false :: M).length) = M.length + 1 from rfl, pk_m1]
  exact sp_rE452 hT hK M (by omega) hO.2 e.1
theorem sp_rE336 (h : EI n b0 c0 cd0 b q T td c 0 cd op L 0) (hl : li < 192) (hT : ¬ T = 0) (hK : KH n b0 c0 cd0 lf lt b κ) (hF : FH n b0 c0 cd0 lf lt Φ) (hS : SH n b0 c0 li cd0 lf lt Φ) : kf_X8_readsE_336 (nI n) t cs nm (nI li) κ Φ (nI q) (nI b) T w td wr (nI c) lf lt cd op cm (nI L.length) 0 := by
  unfold kf_X8_readsE_336
  have hlen := h.2.2.2.2.1
  exact ⟨pk_in L.length 7 (by omega), fun _ => sp_rE377 h hl hK hF hS, fun _ => sp_X8_isSign h.1.sgn (fun _ _ => ⟨fun e => absurd e (by decide), fun _ => sp_rE362 h hT hK (Or.inl rfl)⟩) (fun _ => ⟨fun _ => sp_rE362 h hT hK (Or.inr rfl), fun e => absurd rfl e⟩)⟩
end RE
