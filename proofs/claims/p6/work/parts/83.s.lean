section RF
variable {t : Nat → Int32} {n b0 c0 li kc : Nat} {cs cd0 lf lt : Nat → Int32} {nm : Nat → Int64} {κ : KE} {Φ : PE} {b q c : Nat} {T td wr : Int32} {w : Int64} {cd op cm : Nat → Int32} {L : List Bool}
theorem ei_put2 {wn wn' : Int32} {v : Int32} {x : List Bool} {op' : Nat → Int32} (h : EI n b0 c0 cd0 b q T td c 0 cd op L wn) (hT : ¬ T = 0) (h1 : bst v L = some x) (h2 : x.length ≤ 5) (h3 : ¬ v < 0) (h4 : OP op' x) (h5 : wn' = 0 → x = [] ∨ ∃ m, x = false :: m) : EI n b0 c0 cd0 b q T td (c + 1) 1 (upd cd c v) op' x wn' ∧ c < 6000 := by
  obtain ⟨a1, a2, a3, a4, a5, a6, a7, a8, a9⟩ := h
  have hb := a1.lt hT
  refine ⟨⟨a1, a2, by omega, by omega, h2, h4, ?_, fun j hj => ?_, h5⟩, by omega⟩
  · have := BR_upd a7 h1 h2 h3
    rw [show c0 + (c - c0) = c by omega] at this
    rw [show c + 1 - c0 = c - c0 + 1 by omega]
    exact this
  · rw [pk_un (by omega)]; exact a8 j hj
theorem sp_rE170 {l3 l5 s0 : Int32} (h : EI n b0 c0 cd0 b q T td c 0 cd op L l3) (h3 : ¬ l3 = 0) (hL : L.length < 5) (hT : ¬ T = 0) (hK : KH n b0 c0 cd0 lf lt b κ) (hs : (¬ l5 = 0 ∧ (s0 = 30 ∨ s0 = 31)) ∨ (l5 = 0 ∧ s0 = 28)) : kf_X8_readsE_170 (nI n) t cs nm (nI li) κ Φ (nI q) (nI b) T w td wr (nI c) lf lt cd op cm (nI L.length) l3 l5 s0 := by
  unfold kf_X8_readsE_170
  have hO := h.2.2.2.2.2.1
  rcases hs with ⟨h5, hs⟩ | ⟨h5, hs⟩
  · have e := ei_put2 (wn' := l3) (v := s0) (x := true :: L) (op' := upd op (L.length + 1) 1) h hT (by rcases hs with rfl | rfl <;> rfl) (by simp only [List.length_cons]; omega) (by rcases hs with rfl | rfl <;> decide) ⟨pk_us, OP_upd hO (by omega)⟩ (fun e => absurd e h3)
    refine sp_X8_puts e.2 ⟨fun z => absurd z h5, fun _ => ?_⟩
    unfold kf_X8_readsE_191
    rw [nI_1]
    refine ⟨pk_in (L.length + 1) 7 (by omega), pk_in (L.length + 1) 7 (by omega), ?_⟩
    rw [nI_clamp (by omega)]
    exact ei_next (L := true :: L) e.1 hT hK
  · have e := ei_put2 (wn' := l3) (v := s0) (x := false :: L) (op' := upd op (L.length + 1) 2) h hT (by rw [hs]; rfl) (by simp only [List.length_cons]; omega) (by rw [hs]; decide) ⟨pk_us, OP_upd hO (by omega)⟩ (fun e => absurd e h3)
    refine sp_X8_puts e.2 ⟨fun _ => ?_, fun z => absurd h5 z⟩
    unfold kf_X8_readsE_191
    rw [nI_1]
    refine ⟨pk_in (L.length + 1) 7 (by omega), pk_in (L.length + 1) 7 (by omega), ?_⟩
    rw [nI_clamp (by omega)]
    exact ei_next (L := false :: L) e.1 hT hK
theorem sp_rE142 {l3 l5 l6 : Int32} (h : EI n b0 c0 cd0 b q T td c 0 cd op L l3) (h3 : ¬ l3 = 0) (hL : L.length < 5) (hT : ¬ T = 0) (hK : KH n b0 c0 cd0 lf lt b κ) (h5 : ¬ l5 = 0 → T = 1) (h6 : ¬ l6 = 0 → T = 3) (h56 : ¬ l5 = 0 ∨ ¬ l6 = 0) : kf_X8_readsE_142 (nI n) t cs nm (nI li) κ Φ (nI q) (nI b) T w td wr (nI c) lf lt cd op cm (nI L.length) l3 l5 l6 := by
  unfold kf_X8_readsE_142
  refine ⟨fun e6 => ?_, fun e6 => sp_rE170 h h3 hL hT hK (Or.inr ⟨Classical.byContradiction (fun e5 => absurd ((h5 e5).symm.trans (h6 e6)) (by decide)), rfl⟩)⟩
  have e5 : ¬ l5 = 0 := h56.elim id (fun z => absurd e6 z)
  exact sp_X8_isWord (fun _ _ => ⟨fun e => absurd e (by decide), fun _ => sp_rE170 h h3 hL hT hK (Or.inl ⟨e5, Or.inl rfl⟩)⟩) (fun _ => ⟨fun _ => sp_rE170 h h3 hL hT hK (Or.inl ⟨e5, Or.inr rfl⟩), fun e => absurd rfl e⟩)
theorem ei_opnd {l3 : Int32} {v : Nat} (h : EI n b0 c0 cd0 b q T td c 0 cd op L l3) (hT : ¬ T = 0) (hv : v < 20 ∨ 100 ≤ v) (hv2 : v < 20000) : EI n b0 c0 cd0 b q T td (c + 1) 1 (upd cd c (nI v)) op (popN L) 0 ∧ c < 6000 :=
  ei_put2 h hT (bst_opnd hv hv2 L) (Nat.le_trans (popN_len L) h.2.2.2.2.1) (nI_pos (by omega)) (OP_pop h.2.2.2.2.2.1) (fun _ => popN_top L)
theorem sp_rE121 {l3 l4 l5 l6 : Int32} (h : EI n b0 c0 cd0 b q T td c 0 cd op L l3) (h3 : ¬ l3 = 0) (hT : ¬ T = 0) (hk : cs 1 = nI kc) (hk6 : kc ≤ 6) (hK : KH n b0 c0 cd0 lf lt b κ) (hF : FH n b0 c0 cd0 lf lt Φ) (h5 : ¬ l5 = 0 → T = 1) (h6 : ¬ l6 = 0 → T = 3) : kf_X8_readsE_121 (nI n) t cs nm (nI li) κ Φ (nI q) (nI b) T w td wr (nI c) lf lt cd op cm (nI L.length) l3 l4 l5 l6 := by
  unfold kf_X8_readsE_121
  have hlen := h.2.2.2.2.1
  refine ⟨fun hd => ?_, fun _ => sp_X8_fails ⟨Or.inl rfl, hF b q T w td _ c cd op cm h.1 h.2.1.2 h.2.2.1 (by have := h.2.2.2.1; omega) h.2.2.2.2.2.2.2.1⟩⟩
  have hL : L.length < 5 := Nat.lt_of_le_of_ne hlen (fun e => hd (by rw [e]; rfl))
  refine ⟨fun e5 => sp_rE142 h h3 hL hT hK h5 h6 (Or.inl e5), fun e5 => ⟨fun e6 => ⟨fun _ => ?_, fun _ => ?_⟩, fun e6 => sp_rE142 h h3 hL hT hK h5 h6 (Or.inr e6)⟩⟩
  · obtain ⟨d, hd9, rfl⟩ := h.1.2.2.2.2
    rw [show (100 : Int32) = nI 100 from rfl, nI_add]
    have e := ei_opnd (v := 100 + d) h hT (by omega) (by omega)
    exact sp_X8_puts e.2 (sp_rE229 hT hK L hlen h.2.2.2.2.2.1 e.1)
  · refine sp_X8_cellOf hk hk6 ?_ (fun j hj _ => ?_)
    · have e := ei_opnd (v := 0) h hT (by omega) (by omega)
      exact sp_X8_puts e.2 (sp_rE229 hT hK L hlen h.2.2.2.2.2.1 e.1)
    · rw [show (1 : Int32) = nI 1 from rfl, nI_add]
      have e := ei_opnd (v := 1 + j) h hT (by omega) (by omega)
      exact sp_X8_puts e.2 (sp_rE229 hT hK L hlen h.2.2.2.2.2.1 e.1)
theorem sp_rE103 {l3 l4 l5 l6 : Int32} (h : EI n b0 c0 cd0 b q T td c 0 cd op L l3) (h3 : ¬ l3 = 0) (hT : ¬ T = 0) (hk : cs 1 = nI kc) (hk6 : kc ≤ 6) (hK : KH n b0 c0 cd0 lf lt b κ) (hF : FH n b0 c0 cd0 lf lt Φ) (h5 : ¬ l5 = 0 → T = 1) (h6 : ¬ l6 = 0 → T = 3) : kf_X8_readsE_103 (nI n) t cs nm (nI li) κ Φ (nI q) (nI b) T w td wr (nI c) lf lt cd op cm (nI L.length) l3 l4 l5 l6 := by
  unfold kf_X8_readsE_103
  have e := @sp_rE121 t n b0 c0 li kc cs cd0 lf lt nm κ Φ b q c T td wr w cd op cm L l3 l4 l5 l6 h h3 hT hk hk6 hK hF h5 h6
  refine ⟨fun _ => e, fun _ => sp_X8_cellOf hk hk6 ⟨fun _ => e, fun _ => ?_⟩ (fun j hj _ => ⟨fun _ => e, fun _ => ?_⟩)⟩
  · exact sp_X8_fails ⟨Or.inl rfl, hF b q T w td _ c cd op cm h.1 h.2.1.2 h.2.2.1 (by have := h.2.2.2.1; omega) h.2.2.2.2.2.2.2.1⟩
  · exact sp_X8_fails ⟨Or.inl rfl, hF b q T w td _ c cd op cm h.1 h.2.1.2 h.2.2.1 (by have := h.2.2.2.1; omega) h.2.2.2.2.2.2.2.1⟩
theorem sp_rE64 {l3 l4 s0 : Int32} (h : EI n b0 c0 cd0 b q T td c 0 cd op L l3) (h3 : ¬ l3 = 0) (hk : cs 1 = nI kc) (hk6 : kc ≤ 6) (hK : KH n b0 c0 cd0 lf lt b κ) (hF : FH n b0 c0 cd0 lf lt Φ) (h4 : ¬ l4 = 0 → T = 1) (h5 : ¬ s0 = 0 → T = 1) : kf_X8_readsE_64 (nI n) t cs nm (nI li) κ Φ (nI q) (nI b) T w td wr (nI c) lf lt cd op cm (nI L.length) l3 l4 s0 := by
  unfold kf_X8_readsE_64
  have n1 : ∀ {z : Int32}, (z = 1 → ¬ z = 0) := fun e => by rw [e]; decide
  refine sp_X8_isSign h.1.sgn (fun e3 _ => ?_) (fun _ => ?_)
  · have hT : ¬ T = 0 := by rw [e3]; decide
    have e := @sp_rE103 t n b0 c0 li kc cs cd0 lf lt nm κ Φ b q c T td wr w cd op cm L l3 l4 s0 1 h h3 hT hk hk6 hK hF h5 (fun _ => e3)
    exact ⟨fun _ => e, fun _ => ⟨fun _ => e, fun _ => ⟨fun _ => e, fun z => absurd z (by decide)⟩⟩⟩
  · have h6 : ¬ (0 : Int32) = 0 → T = 3 := fun z => absurd rfl z
    refine ⟨fun e4 => sp_rE103 h h3 (n1 (h4 e4)) hk hk6 hK hF h5 h6, fun _ => ⟨fun e5 => sp_rE103 h h3 (n1 (h5 e5)) hk hk6 hK hF h5 h6, fun _ => ⟨fun z => absurd rfl z, fun _ => ⟨fun e2 => sp_rE103 h h3 (by rw [e2]; decide) hk hk6 hK hF h5 h6, fun _ => ?_⟩⟩⟩⟩
    exact sp_X8_fails ⟨Or.inl rfl, hF b q T w td _ c cd op cm h.1 h.2.1.2 h.2.2.1 (by have := h.2.2.2.1; omega) h.2.2.2.2.2.2.2.1⟩
theorem sp_rE37 {l3 s0 : Int32} (h : EI n b0 c0 cd0 b q T td c 0 cd op L l3) (h3 : ¬ l3 = 0) (hk : cs 1 = nI kc) (hk6 : kc ≤ 6) (hK : KH n b0 c0 cd0 lf lt b κ) (hF : FH n b0 c0 cd0 lf lt Φ) (h4 : ¬ s0 = 0 → T = 1) : kf_X8_readsE_37 (nI n) t cs nm (nI li) κ Φ (nI q) (nI b) T w td wr (nI c) lf lt cd op cm (nI L.length) l3 s0 := by
  unfold kf_X8_readsE_37
  refine sp_X8_isWord (fun e1 _ => ⟨fun _ => sp_rE64 h h3 hk hk6 hK hF h4 (fun _ => e1), fun e => absurd e (by decide)⟩) (fun _ => ⟨fun e => absurd rfl e, fun _ => ?_⟩)
  exact sp_X8_isWord (fun e1 _ => ⟨fun e => absurd e (by decide), fun _ => sp_rE64 h h3 hk hk6 hK hF h4 (fun _ => e1)⟩) (fun _ => ⟨fun _ => sp_rE64 h h3 hk hk6 hK hF h4 (fun z => absurd rfl z), fun e => absurd rfl e⟩)
theorem sp_rE21 (hl : li < 192) (hk : cs 1 = nI kc) (hk6 : kc ≤ 6) (hF : FH n b0 c0 cd0 lf lt Φ) (hS : SH n b0 c0 li cd0 lf lt Φ) : ∀ (m b q : Nat) (T : Int32) (w : Int64) (td wr : Int32) (c : Nat) (cd op cm : Nat → Int32) (L : List Bool) (wn : Int32), EI n b0 c0 cd0 b q T td c 0 cd op L wn → n - b < m → lf_X8_readsE_21 (nI n) t cs nm (nI li) Φ m (nI q) (nI b) T w td wr (nI c) lf lt cd op cm (nI L.length) wn := by
  intro m
  induction m with
  | zero => intro b q T w td wr c cd op cm L wn _ h; exact absurd h (Nat.not_lt_zero _)
  | succ m ih =>
    intro b q T w td wr c cd op cm L wn h hm
    have hK : KH n b0 c0 cd0 lf lt b (lf_X8_readsE_21 (nI n) t cs nm (nI li) Φ m) := by
      intro b' q' T' w' td' wr' c' cd' op' cm' L' wn' h' hb
      have := h'.1.2.1
      have := h'.1.2.2.1
      exact ih b' q' T' w' td' wr' c' cd' op' cm' L' wn' h' (by omega)
    show lb_X8_readsE_21 _ _ _ _ _ _ _ _ _ _ _ _ _ _ _ _ _ _ _ _ _
    unfold lb_X8_readsE_21
    constructor
    · intro e0
      subst e0
      have s3 : ∀ {x : Int32}, T = 3 → ¬ T = 0 := fun e => by rw [e]; decide
      refine sp_X8_isSign h.1.sgn (fun e _ => ⟨fun _ => sp_rE279 h (by rw [e]; decide) hK, fun z => absurd z (by decide)⟩) (fun _ => ⟨fun z => absurd rfl z, fun _ => ?_⟩)
      refine sp_X8_isSign h.1.sgn (fun e _ => ⟨fun _ => sp_rE279 h (by rw [e]; decide) hK, fun z => absurd z (by decide)⟩) (fun _ => ⟨fun z => absurd rfl z, fun _ => ?_⟩)
      refine sp_X8_isSign h.1.sgn (fun e _ => ⟨fun z => absurd z (by decide), fun _ => sp_rE279 h (by rw [e]; decide) hK⟩) (fun _ => ⟨fun _ => ?_, fun z => absurd rfl z⟩)
      refine sp_X8_isSign h.1.sgn (fun e _ => ⟨fun _ => sp_rE336 h hl (by rw [e]; decide) hK hF hS, fun z => absurd z (by decide)⟩) (fun _ => ⟨fun z => absurd rfl z, fun _ => ?_⟩)
      exact sp_X8_isSign h.1.sgn (fun e _ => ⟨fun z => absurd z (by decide), fun _ => sp_rE336 h hl (by rw [e]; decide) hK hF hS⟩) (fun _ => ⟨fun _ => sp_rE377 h hl hK hF hS, fun z => absurd rfl z⟩)
    · intro e0
      exact sp_X8_isKept ⟨fun _ => sp_rE37 h e0 hk hk6 hK hF (fun z => absurd rfl z), fun z => absurd z (by decide)⟩ (fun e1 => ⟨fun z => absurd rfl z, fun _ => sp_rE37 h e0 hk hk6 hK hF (fun _ => e1)⟩)
end RF
/-- readsE: one E of the line li, its codes from c on -/
theorem sp_X8_readsE {t : Nat → Int32} {n li kc b q c : Nat} {cs lf lt cd op cm : Nat → Int32} {nm : Nat → Int64} {Φ : PE} {T td wr : Int32} {w : Int64} (hR : RS n b q T td) (hl : li < 192) (hk : cs 1 = nI kc) (hk6 : kc ≤ 6) (hc : 1000 ≤ c) (hc2 : c ≤ 1000 + b) (hF : FH n b c cd (upd lf li (nI c)) lt Φ) (hS : SH n b c li cd (upd lf li (nI c)) lt Φ) : wp_X8_readsE (nI n) t cs nm (nI li) (nI q) (nI b) T w td wr (nI c) lf lt cd op cm Φ := by
  unfold wp_X8_readsE
  refine ⟨pk_in li 192 hl, n - b + 1, ?_⟩
  rw [nI_clamp (by omega)]
  exact sp_rE21 hl hk hk6 hF hS (n - b + 1) b q T w td wr c cd op _ [] 1 ⟨hR, ⟨hc, Nat.le_refl _⟩, Nat.le_refl _, hc2, by decide, trivial, by rw [Nat.sub_self]; exact rfl, fun _ _ => rfl, fun z => absurd z (by decide)⟩ (Nat.lt_succ_self _)
