def LW (ta ac lf lt cd : Nat → Int32) (l lo hi : Nat) : Prop := ((ta l = 0 ∨ ta l = 4) → ∃ y : Nat, y < 6 ∧ ac l = nI y) ∧ ∀ w, w < 2 → ∃ (f g : Nat) (L : List Bool), lf (2 * l + w) = nI f ∧ lt (2 * l + w) = nI g ∧ lo ≤ f ∧ f ≤ g ∧ g ≤ hi ∧ BR cd f (g - f) [] L
abbrev PA : Type := Int32 → Int32 → Int32 → Int32 → Int64 → Int32 → Int32 → Int32 → (Nat → Int32) → (Nat → Int32) → (Nat → Int32) → (Nat → Int32) → (Nat → Int32) → (Nat → Int32) → (Nat → Int32) → Prop
def AP (n b c l : Nat) (ta ac lf lt cd : Nat → Int32) (Φ : PA) : Prop := ∀ r b' q' T' w' td' wr' c' ta' ac' lf' lt' cd' op' cm', RS n b' q' T' td' → b ≤ b' → c ≤ c' → c' ≤ 1000 + b' → (∀ j, ¬ j = l → ta' j = ta j ∧ ac' j = ac j) → (∀ j, ¬ j = 2 * l → ¬ j = 2 * l + 1 → lf' j = lf j ∧ lt' j = lt j) → (∀ j, j < c ∨ 2000 ≤ j → cd' j = cd j) → (r = 0 ∨ r = 1) → (r = 1 → LW ta' ac' lf' lt' cd' l c c') → Φ r (nI q') (nI b') T' w' td' wr' (nI c') ta' ac' lf' lt' cd' op' cm'
theorem LW_2 {ta ac lf lt cd : Nat → Int32} {l lo hi f0 g0 f1 g1 : Nat} {L0 L1 : List Bool} (ha : (ta l = 0 ∨ ta l = 4) → ∃ y : Nat, y < 6 ∧ ac l = nI y) (e1 : lf (2 * l) = nI f0) (e2 : lt (2 * l) = nI g0) (e3 : lo ≤ f0 ∧ f0 ≤ g0 ∧ g0 ≤ hi) (e4 : BR cd f0 (g0 - f0) [] L0) (k1 : lf (2 * l + 1) = nI f1) (k2 : lt (2 * l + 1) = nI g1) (k3 : lo ≤ f1 ∧ f1 ≤ g1 ∧ g1 ≤ hi) (k4 : BR cd f1 (g1 - f1) [] L1) : LW ta ac lf lt cd l lo hi := by
  refine ⟨ha, fun w hw => ?_⟩
  match w, hw with
  | 0, _ => exact ⟨f0, g0, L0, e1, e2, e3.1, e3.2.1, e3.2.2, e4⟩
  | 1, _ => exact ⟨f1, g1, L1, k1, k2, k3.1, k3.2.1, k3.2.2, k4⟩
section RA
variable {t : Nat → Int32} {n b q c l k : Nat} {T td wr : Int32} {w : Int64} {ce ta ac lf lt cd op cm : Nat → Int32} {cn : Nat → Int64} {Φ : PA}
theorem sp_rA107 {a : Nat} (h : RS n b q T td) (hl : l < 96) (ha6 : a ≤ 6) (hk : ce 1 = nI k) (hk6 : k ≤ 6) (hc : 1000 ≤ c) (hc2 : c ≤ 1000 + b) (hta : ta l = nI a) (h0 : a = 0 → ∃ y : Nat, y < 6 ∧ ac l = nI y) (e1 : lf (2 * l + 1) = nI c) (e2 : lt (2 * l + 1) = nI c) (hΦ : AP n b c l ta ac lf lt cd Φ) : kf_X8_readsAct_107 (nI n) t ce cn (nI l) Φ (nI q) (nI b) T w td wr (nI c) ta ac lf lt cd op cm (nI a) := by
  unfold kf_X8_readsAct_107
  have z0 : (0 : Int32) = 1 → False := by decide
  have m2 : (2 : Int32) * nI l = nI (2 * l) := pk_mul 2 l
  have m3 : nI (2 * l) + 1 = nI (2 * l + 1) := nI_1 _
  rw [m2]
  have flf : ∀ (v : Int32) (j : Nat), ¬ j = 2 * l → upd lf (2 * l) v j = lf j := fun v j hj => pk_un hj
  refine sp_X8_readsE h (by omega) hk hk6 hc hc2 (fun b1 q1 T1 w1 td1 wr1 c1 cd1 op1 cm1 h1 hb1 hc1 hc1' hf1 => ⟨fun z => absurd rfl z, fun _ => ?_⟩) (fun b1 q1 T1 w1 td1 wr1 c1 cd1 op1 cm1 h1 hb1 hc1 hc1' hf1 hL1 => ⟨fun _ => ?_, fun z => absurd z (by decide)⟩)
  · exact hΦ 0 b1 q1 T1 w1 td1 wr1 c1 ta ac _ lt cd1 op1 cm1 h1 hb1 hc1 hc1' (fun _ _ => ⟨rfl, rfl⟩) (fun j hj _ => ⟨flf _ j hj, rfl⟩) hf1 (Or.inl rfl) (fun z => (z0 z).elim)
  obtain ⟨L1, hL1⟩ := hL1
  -- the second E
  have second : ∀ (b2 q2 : Nat) (T2 : Int32) (w2 : Int64) (td2 wr2 : Int32), RS n b2 q2 T2 td2 → b1 ≤ b2 → ¬ a = 4 → ¬ a = 0 → wp_X8_readsE (nI n) t ce cn (nI (2 * l + 1)) (nI q2) (nI b2) T2 w2 td2 wr2 (nI c1) (upd lf (2 * l) (nI c)) (upd lt (2 * l) (nI c1)) cd1 op1 cm1 (fun r_78 Fplace_66 Fbegin_67 Ftoken_68 Fword_69 Ftold_70 Fwrong_71 Fcode_72 AlineFrom_73 AlineTo_74 Acodes_75 Aopened_76 Acompared_77 => (r_78 = 0 → Φ 0 Fplace_66 Fbegin_67 Ftoken_68 Fword_69 Ftold_70 Fwrong_71 Fcode_72 ta ac AlineFrom_73 AlineTo_74 Acodes_75 Aopened_76 Acompared_77) ∧ (¬ r_78 = 0 → Φ 1 Fplace_66 Fbegin_67 Ftoken_68 Fword_69 Ftold_70 Fwrong_71 Fcode_72 ta ac AlineFrom_73 AlineTo_74 Acodes_75 Aopened_76 Acompared_77)) := by
    intro b2 q2 T2 w2 td2 wr2 h2 hb2 ha4 ha0
    have fr : ∀ (v1 v2 v3 : Int32) (j : Nat), ¬ j = 2 * l → ¬ j = 2 * l + 1 → upd (upd lf (2 * l) v1) (2 * l + 1) v2 j = lf j ∧ upd lt (2 * l) v3 j = lt j := fun v1 v2 v3 j h1 h2 => ⟨by rw [pk_un h2, pk_un h1], pk_un h1⟩
    refine sp_X8_readsE h2 (by omega) hk hk6 (by omega) (by omega) (fun b3 q3 T3 w3 td3 wr3 c3 cd3 op3 cm3 h3 hb3 hc3 hc3' hf3 => ⟨fun _ => ?_, fun z => absurd rfl z⟩) (fun b3 q3 T3 w3 td3 wr3 c3 cd3 op3 cm3 h3 hb3 hc3 hc3' hf3 hL3 => ⟨fun z => absurd z (by decide), fun _ => ?_⟩)
    · exact hΦ 0 b3 q3 T3 w3 td3 wr3 c3 ta ac _ _ cd3 op3 cm3 h3 (by omega) (by omega) hc3' (fun _ _ => ⟨rfl, rfl⟩) (fun j h1 h2 => fr _ _ _ j h1 h2) (fun j hj => by rw [hf3 j (by omega), hf1 j hj]) (Or.inl rfl) (fun z => (z0 z).elim)
    · obtain ⟨L3, hL3⟩ := hL3
      refine hΦ 1 b3 q3 T3 w3 td3 wr3 c3 ta ac _ _ cd3 op3 cm3 h3 (by omega) (by omega) hc3' (fun _ _ => ⟨rfl, rfl⟩) (fun j h1 h2 => ⟨(fr _ _ 0 j h1 h2).1, by rw [pk_un h2, pk_un h1]⟩) (fun j hj => by rw [hf3 j (by omega), hf1 j hj]) (Or.inr rfl) (fun _ => ?_)
      refine LW_2 (f0 := c) (g0 := c1) (f1 := c1) (g1 := c3) (L0 := L1) (L1 := L3) ?_ ?_ ?_ ⟨Nat.le_refl _, hc1, hc3⟩ ?_ pk_us pk_us ⟨hc1, hc3, Nat.le_refl _⟩ hL3
      · rw [hta]
        intro z
        rcases z with z | z
        · exact absurd ((nI_eq (a := a) (b := 0) (by omega) (by decide)).mp z) ha0
        · exact absurd ((nI_eq (a := a) (b := 4) (by omega) (by decide)).mp z) ha4
      · rw [pk_un (by omega)]; exact pk_us
      · rw [pk_un (by omega)]; exact pk_us
      · exact BR_congr (fun j _ hj => hf3 j (by omega)) hL1
  have k1 : (upd lf (2 * l) (nI c)) (2 * l + 1) = nI c := by rw [pk_un (by omega)]; exact e1
  have k2 : (upd lt (2 * l) (nI c1)) (2 * l + 1) = nI c := by rw [pk_un (by omega)]; exact e2
  have mk : ∀ ac' : Nat → Int32, ((ta l = 0 ∨ ta l = 4) → ∃ y : Nat, y < 6 ∧ ac' l = nI y) → LW ta ac' (upd lf (2 * l) (nI c)) (upd lt (2 * l) (nI c1)) cd1 l c c1 := fun ac' hx =>
    LW_2 (f0 := c) (g0 := c1) (f1 := c) (g1 := c) (L0 := L1) (L1 := []) hx pk_us pk_us ⟨Nat.le_refl _, hc1, Nat.le_refl _⟩ hL1 k1 k2 ⟨Nat.le_refl _, Nat.le_refl _, hc1⟩ (by rw [Nat.sub_self]; exact rfl)
  have fr2 : ∀ j, ¬ j = 2 * l → ¬ j = 2 * l + 1 → upd lf (2 * l) (nI c) j = lf j ∧ upd lt (2 * l) (nI c1) j = lt j := fun j h1 _ => ⟨pk_un h1, pk_un h1⟩
  have fail : ∀ (b2 q2 : Nat) (T2 : Int32) (w2 : Int64) (td2 wr2 : Int32) (ac' : Nat → Int32), RS n b2 q2 T2 td2 → b1 ≤ b2 → (∀ j, ¬ j = l → ac' j = ac j) → Φ 0 (nI q2) (nI b2) T2 w2 td2 wr2 (nI c1) ta ac' (upd lf (2 * l) (nI c)) (upd lt (2 * l) (nI c1)) cd1 op1 cm1 := fun b2 q2 T2 w2 td2 wr2 ac' h2 hb2 hac =>
    hΦ 0 b2 q2 T2 w2 td2 wr2 c1 ta ac' _ _ cd1 op1 cm1 h2 (by omega) hc1 (by omega) (fun j hj => ⟨rfl, hac j hj⟩) fr2 hf1 (Or.inl rfl) (fun z => (z0 z).elim)
  rw [m3]
  refine ⟨fun n3 => ⟨fun n5 => ⟨fun n4 => ?_, fun e4 => ?_⟩, fun e5 => ?_⟩, fun e3 => ?_⟩
  · refine hΦ 1 b1 q1 T1 w1 td1 wr1 c1 ta ac _ _ cd1 op1 cm1 h1 hb1 hc1 hc1' (fun _ _ => ⟨rfl, rfl⟩) fr2 hf1 (Or.inr rfl) (fun _ => mk ac (fun z => ?_))
    rw [hta] at z
    rcases z with z | z
    · exact h0 ((nI_eq (a := a) (b := 0) (by omega) (by decide)).mp z)
    · exact absurd z n4
  · refine sp_X8_needsWord h1 (fun r b2 q2 T2 w2 td2 wr2 h2 hb2 hr _ => ⟨fun _ => fail b2 q2 T2 w2 td2 wr2 ac h2 hb2 (fun _ _ => rfl), fun _ => ?_⟩)
    refine sp_X8_needsCell h2 hl hk hk6 (fun r b3 q3 T3 w3 td3 wr3 ac3 h3 hb3 hr3 hfr hy => ⟨fun _ => fail b3 q3 T3 w3 td3 wr3 ac3 h3 (by omega) hfr, fun hr1 => ?_⟩)
    have er : r = 1 := hr3.resolve_left hr1
    exact hΦ 1 b3 q3 T3 w3 td3 wr3 c1 ta ac3 _ _ cd1 op1 cm1 h3 (by omega) hc1 (by omega) (fun j hj => ⟨rfl, hfr j hj⟩) fr2 hf1 (Or.inr rfl) (fun _ => mk ac3 (fun _ => hy er))
  · refine sp_X8_needsWord h1 (fun r b2 q2 T2 w2 td2 wr2 h2 hb2 hr _ => ⟨fun _ => fail b2 q2 T2 w2 td2 wr2 ac h2 hb2 (fun _ _ => rfl), fun _ => second b2 q2 T2 w2 td2 wr2 h2 hb2 (fun e => ?_) (fun e => ?_)⟩)
    · rw [e] at e5; exact absurd e5 (by decide)
    · rw [e] at e5; exact absurd e5 (by decide)
  · refine sp_X8_needsWord h1 (fun r b2 q2 T2 w2 td2 wr2 h2 hb2 hr _ => ⟨fun _ => fail b2 q2 T2 w2 td2 wr2 ac h2 hb2 (fun _ _ => rfl), fun _ => second b2 q2 T2 w2 td2 wr2 h2 hb2 (fun e => ?_) (fun e => ?_)⟩)
    · rw [e] at e3; exact absurd e3 (by decide)
    · rw [e] at e3; exact absurd e3 (by decide)
theorem sp_X8_readsAct (h : RS n b q T td) (hl : l < 96) (hk : ce 1 = nI k) (hk6 : k ≤ 6) (hc : 1000 ≤ c) (hc2 : c ≤ 1000 + b) (hΦ : AP n b c l ta ac lf lt cd Φ) : wp_X8_readsAct (nI n) t ce cn (nI l) (nI q) (nI b) T w td wr (nI c) ta ac lf lt cd op cm Φ := by
  unfold wp_X8_readsAct
  have z0 : (0 : Int32) = 1 → False := by decide
  have m2 : (2 : Int32) * nI l = nI (2 * l) := pk_mul 2 l
  have m3 : nI (2 * l) + 1 = nI (2 * l + 1) := nI_1 _
  rw [m2, m3]
  refine sp_X8_actAt ⟨fun z => absurd z (by decide), fun _ => sp_X8_fails ⟨Or.inl rfl, hΦ 0 b q T w td _ c ta ac lf lt cd op cm h (Nat.le_refl _) (Nat.le_refl _) hc2 (fun _ _ => ⟨rfl, rfl⟩) (fun _ _ _ => ⟨rfl, rfl⟩) (fun _ _ => rfl) (Or.inl rfl) (fun z => (z0 z).elim)⟩⟩ (fun a ha6 eT => ⟨fun _ => ?_, fun z => absurd (nI_pos' (by omega)) z⟩)
  have i1 : vp_in (nI l) 96 := pk_in l 96 hl
  have i2 : vp_in (nI (2 * l)) 192 := pk_in (2 * l) 192 (by omega)
  have i3 : vp_in (nI (2 * l + 1)) 192 := pk_in (2 * l + 1) 192 (by omega)
  have hbq := h.2.1
  refine ⟨i1, i1, i2, i2, i3, i3, h.next (fun b1 q1 T1 w1 td1 h1 hb1 => ?_)⟩
  rw [nI_clamp (n := l) (by omega), nI_clamp (n := 2 * l) (by omega), nI_clamp (n := 2 * l + 1) (by omega)]
  have fr : ∀ (u v : Int32) (j : Nat), ¬ j = 2 * l → ¬ j = 2 * l + 1 → upd (upd lf (2 * l) u) (2 * l + 1) u j = lf j ∧ upd (upd lt (2 * l) v) (2 * l + 1) v j = lt j := fun u v j h1 h2 => ⟨by rw [pk_un h2, pk_un h1], by rw [pk_un h2, pk_un h1]⟩
  have up : ∀ (ac1 : Nat → Int32) (b2 : Nat), b ≤ b2 → (∀ j, ¬ j = l → ac1 j = ac j) → AP n b2 c l (upd ta l (nI a)) ac1 (upd (upd lf (2 * l) (nI c)) (2 * l + 1) (nI c)) (upd (upd lt (2 * l) (nI c)) (2 * l + 1) (nI c)) cd Φ := by
    intro ac1 b2 hb2 hac r b' q' T' w' td' wr' c' ta' ac' lf' lt' cd' op' cm' hR hb' hc' hc'' hta hlf hcd hr hLW
    exact hΦ r b' q' T' w' td' wr' c' ta' ac' lf' lt' cd' op' cm' hR (by omega) hc' hc'' (fun j hj => ⟨by rw [(hta j hj).1, pk_un hj], by rw [(hta j hj).2, hac j hj]⟩) (fun j h1 h2 => ⟨by rw [(hlf j h1 h2).1, (fr (nI c) (nI c) j h1 h2).1], by rw [(hlf j h1 h2).2, (fr (nI c) (nI c) j h1 h2).2]⟩) hcd hr hLW
  refine ⟨fun n6 => ⟨fun n0 => ?_, fun e0 => ?_⟩, fun e6 => ?_⟩
  · exact sp_rA107 h1 hl ha6 hk hk6 hc (by omega) pk_us (fun e => absurd (by rw [e]; rfl) n0) pk_us pk_us (up _ b1 (by omega) (fun j hj => pk_un hj))
  · have ea : a = 0 := (nI_eq (a := a) (b := 0) (by omega) (by decide)).mp e0
    refine sp_X8_needsCell h1 hl hk hk6 (fun r b2 q2 T2 w2 td2 wr2 ac2 h2 hb2 hr hfr hy => ⟨fun hr1 => ?_, fun _ => ?_⟩)
    · have er : r = 1 := hr.resolve_left hr1
      exact sp_rA107 h2 hl ha6 hk hk6 hc (by omega) pk_us (fun _ => hy er) pk_us pk_us (up ac2 b2 (by omega) (fun j hj => by rw [hfr j hj, pk_un hj]))
    · exact hΦ 0 b2 q2 T2 w2 td2 wr2 c _ ac2 _ _ cd op cm h2 (by omega) (Nat.le_refl _) (by omega) (fun j hj => ⟨pk_un hj, by rw [hfr j hj, pk_un hj]⟩) (fun j h1 h2 => fr _ _ j h1 h2) (fun _ _ => rfl) (Or.inl rfl) (fun z => (z0 z).elim)
  · refine hΦ 1 b1 q1 T1 w1 td1 wr c _ _ _ _ cd op cm h1 (by omega) (Nat.le_refl _) (by omega) (fun j hj => ⟨pk_un hj, pk_un hj⟩) (fun j h1 h2 => fr _ _ j h1 h2) (fun _ _ => rfl) (Or.inr rfl) (fun _ => ?_)
    refine LW_2 (f0 := c) (g0 := c) (f1 := c) (g1 := c) (L0 := []) (L1 := []) ?_ ?_ ?_ ⟨Nat.le_refl _, Nat.le_refl _, Nat.le_refl _⟩ (by rw [Nat.sub_self]; exact rfl) pk_us pk_us ⟨Nat.le_refl _, Nat.le_refl _, Nat.le_refl _⟩ (by rw [Nat.sub_self]; exact rfl)
    · rw [pk_us, e6]
      intro z
      rcases z with z | z <;> exact absurd z (by decide)
    · rw [pk_un (by omega)]; exact pk_us
    · rw [pk_un (by omega)]; exact pk_us
end RA
