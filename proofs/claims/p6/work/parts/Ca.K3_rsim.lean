section SM9
variable {ts : List Nat} {t : Nat → Int32} {cs : Nat → Int32} {nm : Nat → Int64} {li : Nat} {Φ : PE} {lf lt : Nat → Int32} {wr : Int32} {cn : List (List Nat)}
/-- what is known where an expression of a level ends -/
def QC (lv d : Nat) (cm cm' : Nat → Int32) (L : List Tok) : Prop := (∀ j, j < d → cm' j = cm j) ∧ (2 ≤ lv → cm' d = cm d) ∧ (lv ≤ 3 → lvl (hdt L) ≠ 3) ∧ (lv ≤ 2 → lvl (hdt L) ≠ 2) ∧ (lv ≤ 1 → lvl (hdt L) ≠ 1 ∨ ¬ cm' d = 0) ∧ (lv = 0 → lvl (hdt L) ≠ 0)
/-- the loop does what g does, with the brackets S, and behind it S' -/
def SM8 (ts : List Nat) (t cs : Nat → Int32) (nm : Nat → Int64) (li : Nat) (Φ : PE) (lf lt : Nat → Int32) (wr : Int32) (g : List Tok → PRs EC) (S S' : List Bool) (lv : Nat) : Prop := ∀ (n : Nat) (L : List Tok) (c : Nat) (cd op cm : Nat → Int32), WT L → OP op S → 1000 ≤ c → c + L.length ≤ 2000 → (lv ≤ 1 → cm S.length = 0) → (∀ e, g L = .inl e → FL8 Φ lf lt e c cd) → (∀ (i p : List Nat) (L' : List Tok), g L = .inr ((i, p), L') → i.length + L'.length = L.length → WT L' → ∀ n' cd' op' cm', CW c i cd cd' → OP op' S' → QC lv S.length cm cm' L' → LP8 ts t cs nm li Φ lf lt wr n' S'.length L' (c + i.length) cd' op' cm' 0) → LP8 ts t cs nm li Φ lf lt wr n S.length L c cd op cm 1
theorem re_part {gE gP : List Tok → PRs EC} {S : List Bool} (hT : TL ts t) (hN : NB cn nm) (hk : cs 1 = nI cn.length) (hS : S.length ≤ 5) (hE : S.length < 5 → SM8 ts t cs nm li Φ lf lt wr gE (false :: S) (false :: S) 0) (hP : S.length < 5 → SM8 ts t cs nm li Φ lf lt wr gP (true :: S) (popN S) 4) : SM8 ts t cs nm li Φ lf lt wr (pPa cn gE gP S.length) S (popN S) 4 := by
  intro n L c cd op cm hW hO hc1 hc2 _ hbad hgood q b T w td h
  cases n with
  | zero => trivial
  | succ n =>
    have hL1 : 1 ≤ L.length := lpos hW.ne
    have hadv := hW.advZ
    have hlen : ∀ j : Nat, 0 < j → ix (hdt L) = j → (adv L).length + 1 = L.length := fun j hj e => hadv.2.2 (fun z => by rw [ix_0.mpr z] at e; omega)
    -- a fault here
    have bad : ∀ k : Nat, pPa cn gE gP S.length L = .inl (flt k L) → ((nI 0 = 0 ∨ nI 0 = 1) → Φ 0 (nI q) (nI b) T w td (nI k + 16 * nI b) (nI c) lf lt cd op cm) := by
      intro k hg _
      rw [h.fltZ]
      exact hbad _ hg _ _ _ _ _ _ _ _ _ (fun j _ => rfl)
    -- an operand
    have val : ∀ (v : Nat) (p : List Nat), 0 < ix (hdt L) → pPa cn gE gP S.length L = .inr (([v], p), adv L) → wl_X8_puts (nI v) (nI c) cd (fun c' cd' => ∀ k, ll_X8_readsE_229 (nI ts.length) t cs nm (nI li) (ll_X8_readsE_21 (nI ts.length) t cs nm (nI li) Φ n) Φ k (nI q) (nI b) T w td wr c' lf lt cd' op cm (nI S.length) 0) := by
      intro v p h0 hg
      have hl := hlen _ h0 rfl
      refine sq8_puts (by omega) (fun k => re_pop229 hT h k S (by omega) hO ?_)
      exact hgood [v] p _ hg (by show 1 + _ = _; omega) hadv.1 n _ _ _ (CW.one (by omega)) (OP_pop hO) ⟨fun _ _ => rfl, fun _ => rfl, fun z => absurd z (by (try dsimp only); decide), fun z => absurd z (by (try dsimp only); decide), fun z => absurd z (by (try dsimp only); decide), fun z => absurd z (by (try dsimp only); decide)⟩
    -- not, worn, a bracket
    have opn : ∀ (v x : Nat), 0 < ix (hdt L) → (∀ cd' op' cm', CW c [v] cd cd' → OP op' S → op' (S.length + 1) = nI x → (∀ j, j ≤ S.length → cm' j = cm j) → cm' (S.length + 1) = 0 → LP8 ts t cs nm li Φ lf lt wr n (S.length + 1) (adv L) (c + 1) cd' op' cm' 1) → ∀ l3 : Int32, l3 = 1 → wl_X8_puts (nI v) (nI c) cd (fun c' cd' => kl_X8_readsE_191 (nI ts.length) t cs nm (nI li) (ll_X8_readsE_21 (nI ts.length) t cs nm (nI li) Φ n) Φ (nI q) (nI b) T w td wr c' lf lt cd' op cm (nI S.length + 1) l3 (nI x) (nI S.length + 1)) := by
      intro v x h0 hn l3 hl3
      subst hl3
      refine sq8_puts (by omega) ?_
      unfold kl_X8_readsE_191
      rw [nI_1, nI_clamp (n := S.length + 1) (by omega)]
      refine fun _ _ => sq8_next hT h (fun q' b' T' w' td' h' => hn _ _ _ (CW.one (by omega)) (OP_upd hO (by omega)) pk_us (fun j hj => pk_un (by omega)) (by rw [pk_us]; exact bo_0) q' b' T' w' td' h')
    have d5 : nI S.length = 5 ↔ S.length = 5 := nI_eq (a := S.length) (b := 5) (by omega) (by decide)
    show bl_X8_readsE_21 _ _ _ _ _ _ _ _ _ _ _ _ _ _ _ _ _ _ _ _ _
    refine ⟨fun z => absurd z (by (try dsimp only); decide), fun _ => ?_⟩
    by_cases e3 : ix (hdt L) = 3
    · -- a name
      have k1 := (ix_3 e3).1
      obtain ⟨w1, w2, w3⟩ := h.ix1 k1
      refine sq8_kept h (fun z => absurd e3 z) (fun _ => ⟨fun z => absurd rfl z, fun _ => ?_⟩)
      have hto : pTold cn L = match fnd cn (hdt L).2.2 with | none => .inl (flt 2 L) | some c => .inr (c, L) := if_pos e3
      have hpa : pPa cn gE gP S.length L = bnd (pTold cn L) fun y => if 5 ≤ S.length then .inl (flt 5 L) else .inr (([1 + y.1], [1 + 16 * y.1]), adv L) := if_pos e3
      have k121 : ∀ j, fnd cn (hdt L).2.2 = some j → kl_X8_readsE_121 (nI ts.length) t cs nm (nI li) (ll_X8_readsE_21 (nI ts.length) t cs nm (nI li) Φ n) Φ (nI q) (nI b) T w td wr (nI c) lf lt cd op cm (nI S.length) 1 1 0 0 := by
        intro j hj
        rw [hto, hj, bnd_r] at hpa
        refine ⟨fun n5 => ⟨fun z => absurd rfl z, fun _ => ⟨fun _ => ⟨fun z => absurd z (by (try dsimp only); decide), fun _ => ?_⟩, fun z => absurd rfl z⟩⟩, fun e5 => ?_⟩
        · rw [d5] at n5
          rw [if_neg (by omega)] at hpa
          rw [w2]
          refine sq8_cellOf hN hk w3 (fun z => by rw [hj] at z; cases z) (fun j' hj' => ?_)
          rw [hj] at hj'
          have ej := Option.some.inj hj'
          subst ej
          rw [show (1 : Int32) = nI 1 from rfl, nI_add]
          rw [← w2]
          exact val (1 + j) _ (by omega) hpa
        · rw [d5] at e5
          rw [if_pos (by omega)] at hpa
          exact bad 5 hpa
      have k103 : kl_X8_readsE_103 (nI ts.length) t cs nm (nI li) (ll_X8_readsE_21 (nI ts.length) t cs nm (nI li) Φ n) Φ (nI q) (nI b) T w td wr (nI c) lf lt cd op cm (nI S.length) 1 1 0 0 := by
        refine ⟨fun z => absurd z (by (try dsimp only); decide), fun _ => ?_⟩
        have hk2 := hN.1
        have w2' := w2
        subst w2'
        refine sq8_cellOf hN hk w3 (fun z => ⟨fun y => absurd y (by (try dsimp only); decide), fun _ => ?_⟩) (fun j hj => ⟨fun _ => k121 j hj, fun y => absurd (nI_pos' (n := j) (by have := fnd_lt hj; omega)) y⟩)
        rw [hto, z] at hpa
        exact bad 2 hpa
      have k64 : kl_X8_readsE_64 (nI ts.length) t cs nm (nI li) (ll_X8_readsE_21 (nI ts.length) t cs nm (nI li) Φ n) Φ (nI q) (nI b) T w td wr (nI c) lf lt cd op cm (nI S.length) 1 1 0 := by
        exact sq8_sign 40 (by decide) (by decide) hT h (fun e => by rw [e3] at e; exact absurd e (by (try dsimp only); decide)) (fun _ => ⟨fun _ => k103, fun z => absurd z (by (try dsimp only); decide)⟩)
      exact sq8_word 16 (by decide) rfl h (fun e => by omega) (fun _ => ⟨fun z => absurd rfl z, fun _ => sq8_word 15 (by decide) rfl h (fun e => by omega) (fun _ => ⟨fun _ => k64, fun z => absurd rfl z⟩)⟩)
    · refine sq8_kept h (fun _ => ⟨fun _ => ?_, fun z => absurd z (by (try dsimp only); decide)⟩) (fun z => absurd z e3)
      -- depth: one more, or too deep
      have deep : ix (hdt L) = 2 ∨ ix (hdt L) = 4 ∨ ix (hdt L) = 27 ∨ ix (hdt L) = 28 → 5 ≤ S.length → pPa cn gE gP S.length L = .inl (flt 5 L) := by
        intro h4 h5
        unfold pPa
        rw [if_neg e3, if_pos h4, if_pos h5]
      have shal : ix (hdt L) = 2 ∨ ix (hdt L) = 4 ∨ ix (hdt L) = 27 ∨ ix (hdt L) = 28 → ¬ 5 ≤ S.length → pPa cn gE gP S.length L = if ix (hdt L) = 2 then .inr (([100 + num (hdt L)], [16 * num (hdt L)]), adv L) else if ix (hdt L) = 4 then bnd (gE (adv L)) fun s => (if ix (hdt s.2) = 5 then .inr ((28 :: (s.1.1 ++ [29]), s.1.2), adv s.2) else .inl (flt 1 s.2)) else bnd (gP (adv L)) fun s => .inr (((if ix (hdt L) = 27 then 31 else 30) :: s.1.1, s.1.2 ++ [if ix (hdt L) = 27 then 2 else 3]), s.2) := by
        intro h4 h5
        unfold pPa
        rw [if_neg e3, if_pos h4, if_neg h5]
      -- not and worn
      have pre : ∀ (v : Nat), (v = if ix (hdt L) = 27 then 31 else 30) → (ix (hdt L) = 27 ∨ ix (hdt L) = 28) → S.length < 5 → kl_X8_readsE_170 (nI ts.length) t cs nm (nI li) (ll_X8_readsE_21 (nI ts.length) t cs nm (nI li) Φ n) Φ (nI q) (nI b) T w td wr (nI c) lf lt cd op cm (nI S.length) 1 1 (nI v) := by
        intro v hv hx h5
        have hg := shal (by omega) (by omega)
        rw [if_neg (by omega), if_neg (by omega), ← hv] at hg
        have hl := hlen _ (by omega) rfl
        have key := opn v 1 (by omega) (fun cd' op' cm' hw hO' ho1 hcm hcm1 => by
          refine hP h5 n (adv L) (c + 1) cd' op' cm' hadv.1 ⟨ho1, hO'⟩ (by omega) (by omega) (fun z => absurd z (by (try dsimp only); decide)) (fun e he => ?_) (fun i p L' he hil hW' n' cd2 op2 cm2 hw2 hO2 hq => ?_)
          · exact (hbad e (by rw [hg, he]; rfl)).mono hw
          · have hf := hgood (v :: i) _ L' (by rw [hg, he]; rfl) (by show i.length + 1 + _ = _; omega) hW' n' cd2 op2 cm2 (hw.app hw2) hO2 ⟨fun j hj => (hq.1 j (by show j < S.length + 1; omega)).trans (hcm j (by omega)), fun _ => (hq.1 S.length (Nat.lt_succ_self _)).trans (hcm _ (Nat.le_refl _)), fun z => absurd z (by (try dsimp only); decide), fun z => absurd z (by (try dsimp only); decide), fun z => absurd z (by (try dsimp only); decide), fun z => absurd z (by (try dsimp only); decide)⟩
            have e9 : c + (v :: i).length = c + 1 + i.length := by rw [List.length_cons]; omega
            rw [e9] at hf
            exact hf) 1 rfl
        have k170 : kl_X8_readsE_170 (nI ts.length) t cs nm (nI li) (ll_X8_readsE_21 (nI ts.length) t cs nm (nI li) Φ n) Φ (nI q) (nI b) T w td wr (nI c) lf lt cd op cm (nI S.length) 1 1 (nI v) := by
          unfold kl_X8_readsE_170
          unfold wl_X8_puts at key ⊢
          exact fun z => ⟨fun y => absurd y (by (try dsimp only); decide), fun _ => key z⟩
        exact k170
      by_cases e28 : ix (hdt L) = 28
      · have k142 : S.length < 5 → kl_X8_readsE_142 (nI ts.length) t cs nm (nI li) (ll_X8_readsE_21 (nI ts.length) t cs nm (nI li) Φ n) Φ (nI q) (nI b) T w td wr (nI c) lf lt cd op cm (nI S.length) 1 1 0 := fun h5 => ⟨fun _ => sq8_word 16 (by decide) rfl h (fun _ => ⟨fun z => absurd z (by (try dsimp only); decide), fun _ => pre 30 (by rw [if_neg (by omega)]) (Or.inr e28) h5⟩) (fun z => absurd e28 z), fun z => absurd rfl z⟩
        have k121 : kl_X8_readsE_121 (nI ts.length) t cs nm (nI li) (ll_X8_readsE_21 (nI ts.length) t cs nm (nI li) Φ n) Φ (nI q) (nI b) T w td wr (nI c) lf lt cd op cm (nI S.length) 1 0 1 0 := by
          refine ⟨fun n5 => ?_, fun e5 => ?_⟩
          · rw [d5] at n5
            exact ⟨fun _ => k142 (by omega), fun z => absurd z (by (try dsimp only); decide)⟩
          · rw [d5] at e5
            exact bad 5 (deep (by omega) (by omega))
        exact sq8_word 16 (by decide) rfl h (fun _ => ⟨fun _ => sq8_sign 40 (by decide) (by decide) hT h (fun e => by have e : ix (hdt L) = 4 := e; omega) (fun _ => ⟨fun z => absurd rfl z, fun _ => ⟨fun _ => ⟨fun _ => k121, fun z => absurd rfl z⟩, fun z => absurd z (by (try dsimp only); decide)⟩⟩), fun z => absurd z (by (try dsimp only); decide)⟩) (fun z => absurd e28 z)
      refine sq8_word 16 (by decide) rfl h (fun z => absurd z e28) (fun _ => ⟨fun z => absurd rfl z, fun _ => ?_⟩)
      by_cases e27 : ix (hdt L) = 27
      · have k142 : S.length < 5 → kl_X8_readsE_142 (nI ts.length) t cs nm (nI li) (ll_X8_readsE_21 (nI ts.length) t cs nm (nI li) Φ n) Φ (nI q) (nI b) T w td wr (nI c) lf lt cd op cm (nI S.length) 1 1 0 := fun h5 => ⟨fun _ => sq8_word 16 (by decide) rfl h (fun z => absurd z e28) (fun _ => ⟨fun _ => pre 31 (by rw [if_pos e27]) (Or.inl e27) h5, fun z => absurd rfl z⟩), fun z => absurd rfl z⟩
        have k121 : kl_X8_readsE_121 (nI ts.length) t cs nm (nI li) (ll_X8_readsE_21 (nI ts.length) t cs nm (nI li) Φ n) Φ (nI q) (nI b) T w td wr (nI c) lf lt cd op cm (nI S.length) 1 0 1 0 := by
          refine ⟨fun n5 => ?_, fun e5 => ?_⟩
          · rw [d5] at n5
            exact ⟨fun _ => k142 (by omega), fun z => absurd z (by (try dsimp only); decide)⟩
          · rw [d5] at e5
            exact bad 5 (deep (by omega) (by omega))
        exact sq8_word 15 (by decide) rfl h (fun _ => ⟨fun z => absurd z (by (try dsimp only); decide), fun _ => sq8_sign 40 (by decide) (by decide) hT h (fun e => by have e : ix (hdt L) = 4 := e; omega) (fun _ => ⟨fun z => absurd rfl z, fun _ => ⟨fun _ => ⟨fun _ => k121, fun z => absurd rfl z⟩, fun z => absurd z (by (try dsimp only); decide)⟩⟩)⟩) (fun z => absurd e27 z)
      refine sq8_word 15 (by decide) rfl h (fun z => absurd z e27) (fun _ => ⟨fun _ => ?_, fun z => absurd rfl z⟩)
      by_cases e4 : ix (hdt L) = 4
      · have k170 : S.length < 5 → kl_X8_readsE_170 (nI ts.length) t cs nm (nI li) (ll_X8_readsE_21 (nI ts.length) t cs nm (nI li) Φ n) Φ (nI q) (nI b) T w td wr (nI c) lf lt cd op cm (nI S.length) 1 0 (nI 28) := by
          intro h5
          have hg := shal (by omega) (by omega)
          rw [if_neg (by omega), if_pos e4] at hg
          have hl := hlen _ (by omega) rfl
          have key := opn 28 2 (by omega) (fun cd' op' cm' hw hO' ho1 hcm hcm1 => by
            refine hE h5 n (adv L) (c + 1) cd' op' cm' hadv.1 ⟨ho1, hO'⟩ (by omega) (by omega) (fun _ => hcm1) (fun e he => ?_) (fun i p L' he hil hW' n' cd2 op2 cm2 hw2 hO2 hq => ?_)
            · exact (hbad e (by rw [hg, he]; rfl)).mono hw
            · have hL' : 1 ≤ L'.length := lpos hW'.ne
              rw [he, bnd_r] at hg
              have hw3 : CW c (28 :: i) cd cd2 := hw.app hw2
              refine re_close hT (by omega) hO2 (by omega) (hq.2.2.1 (by decide)) (hq.2.2.2.1 (by decide)) (hq.2.2.2.2.1 (by decide)) (hq.2.2.2.2.2 rfl) (fun n5 => ?_) (fun e5 n'' cd3 hw4 => ?_)
              · have hb := hbad _ (hg.trans (if_neg n5))
                have := hb.mono hw3
                rw [show c + (28 :: i).length = c + 1 + i.length by rw [List.length_cons]; omega] at this
                exact this
              · have hl5 := hW'.advZ.2.2 (fun z => by have := ix_0.mpr z; omega)
                have hg5 := hg.trans (if_pos e5)
                have hw5 : CW (c + (28 :: i).length) [29] cd2 cd3 := by rw [show c + (28 :: i).length = c + 1 + i.length by rw [List.length_cons]; omega]; exact hw4
                have hf := hgood (28 :: (i ++ [29])) _ (adv L') hg5 (by rw [List.length_cons, List.length_append]; show i.length + 1 + 1 + _ = _; omega) hW'.advZ.1 n'' cd3 op2 cm2 (hw3.app hw5) (OP_pop hO2.2) ⟨fun j hj => (hq.1 j (by show j < S.length + 1; omega)).trans (hcm j (by omega)), fun _ => (hq.1 S.length (Nat.lt_succ_self _)).trans (hcm _ (Nat.le_refl _)), fun z => absurd z (by (try dsimp only); decide), fun z => absurd z (by (try dsimp only); decide), fun z => absurd z (by (try dsimp only); decide), fun z => absurd z (by (try dsimp only); decide)⟩
                rw [show c + (28 :: (i ++ [29])).length = c + 1 + i.length + 1 by rw [List.length_cons, List.length_append]; show c + (i.length + 1 + 1) = _; omega] at hf
                exact hf) 1 rfl
          unfold kl_X8_readsE_170
          unfold wl_X8_puts at key ⊢
          exact fun z => ⟨fun _ => key z, fun y => absurd rfl y⟩
        have k121 : kl_X8_readsE_121 (nI ts.length) t cs nm (nI li) (ll_X8_readsE_21 (nI ts.length) t cs nm (nI li) Φ n) Φ (nI q) (nI b) T w td wr (nI c) lf lt cd op cm (nI S.length) 1 0 0 1 := by
          refine ⟨fun n5 => ?_, fun e5 => ?_⟩
          · rw [d5] at n5
            exact ⟨fun z => absurd rfl z, fun _ => ⟨fun z => absurd z (by (try dsimp only); decide), fun _ => ⟨fun z => absurd z (by (try dsimp only); decide), fun _ => k170 (by omega)⟩⟩⟩
          · rw [d5] at e5
            exact bad 5 (deep (by omega) (by omega))
        exact sq8_sign 40 (by decide) (by decide) hT h (fun _ => ⟨fun z => absurd rfl z, fun _ => ⟨fun z => absurd rfl z, fun _ => ⟨fun _ => ⟨fun _ => k121, fun z => absurd rfl z⟩, fun z => absurd z (by (try dsimp only); decide)⟩⟩⟩) (fun z => absurd e4 z)
      refine sq8_sign 40 (by decide) (by decide) hT h (fun z => absurd z e4) (fun _ => ⟨fun z => absurd rfl z, fun _ => ⟨fun z => absurd rfl z, fun _ => ⟨fun z => absurd rfl z, fun _ => ?_⟩⟩⟩)
      have e2 : T = 2 ↔ (hdt L).1 = 2 := h.tT 2 (by decide)
      refine ⟨fun z => ⟨fun _ => ⟨fun n5 => ?_, fun e5 => ?_⟩, fun z => absurd rfl z⟩, fun z => ?_⟩
      · have k2 := e2.mp z
        have i2 : ix (hdt L) = 2 := by
          unfold ix
          rw [if_neg (by omega), if_neg (by omega), if_pos k2]
        rw [d5] at n5
        refine ⟨fun z => absurd rfl z, fun _ => ⟨fun _ => ⟨fun _ => ?_, fun z => absurd rfl z⟩, fun z => absurd rfl z⟩⟩
        have hn := h.VTZ.numZ k2
        rw [h.CRZ.2.2.2.2.2.2.2.2.1 k2, hn.1, show (100 : Int32) = nI 100 from rfl, nI_add]
        have hv := val (100 + num (hdt L)) _ (by omega) ((shal (by omega) (by omega)).trans (if_pos i2))
        rw [h.CRZ.2.2.2.2.2.2.2.2.1 k2, hn.1] at hv
        exact hv
      · have k2 := e2.mp z
        have i2 : ix (hdt L) = 2 := by
          unfold ix
          rw [if_neg (by omega), if_neg (by omega), if_pos k2]
        rw [d5] at e5
        exact bad 5 (deep (by omega) (by omega))
      · refine bad 1 ?_
        have n2 : ¬ ix (hdt L) = 2 := fun y => z (e2.mpr (ix_2 y))
        unfold pPa
        rw [if_neg e3, if_neg (by omega)]
theorem re_loop {g1 : List Tok → PRs EC} {S : List Bool} {lv c0 K : Nat} {cd0 cm0 : Nat → Int32} (hT : TL ts t) (hS : S.length ≤ 5) (hlv : lv < 4) (hg : SM8 ts t cs nm li Φ lf lt wr g1 S S (lv + 1)) : ∀ (m n : Nat) (L : List Tok) (i p : List Nat) (cd op cm : Nat → Int32), WT L → OP op S → 1000 ≤ c0 → c0 + i.length + L.length ≤ 2000 → i.length + L.length = K → (lv ≠ 1 → L.length ≤ m) → (lv = 1 → m ≤ 1 ∧ (m = 0 → ¬ cm S.length = 0) ∧ (m = 1 → cm S.length = 0)) → (lv = 0 → True) → CW c0 i cd0 cd → QC (lv + 1) S.length cm cm L → (∀ j, j < S.length → cm j = cm0 j) → (2 ≤ lv → cm S.length = cm0 S.length) → (∀ e, pLp g1 lv m ((i, p), L) = .inl e → FL8 Φ lf lt e c0 cd0) → (∀ (i2 p2 : List Nat) (L2 : List Tok), pLp g1 lv m ((i, p), L) = .inr ((i2, p2), L2) → i2.length + L2.length = K → WT L2 → ∀ n' cd' op' cm', CW c0 i2 cd0 cd' → OP op' S → QC lv S.length cm0 cm' L2 → LP8 ts t cs nm li Φ lf lt wr n' S.length L2 (c0 + i2.length) cd' op' cm' 0) → LP8 ts t cs nm li Φ lf lt wr n S.length L (c0 + i.length) cd op cm 0 := by
  intro m
  induction m with
  | zero =>
    intro n L i p cd op cm hW hO hc0 hc hK hm hm1 _ hw hq hj hd hbad hgood
    have hL1 : 1 ≤ L.length := lpos hW.ne
    have e1 : lv = 1 := Classical.byContradiction (fun z => by have := hm z; omega)
    refine hgood i p L rfl hK hW n cd op cm hw hO ⟨hj, hd, fun _ => hq.2.2.1 (by omega), fun _ => hq.2.2.2.1 (by omega), fun _ => Or.inr ((hm1 e1).2.1 rfl), fun z => by omega⟩
  | succ m ih =>
    intro n L i p cd op cm hW hO hc0 hc hK hm hm1 _ hw hq hj hd hbad hgood
    have hL1 : 1 ≤ L.length := lpos hW.ne
    by_cases hl : lvl (hdt L) = lv
    · have hpl : pLp g1 lv (m + 1) ((i, p), L) = bnd (g1 (adv L)) fun s => pLp g1 lv m ((i ++ inf (hdt L) :: s.1.1, p ++ s.1.2 ++ [pof (hdt L)]), s.2) := if_pos hl
      rw [hpl] at hbad hgood
      have hlen := hW.advZ.2.2 (lvl_ne (by omega))
      cases n with
      | zero => exact fun _ _ _ _ _ _ => trivial
      | succ n =>
        refine re_op hT (by omega) hl hlv (fun e => (hm1 e).2.2 (by have := (hm1 e).1; omega)) (by omega) (fun cd1 cm1 hw1 g1' g2 g3 g4 => ?_)
        refine hg n (adv L) (c0 + i.length + 1) cd1 op cm1 hW.advZ.1 hO (by omega) (by omega) (fun z => g4 (by omega)) (fun e he => ?_) (fun i3 p3 L3 he hil hW3 n3 cd3 op3 cm3 hw3 hO3 hq3 => ?_)
        · have := (hbad e (by rw [he]; rfl)).mono (hw.app hw1)
          rw [List.length_append] at this
          exact this
        · have hw9 : CW c0 (i ++ inf (hdt L) :: i3) cd0 cd3 := by
            refine hw.app ?_
            exact hw1.app hw3
          have e9 : c0 + i.length + 1 + i3.length = c0 + (i ++ inf (hdt L) :: i3).length := by rw [List.length_append, List.length_cons]; omega
          rw [he, bnd_r] at hbad hgood
          rw [e9]
          refine ih n3 L3 _ _ cd3 op3 cm3 hW3 hO3 hc0 (by omega) (by rw [List.length_append, List.length_cons]; omega) (fun z => by have := hm z; omega) (fun e => ⟨by have := (hm1 e).1; omega, fun _ => ?_, fun z => by have := (hm1 e).1; omega⟩) (fun _ => trivial) hw9 ⟨fun _ _ => rfl, fun _ => rfl, hq3.2.2.1, hq3.2.2.2.1, hq3.2.2.2.2.1, hq3.2.2.2.2.2⟩ (fun j hj2 => ?_) (fun z => ?_) hbad hgood
          · rw [hq3.2.1 (by omega), g3 e]; decide
          · rw [hq3.1 j hj2, g1' j (by omega)]; exact hj j hj2
          · rw [hq3.2.1 (by omega), g2 z]; exact hd z
    · have hpl : pLp g1 lv (m + 1) ((i, p), L) = .inr ((i, p), L) := if_neg hl
      refine hgood i p L hpl hK hW n cd op cm hw hO ⟨hj, hd, fun _ => ?_, fun _ => ?_, fun _ => ?_, fun z => by rw [z] at hl; exact hl⟩
      · by_cases e : lv = 3
        · rw [e] at hl; exact hl
        · exact hq.2.2.1 (by omega)
      · by_cases e : lv = 2
        · rw [e] at hl; exact hl
        · exact hq.2.2.2.1 (by omega)
      · by_cases e : lv = 1
        · rw [e] at hl; exact Or.inl hl
        · exact hq.2.2.2.2.1 (by omega)
theorem re_sim (hT : TL ts t) (hN : NB cn nm) (hk : cs 1 = nI cn.length) : ∀ N : Nat, (∀ (lv : Nat) (S : List Bool), lv ≤ 4 → S.length ≤ 5 → popN S = S → 6 * (5 - S.length) + 2 + (4 - lv) ≤ N → SM8 ts t cs nm li Φ lf lt wr ((pEP cn N).1 lv S.length) S S lv) ∧ (∀ S : List Bool, S.length ≤ 5 → 6 * (5 - S.length) + 1 ≤ N → SM8 ts t cs nm li Φ lf lt wr ((pEP cn N).2 S.length) S (popN S) 4) := by
  intro N
  induction N with
  | zero => exact ⟨fun lv S _ _ _ h => absurd h (by omega), fun S _ h => absurd h (by omega)⟩
  | succ N ih =>
    refine ⟨fun lv S hlv hS hp hN' => ?_, fun S hS hN' => ?_⟩
    · by_cases h4 : lv < 4
      · have hg : (pEP cn (N + 1)).1 lv S.length = fun L => bnd ((pEP cn N).1 (lv + 1) S.length L) (pLp ((pEP cn N).1 (lv + 1) S.length) lv (if lv = 1 then 1 else 1000)) := by
          funext L
          exact if_pos h4
        rw [hg]
        have h1 := ih.1 (lv + 1) S (by omega) hS hp (by omega)
        intro n L c cd op cm hW hO hc1 hc2 hcm hbad hgood
        refine h1 n L c cd op cm hW hO hc1 hc2 (fun z => hcm (by omega)) (fun e he => hbad e (by show bnd _ _ = _; rw [he]; rfl)) (fun i p L' he hil hW' n' cd' op' cm' hw hO' hq => ?_)
        have hgood : ∀ (i2 p2 : List Nat) (L2 : List Tok), pLp ((pEP cn N).1 (lv + 1) S.length) lv (if lv = 1 then 1 else 1000) ((i, p), L') = .inr ((i2, p2), L2) → _ := fun i2 p2 L2 e2 => hgood i2 p2 L2 (by show bnd _ _ = _; rw [he]; exact e2)
        have hbad : ∀ e, pLp ((pEP cn N).1 (lv + 1) S.length) lv (if lv = 1 then 1 else 1000) ((i, p), L') = .inl e → FL8 Φ lf lt e c cd := fun e e2 => hbad e (by show bnd _ _ = _; rw [he]; exact e2)
        refine re_loop (K := L.length) (cm0 := cm) hT hS h4 h1 _ n' L' i p cd' op' cm' hW' hO' hc1 (by omega) hil (fun z => ?_) (fun z => ?_) (fun _ => trivial) hw ⟨fun _ _ => rfl, fun _ => rfl, hq.2.2.1, hq.2.2.2.1, hq.2.2.2.2.1, hq.2.2.2.2.2⟩ hq.1 (fun z => hq.2.1 (by omega)) hbad hgood
        · rw [if_neg z]; omega
        · rw [if_pos z]
          refine ⟨Nat.le_refl _, fun y => absurd y (by (try dsimp only); decide), fun _ => ?_⟩
          rw [hq.2.1 (by omega)]
          exact hcm (by omega)
      · have hg : (pEP cn (N + 1)).1 lv S.length = (pEP cn N).2 S.length := by
          funext L
          exact if_neg h4
        have e4 : lv = 4 := by omega
        have h2 := ih.2 S hS (by omega)
        rw [hg, e4]
        rw [hp] at h2
        exact h2
    · have h2 := re_part (gE := (pEP cn N).1 0 (S.length + 1)) (gP := (pEP cn N).2 (S.length + 1)) hT hN hk hS (fun h5 => ih.1 0 (false :: S) (by decide) (by show S.length + 1 ≤ 5; omega) rfl (by show 6 * (5 - (S.length + 1)) + 2 + (4 - 0) ≤ N; omega)) (fun h5 => ih.2 (true :: S) (by show S.length + 1 ≤ 5; omega) (by show 6 * (5 - (S.length + 1)) + 1 ≤ N; omega))
      exact h2
/-- readsE does what the expression's reading does -/
theorem sq8_readsEN {N q b c : Nat} {T : Int32} {w : Int64} {td : Int32} {L : List Tok} {cd op cm : Nat → Int32} (h40 : 36 ≤ N) (hT : TL ts t) (hN : NB cn nm) (hk : cs 1 = nI cn.length) (hli : li < 192) (h : RR ts L q b T w td) (hW : WT L) (hc1 : 1000 ≤ c) (hc2 : c + L.length ≤ 2000) (hbad : ∀ e, (pEP cn N).1 0 0 L = .inl e → FL8 Φ (upd lf li (nI c)) lt e c cd) (hgood : ∀ (i p : List Nat) (L' : List Tok), (pEP cn N).1 0 0 L = .inr ((i, p), L') → i.length + L'.length = L.length → WT L' → ∀ (q' b' : Nat) (T' : Int32) (w' : Int64) (td' : Int32) (cd' op' cm' : Nat → Int32), RR ts L' q' b' T' w' td' → CW c i cd cd' → Φ 1 (nI q') (nI b') T' w' td' wr (nI (c + i.length)) (upd lf li (nI c)) (upd lt li (nI (c + i.length))) cd' op' cm') : wl_X8_readsE (nI ts.length) t cs nm (nI li) (nI q) (nI b) T w td wr (nI c) lf lt cd op cm Φ := by
  unfold wl_X8_readsE
  rw [nI_clamp (n := li) (by omega)]
  refine fun _ n => ?_
  refine (re_sim hT hN hk N).1 0 [] (by decide) (by decide) rfl (by show 6 * (5 - 0) + 2 + (4 - 0) ≤ N; omega) n L c cd op _ hW trivial hc1 hc2 (fun _ => by show upd cm 0 _ 0 = 0; rw [pk_us]; exact bo_0) hbad (fun i p L' he hil hW' n' cd' op' cm' hw hO' hq => ?_) q b T w td h
  exact re_end hT hli (hq.2.2.1 (by decide)) (hq.2.2.2.1 (by decide)) (hq.2.2.2.2.1 (by decide)) (hq.2.2.2.2.2 rfl) (fun q' b' T' w' td' h' => hgood i p L' he hil hW' q' b' T' w' td' cd' op' cm' h' hw)
theorem sq8_readsE {q b c : Nat} {T : Int32} {w : Int64} {td : Int32} {L : List Tok} {cd op cm : Nat → Int32} (hT : TL ts t) (hN : NB cn nm) (hk : cs 1 = nI cn.length) (hli : li < 192) (h : RR ts L q b T w td) (hW : WT L) (hc1 : 1000 ≤ c) (hc2 : c + L.length ≤ 2000) (hbad : ∀ e, (pEP cn 40).1 0 0 L = .inl e → FL8 Φ (upd lf li (nI c)) lt e c cd) (hgood : ∀ (i p : List Nat) (L' : List Tok), (pEP cn 40).1 0 0 L = .inr ((i, p), L') → i.length + L'.length = L.length → WT L' → ∀ (q' b' : Nat) (T' : Int32) (w' : Int64) (td' : Int32) (cd' op' cm' : Nat → Int32), RR ts L' q' b' T' w' td' → CW c i cd cd' → Φ 1 (nI q') (nI b') T' w' td' wr (nI (c + i.length)) (upd lf li (nI c)) (upd lt li (nI (c + i.length))) cd' op' cm') : wl_X8_readsE (nI ts.length) t cs nm (nI li) (nI q) (nI b) T w td wr (nI c) lf lt cd op cm Φ := sq8_readsEN (N := 40) (by decide) hT hN hk hli h hW hc1 hc2 hbad hgood
end SM9
