section
section RL8
variable {ts : List Nat} {t : Nat → Int32} {L : List Tok} {q b : Nat} {T td wr : Int32} {w : Int64} {g : PGr}
theorem tX_l {α : Type} {e w : Nat} : tX (.inl e : PRs α) w = .inl e := rfl
theorem pTold_S {ns : List (List Nat)} {c : Nat} {L L' : List Tok} (h : pTold ns L = .inr (c, L')) : L' = L := by
  unfold pTold at h
  split at h
  · split at h
    · cases h
    · exact (Prod.mk.inj (Sum.inr.inj h)).2.symm
  · cases h
theorem up2 {a b c : Nat → Int32} {k : Nat} {x : Int32} : upd a k x k = x := pk_us
theorem sq8_readsInput {ce ip ic il im : Nat → Int32} {cnn : Nat → Int64} {Φ : Int32 → Int32 → Int32 → Int32 → Int64 → Int32 → Int32 → (Nat → Int32) → (Nat → Int32) → (Nat → Int32) → (Nat → Int32) → Prop} (hT : TL ts t) (h : RR ts L q b T w td) (hc : NB (cnm g) cnn) (hce : ce 1 = nI (cnm g).length) (hI : IB 1 g.2.2.1 ip ic il im) (h2 : g.2.2.1.length ≤ 2) (hg : ∀ y ∈ g.2.2.1, y.1 < 6 ∧ y.2.1 ≤ y.2.2 ∧ y.2.2 ≤ 9999) (hm : many g.2.2.1 ≤ 64)
    (bad : ∀ e, tX (pInput g L) 6 = .inl e → ∀ (q' b' T' : Int32) (w' : Int64) (td' : Int32) (ip' ic' il' im' : Nat → Int32), F1 1 ip ip' → F1 2 ic ic' → F1 2 il il' → F1 2 im im' → Φ 0 q' b' T' w' td' (nI e) ip' ic' il' im')
    (good : ∀ g' L', tX (pInput g L) 6 = .inr (g', L') → g'.1 = g.1 → g'.2.1 = g.2.1 → g'.2.2.2 = g.2.2.2 → ∀ (q' b' : Nat) (T' : Int32) (w' : Int64) (td' : Int32) (ip' ic' il' im' : Nat → Int32), RR ts L' q' b' T' w' td' → F1 1 ip ip' → F1 2 ic ic' → F1 2 il il' → F1 2 im im' → IB 1 g'.2.2.1 ip' ic' il' im' → Φ 1 (nI q') (nI b') T' w' td' wr ip' ic' il' im') : wl_X8_readsInput (nI ts.length) t ce cnn (nI q) (nI b) T w td wr ip ic il im Φ := by
  obtain ⟨hip, hii⟩ := hI
  have hc6 := hc.1
  have e2 : nI g.2.2.1.length = 2 ↔ g.2.2.1.length = 2 := nI_eq (a := g.2.2.1.length) (b := 2) (by omega) (by decide)
  have e1' : nI g.2.2.1.length = 1 ↔ g.2.2.1.length = 1 := nI_eq (a := g.2.2.1.length) (b := 1) (by omega) (by decide)
  unfold wl_X8_readsInput
  rw [hip, e2, show (2 : Int32) = nI 2 from rfl, nI_add, nI_clamp (n := 2 + g.2.2.1.length) (by omega)]
  refine ⟨fun n2 => ?_, fun y2 => ?_⟩
  · have hp : pInput g L = bnd (sq0 (sq0 (sq1 (tN (sq0 (sq0 (sq1 (.inr ((), adv L)) fun _ => pTold (cnm g)) fun a => pIf (decide (a.2 ∈ g.2.2.1.map (fun y => y.1))) 3) fun _ => pAdv) (fun _ => 0) (fun _ => 9999)) fun a => pNum a.2 9999) fun a => pIf (decide (64 < (a.2 - a.1.2 + 1) * many g.2.2.1)) 5) fun _ => pAdv) fun y => .inr ((g.1, g.2.1, g.2.2.1 ++ [(y.1.1.1.2, y.1.1.2, y.1.2)], g.2.2.2), y.2) := if_neg (by omega)
    have u2 : ∀ (a : Nat → Int32) (x : Int32), F1 2 a (upd a (2 + g.2.2.1.length) x) := fun a x => F1.up (by omega) (by omega)
    refine sq8_next hT h (fun q1 b1 T1 w1 td1 h1 => ?_)
    refine sq8_told h1 hc hce (fun he => ?_) (fun he => ?_) (fun j hj hjl => ?_)
    · show ((0 : Int32) = 0 ∨ (0 : Int32) = 1) → _
      have e1 : (1 : Int32) + 16 * nI b1 = nI (flt 1 (adv L)) := h1.fltZ 1
      rw [e1]
      refine fun _ => bad _ ?_ _ _ _ _ _ _ _ _ _ F1.rf F1.rf F1.rf F1.rf
      rw [hp]; simp [tN, tX, tW, sq0, sq1, bnd, pAdv, he]
    · rw [pk_us]
      refine fun _ _ => ⟨fun y => absurd y (by (try dsimp only); decide), fun _ => ?_⟩
      show ((0 : Int32) = 0 ∨ (0 : Int32) = 1) → _
      have e1 : nI 2 + 16 * nI b1 = nI (flt 2 (adv L)) := h1.fltZ 2
      rw [e1]
      refine fun _ => bad _ ?_ _ _ _ _ _ _ _ _ _ F1.rf (u2 _ _) F1.rf F1.rf
      rw [hp]; simp [tN, tX, tW, sq0, sq1, bnd, pAdv, he]
    · rw [pk_us, e1']
      refine fun _ _ => ⟨fun _ => ?_, fun y => absurd (nI_pos' (n := j) (by omega)) y⟩
      -- behind the cell, which has no input yet
      have k98 : ¬ j ∈ g.2.2.1.map (fun y => y.1) → kl_X8_readsInput_98 (nI ts.length) t ce cnn Φ (nI q1) (nI b1) T1 w1 td1 wr ip (upd ic (2 + g.2.2.1.length) (nI j)) il im (nI (2 + g.2.2.1.length)) := by
        intro hnj
        unfold kl_X8_readsInput_98
        rw [hip, e1', nI_clamp (n := 2 + g.2.2.1.length) (by omega)]
        refine sq8_next hT h1 (fun q3 b3 T3 w3 td3 h3 => ?_)
        have dj : decide (j ∈ g.2.2.1.map (fun y => y.1)) = false := decide_eq_false hnj
        refine sq8_needsNumber (lo := 0) (hi := 9999) (by decide) (by decide) h3 (fun e he => ⟨fun z => absurd rfl z, fun _ => bad e ?_ _ _ _ _ _ _ _ _ _ F1.rf (u2 _ _) F1.rf F1.rf⟩) (fun n4 hn4 htd4 _ _ hb4 => ⟨fun _ _ => ?_, fun z => absurd z (by (try dsimp only); decide)⟩)
        · rw [hp]; simp only [tN, tX, tW, sq0, sq1, bnd, pAdv, hj, pIf, dj, he, Bool.false_eq_true, if_false, if_true] <;> rfl
        refine sq8_next hT h3 (fun q5 b5 T5 w5 td5 h5 => fun _ => ?_)
        rw [pk_us, htd4]
        refine sq8_needsNumber (lo := n4) (hi := 9999) (by omega) (by decide) h5 (fun e he => ⟨fun z => absurd rfl z, fun _ => bad e ?_ _ _ _ _ _ _ _ _ _ F1.rf (u2 _ _) (u2 _ _) F1.rf⟩) (fun n6 hn6 htd6 hle _ hb6 => ⟨fun _ _ _ => ?_, fun z => absurd z (by (try dsimp only); decide)⟩)
        · rw [hp]; simp only [tN, tX, tW, sq0, sq1, bnd, pAdv, hj, pIf, dj, hn4, he, Bool.false_eq_true, if_false, if_true] <;> rfl
        -- whether it is too many
        have k201 : kl_X8_readsInput_201 (nI ts.length) t ce cnn Φ (nI q5) (nI b5) T5 w5 td5 wr ip (upd ic (2 + g.2.2.1.length) (nI j)) (upd il (2 + g.2.2.1.length) (nI n4)) (upd im (2 + g.2.2.1.length) (nI n6)) (nI (many g.2.2.1)) (nI (n6 - n4 + 1)) := by
          unfold kl_X8_readsInput_201
          have hb : (n6 - n4 + 1) * many g.2.2.1 ≤ 10000 * 64 := Nat.mul_le_mul (by omega) hm
          have e64 : nI (n6 - n4 + 1) * nI (many g.2.2.1) ≤ 64 ↔ (n6 - n4 + 1) * many g.2.2.1 ≤ 64 := by
            rw [pk_mul]
            exact nI_leI (b := 64) (by omega) (by decide)
          rw [e64, hip, nI_1]
          refine ⟨fun y64 => ?_, fun n64 => ?_⟩
          · have d64 : decide (64 < (n6 - n4 + 1) * many g.2.2.1) = false := decide_eq_false (by omega)
            refine sq8_next hT h5 (fun q8 b8 T8 w8 td8 h8 => ?_)
            have fi : F1 1 ip (upd ip 1 (nI (g.2.2.1.length + 1))) := F1.up (by omega) (by omega)
            refine sq8_ends hT h8 (fun e he => fun _ => bad e ?_ _ _ _ _ _ _ _ _ _ fi (u2 _ _) (u2 _ _) (u2 _ _)) (fun s9 q9 b9 T9 w9 td9 h9 => fun _ => good (g.1, g.2.1, g.2.2.1 ++ [(j, n4, n6)], g.2.2.2) (adv (adv (adv (adv (adv L))))) ?_ rfl rfl rfl _ _ _ _ _ _ _ _ _ h9 fi (u2 _ _) (u2 _ _) (u2 _ _) ⟨?_, fun i y hi => ?_⟩)
            · rw [hp]; simp only [tN, tX, tW, sq0, sq1, bnd, pAdv, hj, pIf, dj, hn4, hn6, d64, Bool.false_eq_true, if_false]; simp [he]
            · rw [hp]; simp only [tN, tX, tW, sq0, sq1, bnd, pAdv, hj, pIf, dj, hn4, hn6, d64, Bool.false_eq_true, if_false]; simp [s9]
            · show upd ip 1 _ 1 = nI (g.2.2.1 ++ [_]).length
              rw [pk_us, List.length_append]; rfl
            · rcases app_get hi with g9 | ⟨e, e2⟩
              · have := get_lt g9
                rw [pk_un (by omega), pk_un (by omega), pk_un (by omega)]
                exact hii i y g9
              · rw [e, show 2 * 1 + g.2.2.1.length = 2 + g.2.2.1.length by omega, pk_us, pk_us, pk_us, e2]
                exact ⟨rfl, rfl, rfl⟩
          · have d64 : decide (64 < (n6 - n4 + 1) * many g.2.2.1) = true := decide_eq_true (by omega)
            show ((0 : Int32) = 0 ∨ (0 : Int32) = 1) → _
            have e1 : (5 : Int32) + 16 * nI b5 = nI (flt 5 (adv (adv (adv L)))) := h5.fltZ 5
            rw [e1]
            refine fun _ => bad _ ?_ _ _ _ _ _ _ _ _ _ F1.rf (u2 _ _) (u2 _ _) (u2 _ _)
            rw [hp]; simp only [tN, tX, tW, sq0, sq1, bnd, pAdv, hj, pIf, dj, hn4, hn6, d64, Bool.false_eq_true, if_false, if_true] <;> rfl
        rw [htd6, pk_sub hle, nI_1]
        refine ⟨fun n1 => ?_, fun y1 => ?_⟩
        · have e0 : g.2.2.1 = [] := List.eq_nil_of_length_eq_zero (by omega)
          have em : many g.2.2.1 = 1 := by rw [e0]; rfl
          rw [em] at k201
          rw [htd6] at k201
          exact k201
        · obtain ⟨z, ez⟩ : ∃ z, g.2.2.1 = [z] := by
            match hgl : g.2.2.1, y1 with
            | [z], _ => exact ⟨z, rfl⟩
          have em : many g.2.2.1 = z.2.2 - z.2.1 + 1 := by rw [ez]; show 1 * _ = _; rw [Nat.one_mul]
          have hz := hii 0 z (by rw [ez]; rfl)
          have hzb := hg z (by rw [ez]; exact List.mem_singleton.mpr rfl)
          rw [pk_un (show 2 ≠ 2 + g.2.2.1.length by omega), pk_un (show 2 ≠ 2 + g.2.2.1.length by omega)]
          have i0 : il 2 = nI z.2.1 := hz.2.1
          have i1 : im 2 = nI z.2.2 := hz.2.2
          rw [i0, i1, pk_sub hzb.2.1, nI_1, ← em]
          rw [htd6] at k201
          exact k201
      refine ⟨fun n1 => k98 ?_, fun y1 => fun _ => ?_⟩
      · have e0 : g.2.2.1 = [] := List.eq_nil_of_length_eq_zero (by omega)
        rw [e0]
        intro hm
        cases hm
      · obtain ⟨z, ez⟩ : ∃ z, g.2.2.1 = [z] := by
          match hgl : g.2.2.1, y1 with
          | [z], _ => exact ⟨z, rfl⟩
        have hz := hii 0 z (by rw [ez]; rfl)
        have hzb := hg z (by rw [ez]; exact List.mem_singleton.mpr rfl)
        rw [pk_un (show 2 ≠ 2 + g.2.2.1.length by omega)]
        have i0 : ic 2 = nI z.1 := hz.1
        have ij : nI z.1 = nI j ↔ z.1 = j := nI_eq (by omega) (by omega)
        have em : (j ∈ g.2.2.1.map (fun y => y.1)) ↔ z.1 = j := by
          rw [ez]
          exact ⟨fun hm => (List.mem_singleton.mp hm).symm, fun e => List.mem_singleton.mpr e.symm⟩
        rw [i0, ij]
        refine ⟨fun n => k98 (fun hm => n (em.mp hm)), fun y => ?_⟩
        show ((0 : Int32) = 0 ∨ (0 : Int32) = 1) → _
        have e1 : (3 : Int32) + 16 * nI b1 = nI (flt 3 (adv L)) := h1.fltZ 3
        rw [e1]
        refine fun _ => bad _ ?_ _ _ _ _ _ _ _ _ _ F1.rf (u2 _ _) F1.rf F1.rf
        have dj : decide (j ∈ g.2.2.1.map (fun y => y.1)) = true := decide_eq_true (em.mpr y)
        rw [hp]; simp only [tN, tX, tW, sq0, sq1, bnd, pAdv, hj, pIf, dj, Bool.false_eq_true, if_false, if_true] <;> rfl
  · have hp : pInput g L = .inl (flt 5 L) := if_pos (by omega)
    show ((0 : Int32) = 0 ∨ (0 : Int32) = 1) → _
    have e1 : (5 : Int32) + 16 * nI b = nI (flt 5 L) := h.fltZ 5
    rw [e1]
    exact fun _ => bad _ (by rw [hp]; rfl) _ _ _ _ _ _ _ _ _ F1.rf F1.rf F1.rf F1.rf
theorem sq8_needsCell {ce aC : Nat → Int32} {cnn : Nat → Int64} {cn : List (List Nat)} {l : Nat} {Φ : Int32 → Int32 → Int32 → Int32 → Int64 → Int32 → Int32 → (Nat → Int32) → Prop} (hl : l < 96) (hT : TL ts t) (h : RR ts L q b T w td) (hc : NB cn cnn) (hce : ce 1 = nI cn.length) (bad : ∀ e, pTold cn L = .inl e → ∀ aC', (∀ j, j ≠ l → aC' j = aC j) → Φ 0 (nI q) (nI b) T w td (nI e) aC') (good : ∀ j, pTold cn L = .inr (j, L) → j < cn.length → ∀ (q' b' : Nat) (T' : Int32) (w' : Int64) (td' : Int32), RR ts (adv L) q' b' T' w' td' → Φ 1 (nI q') (nI b') T' w' td' wr (upd aC l (nI j))) : wl_X8_needsCell (nI ts.length) t ce cnn (nI l) (nI q) (nI b) T w td wr aC Φ := by
  have h6 := hc.1
  unfold wl_X8_needsCell
  rw [nI_clamp (n := l) (by omega)]
  refine sq8_told h hc hce (fun he => ?_) (fun he => ?_) (fun j hj hjl => ?_)
  · show ((0 : Int32) = 0 ∨ (0 : Int32) = 1) → _
    have e1 : (1 : Int32) + 16 * nI b = nI (flt 1 L) := h.fltZ 1
    rw [e1]
    exact fun _ => bad _ he _ (fun _ _ => rfl)
  · rw [pk_us]
    refine fun _ _ => ⟨fun y => absurd y (by (try dsimp only); decide), fun _ => ?_⟩
    show ((0 : Int32) = 0 ∨ (0 : Int32) = 1) → _
    have e1 : (2 : Int32) + 16 * nI b = nI (flt 2 L) := h.fltZ 2
    rw [e1]
    exact fun _ => bad _ he _ (fun j hj => pk_un hj)
  · rw [pk_us]
    exact fun _ _ => ⟨fun _ => sq8_next hT h (fun q' b' T' w' td' h' => good j hj hjl q' b' T' w' td' h'), fun y => absurd (nI_pos' (n := j) (by omega)) y⟩
/-- nothing is changed but at k -/
def KO (k : Nat) (a a' : Nat → Int32) : Prop := ∀ j, j ≠ k → a' j = a j
def KO2 (k : Nat) (a a' : Nat → Int32) : Prop := ∀ j, j ≠ 2 * k → j ≠ 2 * k + 1 → a' j = a j
/-- codes: nothing is changed below c, nor from 2000 on -/
def KC (c : Nat) (cd cd' : Nat → Int32) : Prop := ∀ j, j < c ∨ 2000 ≤ j → cd' j = cd j
theorem CW.kc {c : Nat} {i : List Nat} {cd cd' : Nat → Int32} (h : CW c i cd cd') : KC c cd cd' := fun j hj => hj.elim (h.1 j) (h.2.2 j)
/-- the codes of an expression of the line l, read from c on -/
def EL9 (k c : Nat) (i : List Nat) (lf lt cd : Nat → Int32) : Prop := lf k = nI c ∧ lt k = nI (c + i.length) ∧ ∀ j x, i[j]? = some x → cd (c + j) = nI x
abbrev PA8 : Type := Int32 → Int32 → Int32 → Int32 → Int64 → Int32 → Int32 → Int32 → (Nat → Int32) → (Nat → Int32) → (Nat → Int32) → (Nat → Int32) → (Nat → Int32) → (Nat → Int32) → (Nat → Int32) → Prop
theorem act_of {Φ : Int32 → Prop} (h : RR ts L q b T w td) (h1 : ∀ a, a ≤ 6 → ix (hdt L) = 20 + a → Φ (nI a)) (h0 : ¬ (20 ≤ ix (hdt L) ∧ ix (hdt L) ≤ 26) → Φ (-1)) : wl_X8_actAt T w Φ := by
  refine sq8_word 8 (by decide) rfl h (fun e => ⟨fun z => absurd z (by (try dsimp only); decide), fun _ => h1 0 (by decide) e⟩) (fun n0 => ⟨fun _ => ?_, fun z => absurd rfl z⟩)
  refine sq8_word 9 (by decide) rfl h (fun e => ⟨fun z => absurd z (by (try dsimp only); decide), fun _ => h1 1 (by decide) e⟩) (fun n1 => ⟨fun _ => ?_, fun z => absurd rfl z⟩)
  refine sq8_word 10 (by decide) rfl h (fun e => ⟨fun z => absurd z (by (try dsimp only); decide), fun _ => h1 2 (by decide) e⟩) (fun n2 => ⟨fun _ => ?_, fun z => absurd rfl z⟩)
  refine sq8_word 11 (by decide) rfl h (fun e => ⟨fun z => absurd z (by (try dsimp only); decide), fun _ => h1 3 (by decide) e⟩) (fun n3 => ⟨fun _ => ?_, fun z => absurd rfl z⟩)
  refine sq8_word 12 (by decide) rfl h (fun e => ⟨fun z => absurd z (by (try dsimp only); decide), fun _ => h1 4 (by decide) e⟩) (fun n4 => ⟨fun _ => ?_, fun z => absurd rfl z⟩)
  refine sq8_word 13 (by decide) rfl h (fun e => ⟨fun z => absurd z (by (try dsimp only); decide), fun _ => h1 5 (by decide) e⟩) (fun n5 => ⟨fun _ => ?_, fun z => absurd rfl z⟩)
  exact sq8_word 14 (by decide) rfl h (fun e => ⟨fun z => absurd z (by (try dsimp only); decide), fun _ => h1 6 (by decide) e⟩) (fun n6 => ⟨fun _ => h0 (by omega), fun z => absurd rfl z⟩)
/-- what readsAct leaves where the line is well told: cell, expressions -/
def AG8 (cn : List (List Nat)) (l c a : Nat) (y : Nat × EC × EC) (c' : Nat) (ac' aC' lf' lt' cd' : Nat → Int32) : Prop := ac' l = nI a ∧ ((a = 0 ∨ a = 4) → aC' l = nI y.1) ∧ (a ≠ 6 → EL9 (2 * l) c y.2.1.1 lf' lt' cd') ∧ ((a = 3 ∨ a = 5) → EL9 (2 * l + 1) (c + y.2.1.1.length) y.2.2.1 lf' lt' cd') ∧ c' = c + y.2.1.1.length + y.2.2.1.length
theorem sq8_readsAct {ce : Nat → Int32} {cnn : Nat → Int64} {cn : List (List Nat)} {l c : Nat} {ac aC lf lt cd op cm : Nat → Int32} {Φ : PA8} (hT : TL ts t) (h : RR ts L q b T w td) (hW : WT L) (hc : NB cn cnn) (hce : ce 1 = nI cn.length) (hl : l < 96) (hc1 : 1000 ≤ c) (hc2 : c + L.length ≤ 2000)
    (bad : ∀ e, tA (.inr ((), L) : PRs Unit) cn = .inl e → ∀ (q' b' T' : Int32) (w' : Int64) (td' c' : Int32) (ac' aC' lf' lt' cd' op' cm' : Nat → Int32), KO l ac ac' → KO l aC aC' → KO2 l lf lf' → KO2 l lt lt' → KC c cd cd' → Φ 0 q' b' T' w' td' (nI e) c' ac' aC' lf' lt' cd' op' cm')
    (good : ∀ y L', tA (.inr ((), L) : PRs Unit) cn = .inr (((), ix (hdt L) - 20, y), L') → 20 ≤ ix (hdt L) → ix (hdt L) ≤ 26 → ∀ (q' b' : Nat) (T' : Int32) (w' : Int64) (td' : Int32) (c' : Nat) (ac' aC' lf' lt' cd' op' cm' : Nat → Int32), RR ts L' q' b' T' w' td' → WT L' → c' + L'.length ≤ c + L.length → KO l ac ac' → KO l aC aC' → KO2 l lf lf' → KO2 l lt lt' → KC c cd cd' → AG8 cn l c (ix (hdt L) - 20) y c' ac' aC' lf' lt' cd' → Φ 1 (nI q') (nI b') T' w' td' wr (nI c') ac' aC' lf' lt' cd' op' cm') : wl_X8_readsAct (nI ts.length) t ce cnn (nI l) (nI q) (nI b) T w td wr (nI c) ac aC lf lt cd op cm Φ := by
  unfold wl_X8_readsAct
  have e2l : (2 : Int32) * nI l = nI (2 * l) := by rw [show (2 : Int32) = nI 2 from rfl, pk_mul]
  rw [e2l, nI_1, nI_clamp (n := l) (by omega), nI_clamp (n := 2 * l) (by omega), nI_clamp (n := 2 * l + 1) (by omega)]
  refine act_of h (fun a ha hx => ⟨fun _ _ _ _ _ _ _ => ?_, fun y => absurd (nI_pos' (n := a) (by omega)) y⟩) (fun hno => ⟨fun y => absurd y (by (try dsimp only); decide), fun _ => ?_⟩)
  · have ea : ix (hdt L) - 20 = a := by omega
    have hq : tA (.inr ((), L) : PRs Unit) cn = bnd (pAct cn a (.inr ((), adv L) : PRs Unit)) fun y => .inr (((), a, y.1.2), y.2) := by
      have : tA (.inr ((), L) : PRs Unit) cn = bnd (pAct cn (ix (hdt L) - 20) (.inr ((), adv L) : PRs Unit)) fun y => .inr (((), ix (hdt L) - 20, y.1.2), y.2) := if_pos ⟨by dsimp only; omega, by dsimp only; omega⟩
      rw [ea] at this
      exact this
    have good := fun y L' e => good y L' e (by omega) (by omega)
    rw [ea] at good
    have hne : ¬ (hdt L).1 = 0 := fun z => by rw [ix_0.mpr z] at hx; omega
    have hlen := hW.advZ.2.2 hne
    have hWa := hW.advZ.1
    have k2 : ∀ (f : Nat → Int32) (x : Int32), KO2 l f (upd (upd f (2 * l) x) (2 * l + 1) x) := fun f x j h1 h2 => by rw [pk_un h2, pk_un h1]
    have k1 : ∀ (f : Nat → Int32) (x : Int32), KO l f (upd f l x) := fun f x j h1 => pk_un h1
    have aI : ∀ j : Nat, j < 100 → (nI a = nI j ↔ a = j) := fun j hj => nI_eq (by omega) (by omega)
    have a0 : nI a = 0 ↔ a = 0 := aI 0 (by decide)
    have a3 : nI a = 3 ↔ a = 3 := aI 3 (by decide)
    have a4 : nI a = 4 ↔ a = 4 := aI 4 (by decide)
    have a5 : nI a = 5 ↔ a = 5 := aI 5 (by decide)
    have a6 : nI a = 6 ↔ a = 6 := aI 6 (by decide)
    refine sq8_next hT h (fun q1 b1 T1 w1 td1 h1 => ⟨fun n6 => ?_, fun y6 => ?_⟩)
    · rw [a6] at n6
      -- from the first expression on, at the tokens M, with the cell x already told (act 0)
      have k107 : ∀ (M : List Tok) (x : Nat) (aC1 : Nat → Int32) (q2 b2 : Nat) (T2 : Int32) (w2 : Int64) (td2 : Int32), RR ts M q2 b2 T2 w2 td2 → WT M → M.length ≤ (adv L).length → KO l aC aC1 → (a = 0 → aC1 l = nI x) →
          pAct cn a (.inr ((), adv L) : PRs Unit) = bnd ((pEP cn 40).1 0 0 M) (fun e => if a = 3 ∨ a = 5 then bnd (tE (tX (.inr (((), e.1), e.2) : PRs (Unit × EC)) (if a = 3 then 22 else 19)) cn) fun y => .inr ((y.1.1.1, 0, y.1.1.2, y.1.2), y.2) else if a = 4 then bnd (tO (tX (.inr (((), e.1), e.2) : PRs (Unit × EC)) 18) cn) fun y => .inr ((y.1.1.1, y.1.2, y.1.1.2, ([], [])), y.2) else .inr (((), (if a = 0 then x else 0), e.1, ([], [])), e.2)) →
          kl_X8_readsAct_107 (nI ts.length) t ce cnn (nI l) Φ (nI q2) (nI b2) T2 w2 td2 wr (nI c) (upd ac l (nI a)) aC1 (upd (upd lf (2 * l) (nI c)) (2 * l + 1) (nI c)) (upd (upd lt (2 * l) (nI c)) (2 * l + 1) (nI c)) cd op cm (nI a) := by
        intro M x aC1 q2 b2 T2 w2 td2 h2 hWM hML hkC haC hpa
        unfold kl_X8_readsAct_107
        rw [e2l, nI_1]
        refine sq8_readsE (cn := cn) hT hc hce (by omega) h2 hWM hc1 (by omega) (fun e he => ?_) (fun i p L3 he hil hW3 q3 b3 T3 w3 td3 cd3 op3 cm3 h3 hw3 => ?_)
        · refine fun q' b' T' w' td' c' cd' op' cm' hf => ⟨fun z => absurd rfl z, fun _ => ?_⟩
          refine bad e ?_ _ _ _ _ _ _ _ _ _ _ _ _ _ (k1 _ _) hkC (fun j h1 h2 => by rw [pk_un h1]; exact k2 _ _ j h1 h2) (k2 _ _) hf
          rw [hq, hpa, he]
          rfl
        · have hlf : KO2 l lf (upd (upd (upd lf (2 * l) (nI c)) (2 * l + 1) (nI c)) (2 * l) (nI c)) := fun j h1 h2 => by rw [pk_un h1]; exact k2 _ _ j h1 h2
          have hlt : KO2 l lt (upd (upd (upd lt (2 * l) (nI c)) (2 * l + 1) (nI c)) (2 * l) (nI (c + i.length))) := fun j h1 h2 => by rw [pk_un h1]; exact k2 _ _ j h1 h2
          have el1 : ∀ (cd' : Nat → Int32), (∀ j, j < c + i.length → cd' j = cd3 j) → ∀ (u v : Nat → Int32), u (2 * l) = nI c → v (2 * l) = nI (c + i.length) → EL9 (2 * l) c i u v cd' := fun cd' hcd u v hu hv => ⟨hu, hv, fun j x hj => by rw [hcd _ (by have := get_lt hj; omega)]; exact hw3.2.1 j x hj⟩
          refine ⟨fun _ => ⟨fun n3 => ⟨fun n5 => ⟨fun n4 => ?_, fun y4 => ?_⟩, fun y5 => ?_⟩, fun y3 => ?_⟩, fun z => absurd z (by (try dsimp only); decide)⟩
          · rw [a3] at n3
            rw [a5] at n5
            rw [a4] at n4
            have hf : pAct cn a (.inr ((), adv L) : PRs Unit) = .inr (((), (if a = 0 then x else 0), (i, p), ([], [])), L3) := by rw [hpa, he, bnd_r, if_neg (by omega), if_neg n4]
            refine good _ L3 (by rw [hq, hf]; rfl) _ _ _ _ _ _ _ _ _ _ _ _ _ h3 hW3 (by omega) (k1 _ _) hkC hlf hlt hw3.kc ⟨pk_us, fun z => ?_, fun _ => el1 _ (fun _ _ => rfl) _ _ pk_us pk_us, fun z => by omega, rfl⟩
            have z0 : a = 0 := by omega
            show aC1 l = nI (if a = 0 then x else 0)
            rw [if_pos z0]
            exact haC z0
          · rw [a4] at y4
            have hgd4 := fun z L4 (e : tO (tX (.inr (((), (i, p)), L3) : PRs (Unit × EC)) 18) cn = .inr (z, L4)) => (show pAct cn a (.inr ((), adv L) : PRs Unit) = .inr ((z.1.1, z.2, z.1.2, ([], [])), L4) from by rw [hpa, he, bnd_r, if_neg (by omega), if_pos y4, e]; rfl)
            have hbd4 := fun e2 (e : tO (tX (.inr (((), (i, p)), L3) : PRs (Unit × EC)) 18) cn = .inl e2) => (show pAct cn a (.inr ((), adv L) : PRs Unit) = .inl e2 from by rw [hpa, he, bnd_r, if_neg (by omega), if_pos y4, e]; rfl)
            have fb : ∀ e, pAct cn a (.inr ((), adv L) : PRs Unit) = .inl e → ∀ (q' b' T' : Int32) (w' : Int64) (td' : Int32) (aC2 : Nat → Int32), KO l aC aC2 → Φ 0 q' b' T' w' td' (nI e) (nI (c + i.length)) (upd ac l (nI a)) aC2 _ _ cd3 op3 cm3 := fun e hpe q' b' T' w' td' aC2 hk2 => bad e (by rw [hq, hpe]; rfl) _ _ _ _ _ _ _ _ _ _ _ _ _ (k1 _ _) hk2 hlf hlt hw3.kc
            refine sq8_needsWord 6 (by decide) rfl hT h3 (fun e hs => ⟨fun _ => fb e (hbd4 e ?_) _ _ _ _ _ _ hkC, fun z => absurd rfl z⟩) (fun s4 q4 b4 T4 w4 td4 h4 => ⟨fun z => absurd z (by (try dsimp only); decide), fun _ => ?_⟩)
            · simp [tO, tX, sq0, sq1, bnd, pAdv, hs]
            refine sq8_needsCell hl hT h4 hc hce (fun e hs aC2 hk2 => ⟨fun _ => fb e (hbd4 e ?_) _ _ _ _ _ _ (fun j hj => (hk2 j hj).trans (hkC j hj)), fun z => absurd rfl z⟩) (fun j hj hjl q5 b5 T5 w5 td5 h5 => ⟨fun z => absurd z (by (try dsimp only); decide), fun _ => ?_⟩)
            · simp [tO, tX, sq0, sq1, bnd, pAdv, s4, hs]
            have hW4 := hW3.advZ.1
            have l4 := adv_le L3
            have l5 := adv_le (adv L3)
            have hf := hgd4 (((), (i, p)), j) (adv (adv L3)) (by simp [tO, tX, sq0, sq1, bnd, pAdv, s4, hj])
            refine good _ _ (by rw [hq, hf]; rfl) _ _ _ _ _ _ _ _ _ _ _ _ _ h5 hW4.advZ.1 (by omega) (k1 _ _) (fun j' hj' => (pk_un hj').trans (hkC j' hj')) hlf hlt hw3.kc ⟨pk_us, fun _ => pk_us, fun _ => el1 _ (fun _ _ => rfl) _ _ pk_us pk_us, fun z => by omega, rfl⟩
          · rw [a5] at y5
            have n3' : ¬ a = 3 := by omega
            have hgd5 := fun z L4 (e : tE (tX (.inr (((), (i, p)), L3) : PRs (Unit × EC)) 19) cn = .inr (z, L4)) => (show pAct cn a (.inr ((), adv L) : PRs Unit) = .inr ((z.1.1, 0, z.1.2, z.2), L4) from by rw [hpa, he, bnd_r, if_pos (Or.inr y5), if_neg n3', e]; rfl)
            have hbd5 := fun e2 (e : tE (tX (.inr (((), (i, p)), L3) : PRs (Unit × EC)) 19) cn = .inl e2) => (show pAct cn a (.inr ((), adv L) : PRs Unit) = .inl e2 from by rw [hpa, he, bnd_r, if_pos (Or.inr y5), if_neg n3', e]; rfl)
            refine sq8_needsWord 7 (by decide) rfl hT h3 (fun e hs => ⟨fun _ => bad e (by rw [hq, hbd5 e (by simp [tE, tX, sq0, sq1, bnd, pAdv, hs])]; rfl) _ _ _ _ _ _ _ _ _ _ _ _ _ (k1 _ _) hkC hlf hlt hw3.kc, fun z => absurd rfl z⟩) (fun s4 q4 b4 T4 w4 td4 h4 => ⟨fun z => absurd z (by (try dsimp only); decide), fun _ => ?_⟩)
            have hW4 := hW3.advZ.1
            have l4 := adv_le L3
            refine sq8_readsE (cn := cn) hT hc hce (by omega) h4 hW4 (by omega) (by omega) (fun e he5 => ?_) (fun i5 p5 L5 he5 hil5 hW5 q5 b5 T5 w5 td5 cd5 op5 cm5 h5 hw5 => ?_)
            · refine fun q' b' T' w' td' c' cd' op' cm' hf => ⟨fun _ => ?_, fun z => absurd rfl z⟩
              exact bad e (by rw [hq, hbd5 e (by simp [tE, tX, sq0, sq1, bnd, pAdv, s4, he5])]; rfl) _ _ _ _ _ _ _ _ _ _ _ _ _ (k1 _ _) hkC (fun j h1 h2 => by rw [pk_un h2]; exact hlf j h1 h2) hlt (fun j hj => (hf j (by omega)).trans (hw3.kc j hj))
            · refine ⟨fun z => absurd z (by (try dsimp only); decide), fun _ => ?_⟩
              have hf := hgd5 (((), (i, p)), (i5, p5)) L5 (by simp [tE, tX, sq0, sq1, bnd, pAdv, s4, he5])
              refine good _ _ (by rw [hq, hf]; rfl) _ _ _ _ _ _ _ _ _ _ _ _ _ h5 hW5 (by omega) (k1 _ _) hkC (fun j h1 h2 => by rw [pk_un h2]; exact hlf j h1 h2) (fun j h1 h2 => by rw [pk_un h2]; exact hlt j h1 h2) (fun j hj => (hw5.kc j (by omega)).trans (hw3.kc j hj)) ⟨pk_us, fun z => by omega, fun _ => el1 _ (fun j hj => hw5.1 j hj) _ _ ?_ ?_, fun _ => ⟨pk_us, pk_us, fun j x hj => hw5.2.1 j x hj⟩, rfl⟩
              all_goals (rw [pk_un (by omega)]; exact pk_us)
          · rw [a3] at y3
            have hgd5 := fun z L4 (e : tE (tX (.inr (((), (i, p)), L3) : PRs (Unit × EC)) 22) cn = .inr (z, L4)) => (show pAct cn a (.inr ((), adv L) : PRs Unit) = .inr ((z.1.1, 0, z.1.2, z.2), L4) from by rw [hpa, he, bnd_r, if_pos (Or.inl y3), if_pos y3, e]; rfl)
            have hbd5 := fun e2 (e : tE (tX (.inr (((), (i, p)), L3) : PRs (Unit × EC)) 22) cn = .inl e2) => (show pAct cn a (.inr ((), adv L) : PRs Unit) = .inl e2 from by rw [hpa, he, bnd_r, if_pos (Or.inl y3), if_pos y3, e]; rfl)
            refine sq8_needsWord 10 (by decide) rfl hT h3 (fun e hs => ⟨fun _ => bad e (by rw [hq, hbd5 e (by simp [tE, tX, sq0, sq1, bnd, pAdv, hs])]; rfl) _ _ _ _ _ _ _ _ _ _ _ _ _ (k1 _ _) hkC hlf hlt hw3.kc, fun z => absurd rfl z⟩) (fun s4 q4 b4 T4 w4 td4 h4 => ⟨fun z => absurd z (by (try dsimp only); decide), fun _ => ?_⟩)
            have hW4 := hW3.advZ.1
            have l4 := adv_le L3
            refine sq8_readsE (cn := cn) hT hc hce (by omega) h4 hW4 (by omega) (by omega) (fun e he5 => ?_) (fun i5 p5 L5 he5 hil5 hW5 q5 b5 T5 w5 td5 cd5 op5 cm5 h5 hw5 => ?_)
            · refine fun q' b' T' w' td' c' cd' op' cm' hf => ⟨fun _ => ?_, fun z => absurd rfl z⟩
              exact bad e (by rw [hq, hbd5 e (by simp [tE, tX, sq0, sq1, bnd, pAdv, s4, he5])]; rfl) _ _ _ _ _ _ _ _ _ _ _ _ _ (k1 _ _) hkC (fun j h1 h2 => by rw [pk_un h2]; exact hlf j h1 h2) hlt (fun j hj => (hf j (by omega)).trans (hw3.kc j hj))
            · refine ⟨fun z => absurd z (by (try dsimp only); decide), fun _ => ?_⟩
              have hf := hgd5 (((), (i, p)), (i5, p5)) L5 (by simp [tE, tX, sq0, sq1, bnd, pAdv, s4, he5])
              refine good _ _ (by rw [hq, hf]; rfl) _ _ _ _ _ _ _ _ _ _ _ _ _ h5 hW5 (by omega) (k1 _ _) hkC (fun j h1 h2 => by rw [pk_un h2]; exact hlf j h1 h2) (fun j h1 h2 => by rw [pk_un h2]; exact hlt j h1 h2) (fun j hj => (hw5.kc j (by omega)).trans (hw3.kc j hj)) ⟨pk_us, fun z => by omega, fun _ => el1 _ (fun j hj => hw5.1 j hj) _ _ ?_ ?_, fun _ => ⟨pk_us, pk_us, fun j x hj => hw5.2.1 j x hj⟩, rfl⟩
              all_goals (rw [pk_un (by omega)]; exact pk_us)
      refine ⟨fun n0 => ?_, fun y0 => ?_⟩
      · rw [a0] at n0
        refine k107 (adv L) 0 _ q1 b1 T1 w1 td1 h1 hWa (Nat.le_refl _) (k1 _ _) (fun z => absurd z n0) ?_
        unfold pAct
        rw [if_neg n0]
        by_cases h35 : a = 3 ∨ a = 5
        · simp only [if_pos h35]
          show bnd (tE (tX (tE (.inr ((), adv L)) cn) (if a = 3 then 22 else 19)) cn) _ = _
          have : tE (.inr ((), adv L) : PRs Unit) cn = bnd ((pEP cn 40).1 0 0 (adv L)) fun z => .inr (((), z.1), z.2) := rfl
          rw [this]
          cases (pEP cn 40).1 0 0 (adv L) with
          | inl e => rfl
          | inr e => rfl
        · simp only [if_neg h35]
          have : tE (.inr ((), adv L) : PRs Unit) cn = bnd ((pEP cn 40).1 0 0 (adv L)) fun z => .inr (((), z.1), z.2) := rfl
          rw [this]
          by_cases h4 : a = 4
          · simp only [if_pos h4]
            cases (pEP cn 40).1 0 0 (adv L) with
            | inl e => rfl
            | inr e => rfl
          · simp only [if_neg h4, if_neg n6, if_neg n0]
            cases (pEP cn 40).1 0 0 (adv L) with
            | inl e => rfl
            | inr e => rfl
      · rw [a0] at y0
        have hp0 : pAct cn a (.inr ((), adv L) : PRs Unit) = bnd (tE (tO (.inr ((), adv L) : PRs Unit) cn) cn) fun y => .inr (((), y.1.1.2, y.1.2, ([], [])), y.2) := by
          unfold pAct
          rw [if_pos y0]
        refine sq8_needsCell hl hT h1 hc hce (fun e hs aC2 hk2 => ⟨fun z => absurd rfl z, fun _ => ?_⟩) (fun j hj hjl q5 b5 T5 w5 td5 h5 => ⟨fun _ => ?_, fun z => absurd z (by (try dsimp only); decide)⟩)
        · refine bad e ?_ _ _ _ _ _ _ _ _ _ _ _ _ _ (k1 _ _) (fun j hj => (hk2 j hj).trans (k1 _ _ j hj)) (k2 _ _) (k2 _ _) (fun _ _ => rfl)
          rw [hq, hp0]
          simp [tE, tO, sq0, sq1, bnd, pAdv, hs]
        · have l5 := adv_le (adv L)
          refine k107 (adv (adv L)) j _ q5 b5 T5 w5 td5 h5 hWa.advZ.1 l5 (fun j' hj' => (pk_un hj').trans (k1 _ _ j' hj')) (fun _ => pk_us) ?_
          have h35 : ¬ (a = 3 ∨ a = 5) := by omega
          have h4 : ¬ a = 4 := by omega
          simp only [if_neg h35, if_neg h4, if_pos y0]
          rw [hp0]
          have : tO (.inr ((), adv L) : PRs Unit) cn = .inr (((), j), adv (adv L)) := by simp [tO, sq0, sq1, bnd, pAdv, hj]
          rw [this]
          show bnd (bnd ((pEP cn 40).1 0 0 (adv (adv L))) fun z => .inr ((((), j), z.1), z.2)) _ = _
          cases (pEP cn 40).1 0 0 (adv (adv L)) with
          | inl e => rfl
          | inr e => rfl
    · rw [a6] at y6
      have hpa : pAct cn a (.inr ((), adv L) : PRs Unit) = .inr (((), 0, ([], []), ([], [])), adv L) := by
        unfold pAct
        rw [if_neg (by omega), if_neg (by omega), if_neg (by omega), if_pos y6]
        rfl
      exact good _ _ (by rw [hq, hpa]; rfl) _ _ _ _ _ _ _ _ _ _ _ _ _ h1 hWa (by omega) (k1 _ _) (k1 _ _) (k2 _ _) (k2 _ _) (fun _ _ => rfl) ⟨pk_us, fun z => by omega, fun z => absurd y6 z, fun z => by omega, rfl⟩
  · show ((0 : Int32) = 0 ∨ (0 : Int32) = 1) → _
    have e1 : (1 : Int32) + 16 * nI b = nI (flt 1 L) := h.fltZ 1
    rw [e1]
    exact fun _ => bad _ (if_neg hno) _ _ _ _ _ _ _ _ _ _ _ _ _ (fun _ _ => rfl) (fun _ _ => rfl) (fun _ _ _ => rfl) (fun _ _ _ => rfl) (fun _ _ => rfl)
end RL8
end
section
section RM8
variable {ts : List Nat} {t : Nat → Int32} {L : List Tok} {q b : Nat} {T td wr : Int32} {w : Int64} {g : PGr}
theorem F1.of {s l : Nat} {a a' : Nat → Int32} (h : KO l a a') (h1 : s ≤ l) (h2 : l < 2 * s) : F1 s a a' := fun j hj => h j (by omega)
theorem F1.of2 {l : Nat} {a a' : Nat → Int32} (h : KO2 l a a') (h1 : 16 ≤ l) (h2 : l < 32) : F1 32 a a' := fun j hj => h j (by omega) (by omega)
theorem F1.kc {c : Nat} {a a' : Nat → Int32} (h : KC c a a') (h1 : 1000 ≤ c) : F1 1000 a a' := fun j hj => h j (by omega)
theorem ER9.keep {p k : Nat} {i : List Nat} {lf lt cd lf' lt' cd' : Nat → Int32} {c : Nat} (h : ER9 p k i lf lt cd) (hb : ∀ o, lf (32 * p + k) = nI (1000 * p + o) → o + i.length ≤ 1000 → 1000 * p + o + i.length ≤ c) (h1 : lf' (32 * p + k) = lf (32 * p + k)) (h2 : lt' (32 * p + k) = lt (32 * p + k)) (h3 : ∀ j, j < c → cd' j = cd j) : ER9 p k i lf' lt' cd' := by
  obtain ⟨o, a1, a2, a3, a4⟩ := h
  refine ⟨o, h1.trans a1, h2.trans a2, a3, fun j x hj => ?_⟩
  have := hb o a1 a3
  have := get_lt hj
  rw [h3 _ (by omega)]
  exact a4 j x hj
/-- the lines' codes of the reference lie below c -/
def LC8 (l : List LN9) (c : Nat) (lf : Nat → Int32) : Prop := ∀ (i : Nat) (y : LN9), l[i]? = some y → (y.1 ≠ 6 → ∀ o, lf (32 + 2 * i) = nI (1000 + o) → o + y.2.2.2.1.1.length ≤ 1000 → 1000 + o + y.2.2.2.1.1.length ≤ c) ∧ ((y.1 = 3 ∨ y.1 = 5) → ∀ o, lf (32 + (2 * i + 1)) = nI (1000 + o) → o + y.2.2.2.2.1.length ≤ 1000 → 1000 + o + y.2.2.2.2.1.length ≤ c)
abbrev PL8 : Type := Int32 → Int32 → Int32 → Int32 → Int64 → Int32 → Int32 → Int32 → (Nat → Int32) → (Nat → Int32) → (Nat → Int32) → (Nat → Int32) → (Nat → Int32) → (Nat → Int32) → (Nat → Int32) → (Nat → Int32) → (Nat → Int32) → (Nat → Int32) → Prop
theorem sq8_readsLine {st ce ln ac aC ls tw lf lt cd op cm : Nat → Int32} {sn cnn : Nat → Int64} {c : Nat} {Φ : PL8} (hT : TL ts t) (h : RR ts L q b T w td) (hW : WT L) (hne : ¬ (hdt L).1 = 0) (hs : NB (snm g) sn) (hc : NB (cnm g) cnn) (hst : st 1 = nI (snm g).length) (hce : ce 1 = nI (cnm g).length) (hL : LBd 1 g.2.2.2 ln ac aC lf lt cd) (hY : TB 1 g.2.2.2 ls tw) (h16 : g.2.2.2.length ≤ 16) (hc1 : 1000 ≤ c) (hc2 : c + L.length ≤ 2001) (hlc : LC8 g.2.2.2 c lf)
    (bad : ∀ e, tX (pLine g L) 6 = .inl e → ∀ (q' b' T' : Int32) (w' : Int64) (td' c' : Int32) (ln' ac' aC' ls' tw' lf' lt' cd' op' cm' : Nat → Int32), F1 1 ln ln' → F1 16 ac ac' → F1 16 aC aC' → F1 16 ls ls' → F1 16 tw tw' → F1 32 lf lf' → F1 32 lt lt' → F1 1000 cd cd' → Φ 0 q' b' T' w' td' (nI e) c' ln' ac' aC' ls' tw' lf' lt' cd' op' cm')
    (good : ∀ g' L', tX (pLine g L) 6 = .inr (g', L') → g'.1 = g.1 → g'.2.1 = g.2.1 → g'.2.2.1 = g.2.2.1 → ∀ (q' b' : Nat) (T' : Int32) (w' : Int64) (td' : Int32) (c' : Nat) (ln' ac' aC' ls' tw' lf' lt' cd' op' cm' : Nat → Int32), RR ts L' q' b' T' w' td' → WT L' → 1000 ≤ c' → c' + L'.length ≤ 2000 → L'.length < L.length → F1 1 ln ln' → F1 16 ac ac' → F1 16 aC aC' → F1 16 ls ls' → F1 16 tw tw' → F1 32 lf lf' → F1 32 lt lt' → F1 1000 cd cd' → LBd 1 g'.2.2.2 ln' ac' aC' lf' lt' cd' → TB 1 g'.2.2.2 ls' tw' → LC8 g'.2.2.2 c' lf' → g'.2.2.2.length ≤ 16 → Φ 1 (nI q') (nI b') T' w' td' wr (nI c') ln' ac' aC' ls' tw' lf' lt' cd' op' cm') : wl_X8_readsLine (nI ts.length) t st ce sn cnn (nI q) (nI b) T w td wr (nI c) ln ac aC ls tw lf lt cd op cm Φ := by
  obtain ⟨hln, hli⟩ := hL
  have e16 : nI g.2.2.2.length = 16 ↔ g.2.2.2.length = 16 := nI_eq (a := g.2.2.2.length) (b := 16) (by omega) (by decide)
  unfold wl_X8_readsLine
  rw [hln, e16, show (16 : Int32) = nI 16 from rfl, nI_add, nI_clamp (n := 16 + g.2.2.2.length) (by omega)]
  refine ⟨fun n16 => ?_, fun y16 => ?_⟩
  · have hp : pLine g L = bnd (tA (tO (.inr ((), adv L)) (snm g)) (cnm g)) fun y => .inr ((g.1, g.2.1, g.2.2.1, g.2.2.2 ++ [(y.1.2.1, y.1.1.2, y.1.2.2)]), y.2) := if_neg (by omega)
    have hlen := hW.advZ.2.2 hne
    have hWa := hW.advZ.1
    refine sq8_next hT h (fun q1 b1 T1 w1 td1 h1 => ?_)
    refine sq8_toldS h1 hs hst (fun he => ?_) (fun he => ?_) (fun j hj hjl => ?_)
    · show ((0 : Int32) = 0 ∨ (0 : Int32) = 1) → _
      have e1 : (1 : Int32) + 16 * nI b1 = nI (flt 1 (adv L)) := h1.fltZ 1
      rw [e1]
      refine fun _ => bad _ ?_ _ _ _ _ _ _ _ _ _ _ _ _ _ _ _ _ F1.rf F1.rf F1.rf F1.rf F1.rf F1.rf F1.rf F1.rf
      rw [hp]; simp [tA, tO, tX, sq0, sq1, bnd, pAdv, he]
    · rw [pk_us]
      refine fun _ _ _ => ⟨fun y => absurd y (by (try dsimp only); decide), fun _ => ?_⟩
      show ((0 : Int32) = 0 ∨ (0 : Int32) = 1) → _
      have e1 : (2 : Int32) + 16 * nI b1 = nI (flt 2 (adv L)) := h1.fltZ 2
      rw [e1]
      refine fun _ => bad _ ?_ _ _ _ _ _ _ _ _ _ _ _ _ _ _ _ _ F1.rf F1.rf F1.rf (F1.up (by omega) (by omega)) (F1.up (by omega) (by omega)) F1.rf F1.rf F1.rf
      rw [hp]; simp [tA, tO, tX, sq0, sq1, bnd, pAdv, he]
    · rw [pk_us]
      have hs6 := hs.1
      refine fun _ _ _ => ⟨fun _ => ?_, fun y => absurd (nI_pos' (n := j) (by omega)) y⟩
      have hto : tO (.inr ((), adv L) : PRs Unit) (snm g) = .inr (((), j), adv (adv L)) := by simp [tO, sq0, sq1, bnd, pAdv, hj]
      have hWb := hWa.advZ.1
      have lb := adv_le (adv L)
      -- the act, told of the payload that it stands behind
      have tAu : tA (tO (.inr ((), adv L) : PRs Unit) (snm g)) (cnm g) = bnd (tA (.inr ((), adv (adv L)) : PRs Unit) (cnm g)) fun y => .inr ((((), j), y.1.2), y.2) := by
        rw [hto]
        unfold tA
        rw [bnd_r, bnd_r]
        by_cases hx : 20 ≤ ix (hdt (adv (adv L))) ∧ ix (hdt (adv (adv L))) ≤ 26
        · simp only [if_pos hx]
          cases pAct (cnm g) (ix (hdt (adv (adv L))) - 20) (.inr ((), adv (adv (adv L))) : PRs Unit) with
          | inl e => rfl
          | inr y => rfl
        · simp only [if_neg hx]
          rfl
      have hl96 : 16 + g.2.2.2.length < 96 := by omega
      refine sq8_next hT h1 (fun q2 b2 T2 w2 td2 h2 => ?_)
      refine sq8_readsAct hT h2 hWb hc hce hl96 hc1 (by omega) (fun e he q' b' T' w' td' c' ac' aC' lf' lt' cd' op' cm' f1 f2 f3 f4 f5 => ⟨fun z => absurd rfl z, fun _ => ?_⟩) (fun y L3 he hx1 hx2 q3 b3 T3 w3 td3 c3 ac3 aC3 lf3 lt3 cd3 op3 cm3 h3 hW3 hc3 f1 f2 f3 f4 f5 hag => ⟨fun _ => ?_, fun z => absurd z (by (try dsimp only); decide)⟩)
      · refine bad e ?_ _ _ _ _ _ _ _ _ _ _ _ _ _ _ _ _ F1.rf (F1.of f1 (by omega) (by omega)) (F1.of f2 (by omega) (by omega)) (F1.up (by omega) (by omega)) (F1.up (by omega) (by omega)) (F1.of2 f3 (by omega) (by omega)) (F1.of2 f4 (by omega) (by omega)) (F1.kc f5 hc1)
        rw [hp, tAu, he]
        rfl
      · obtain ⟨g1, g2, g3, g4, g5⟩ := hag
        have hpl : pLine g L = .inr ((g.1, g.2.1, g.2.2.1, g.2.2.2 ++ [(ix (hdt (adv (adv L))) - 20, j, y)]), L3) := by
          rw [hp, tAu, he]
          rfl
        have fln : F1 1 ln (upd ln 1 (nI g.2.2.2.length + 1)) := F1.up (by omega) (by omega)
        have fls : F1 16 ls (upd ls (16 + g.2.2.2.length) (nI j)) := F1.up (by omega) (by omega)
        have ftw : F1 16 tw (upd tw (16 + g.2.2.2.length) 1) := F1.up (by omega) (by omega)
        have hL3 : 1 ≤ L3.length := lpos hW3.ne
        have l4 := adv_le L3
        refine sq8_ends hT h3 (fun e hs5 => fun _ => bad e ?_ _ _ _ _ _ _ _ _ _ _ _ _ _ _ _ _ fln (F1.of f1 (by omega) (by omega)) (F1.of f2 (by omega) (by omega)) fls ftw (F1.of2 f3 (by omega) (by omega)) (F1.of2 f4 (by omega) (by omega)) (F1.kc f5 hc1)) (fun s5 q5 b5 T5 w5 td5 h5 => fun _ => good (g.1, g.2.1, g.2.2.1, g.2.2.2 ++ [(ix (hdt (adv (adv L))) - 20, j, y)]) (adv L3) ?_ rfl rfl rfl _ _ _ _ _ c3 _ _ _ _ _ _ _ _ _ _ h5 hW3.advZ.1 (by omega) (by omega) (by omega) fln (F1.of f1 (by omega) (by omega)) (F1.of f2 (by omega) (by omega)) fls ftw (F1.of2 f3 (by omega) (by omega)) (F1.of2 f4 (by omega) (by omega)) (F1.kc f5 hc1) ⟨?_, fun i y2 hi => ?_⟩ (fun i y2 hi => ?_) (fun i y2 hi => ?_) ?_)
        · rw [hpl]; simp [tX, sq0, bnd, hs5]
        · rw [hpl]; simp [tX, sq0, bnd, pAdv, s5]
        · show upd ln 1 _ 1 = nI (g.2.2.2 ++ [_]).length
          rw [pk_us, nI_1, List.length_append]; rfl
        · rcases app_get hi with i9 | ⟨ei, ey⟩
          · have hlt := get_lt i9
            obtain ⟨b1', b2', b3', b4'⟩ := hli i y2 i9
            have hlci := hlc i y2 i9
            refine ⟨(f1 _ (by omega)).trans b1', fun z => (f2 _ (by omega)).trans (b2' z), fun z => (b3' z).keep (c := c) (fun o ho hol => by rw [show 32 * 1 + 2 * i = 32 + 2 * i by omega, show 1000 * 1 + o = 1000 + o by omega] at ho; have := hlci.1 z o ho hol; omega) (f3 _ (by omega) (by omega)) (f4 _ (by omega) (by omega)) (fun jj hj2 => f5 jj (Or.inl hj2)), fun z => (b4' z).keep (c := c) (fun o ho hol => by rw [show 32 * 1 + (2 * i + 1) = 32 + (2 * i + 1) by omega, show 1000 * 1 + o = 1000 + o by omega] at ho; have := hlci.2 z o ho hol; omega) (f3 _ (by omega) (by omega)) (f4 _ (by omega) (by omega)) (fun jj hj2 => f5 jj (Or.inl hj2))⟩
          · subst ei
            rw [ey]
            refine ⟨by rw [show 16 * 1 + g.2.2.2.length = 16 + g.2.2.2.length by omega]; exact g1, fun z => by rw [show 16 * 1 + g.2.2.2.length = 16 + g.2.2.2.length by omega]; exact g2 z, fun z => ?_, fun z => ?_⟩
            · obtain ⟨k1, k2, k3⟩ := g3 z
              rw [show 2 * (16 + g.2.2.2.length) = 32 * 1 + 2 * g.2.2.2.length by omega] at k1 k2
              refine ⟨c - 1000, by rw [k1]; exact congrArg nI (by omega), by rw [k2]; exact congrArg nI (by show _ = 1000 * 1 + (c - 1000) + y.2.1.1.length; omega), by show c - 1000 + y.2.1.1.length ≤ 1000; omega, fun jj x hj2 => ?_⟩
              rw [show 1000 * 1 + (c - 1000) + jj = c + jj by omega]
              exact k3 jj x hj2
            · obtain ⟨k1, k2, k3⟩ := g4 z
              rw [show 2 * (16 + g.2.2.2.length) + 1 = 32 * 1 + (2 * g.2.2.2.length + 1) by omega] at k1 k2
              refine ⟨c + y.2.1.1.length - 1000, by rw [k1]; exact congrArg nI (by omega), by rw [k2]; exact congrArg nI (by show _ = 1000 * 1 + (c + y.2.1.1.length - 1000) + y.2.2.1.length; omega), by show c + y.2.1.1.length - 1000 + y.2.2.1.length ≤ 1000; omega, fun jj x hj2 => ?_⟩
              rw [show 1000 * 1 + (c + y.2.1.1.length - 1000) + jj = c + y.2.1.1.length + jj by omega]
              exact k3 jj x hj2
        · rcases app_get hi with i9 | ⟨ei, ey⟩
          · have hlt := get_lt i9
            rw [pk_un (by omega), pk_un (by omega)]
            exact hY i y2 i9
          · rw [ei, ey, show 16 * 1 + g.2.2.2.length = 16 + g.2.2.2.length by omega, pk_us, pk_us]
            exact ⟨rfl, rfl⟩
        · rcases app_get hi with i9 | ⟨ei, ey⟩
          · have hlt := get_lt i9
            have hlci := hlc i y2 i9
            refine ⟨fun z o ho hol => ?_, fun z o ho hol => ?_⟩
            · rw [f3 _ (by omega) (by omega)] at ho
              have := hlci.1 z o ho hol
              omega
            · rw [f3 _ (by omega) (by omega)] at ho
              have := hlci.2 z o ho hol
              omega
          · subst ei
            rw [ey]
            refine ⟨fun z o ho hol => ?_, fun z o ho hol => ?_⟩
            · obtain ⟨k1, k2, k3⟩ := g3 z
              rw [show 32 + 2 * g.2.2.2.length = 2 * (16 + g.2.2.2.length) by omega, k1] at ho
              have := (nI_eq (by omega) (by omega)).mp ho
              show 1000 + o + y.2.1.1.length ≤ c3
              omega
            · obtain ⟨k1, k2, k3⟩ := g4 z
              rw [show 32 + (2 * g.2.2.2.length + 1) = 2 * (16 + g.2.2.2.length) + 1 by omega, k1] at ho
              have := (nI_eq (by omega) (by omega)).mp ho
              show 1000 + o + y.2.2.1.length ≤ c3
              omega
        · show (g.2.2.2 ++ [_]).length ≤ 16
          rw [List.length_append]
          show g.2.2.2.length + 1 ≤ 16
          omega
  · have hp : pLine g L = .inl (flt 5 L) := if_pos (by omega)
    show ((0 : Int32) = 0 ∨ (0 : Int32) = 1) → _
    have e1 : (5 : Int32) + 16 * nI b = nI (flt 5 L) := h.fltZ 5
    rw [e1]
    exact fun _ => bad _ (by rw [hp]; rfl) _ _ _ _ _ _ _ _ _ _ _ _ _ _ _ _ F1.rf F1.rf F1.rf F1.rf F1.rf F1.rf F1.rf F1.rf
end RM8
end
section
/-- an expression that was read, with so many cells told -/
def OKE (nc : Nat) (e : EC) : Prop := ∃ (cn : List (List Nat)) (L L' : List Tok), cn.length ≤ nc ∧ (pEP cn 40).1 0 0 L = .inr (e, L')
def OKL (ns nc : Nat) (y : LN9) : Prop := y.1 ≤ 6 ∧ y.2.1 < ns ∧ ((y.1 = 0 ∨ y.1 = 4) → y.2.2.1 < nc) ∧ (y.1 ≠ 6 → OKE nc y.2.2.2.1) ∧ ((y.1 = 3 ∨ y.1 = 5) → OKE nc y.2.2.2.2) ∧ (y.1 = 6 → y.2.2.2.1 = ([], [])) ∧ (¬ (y.1 = 3 ∨ y.1 = 5) → y.2.2.2.2 = ([], []))
/-- a programme that was read -/
def GK9 (g : PGr) : Prop := g.1.length ≤ 4 ∧ (∀ y ∈ g.1, 1 ≤ y.2.1 ∧ y.2.1 ≤ 9999 ∧ y.2.2 ≤ 999) ∧ g.2.1.length ≤ 6 ∧ (∀ y ∈ g.2.1, y.2 ≤ 9999) ∧ g.2.2.1.length ≤ 2 ∧ (∀ y ∈ g.2.2.1, y.1 < g.2.1.length ∧ y.2.1 ≤ y.2.2 ∧ y.2.2 ≤ 9999) ∧ many g.2.2.1 ≤ 64 ∧ (g.2.2.1.map (fun y => y.1)).Nodup ∧ g.2.2.2.length ≤ 16 ∧ ∀ y ∈ g.2.2.2, OKL g.1.length g.2.1.length y
theorem GK9.nil : GK9 ([], [], [], []) := ⟨by decide, fun y h => (by cases h), by decide, fun y h => (by cases h), by decide, fun y h => (by cases h), by decide, List.nodup_nil, by decide, fun y h => by cases h⟩
section IN9
variable {α β : Type} {x : PRs α}
theorem sq0_inv {g : α → List Tok → Nat ⊕ List Tok} {a : α} {L' : List Tok} (h : sq0 x g = .inr (a, L')) : ∃ L0, x = .inr (a, L0) ∧ g a L0 = .inr L' := by
  cases x with
  | inl e => cases h
  | inr y =>
    obtain ⟨b, L⟩ := y
    rw [sq0_r] at h
    cases hq : g b L with
    | inl e => rw [hq] at h; cases h
    | inr M =>
      rw [hq] at h
      have h := Prod.mk.inj (Sum.inr.inj h)
      have h1 : b = a := h.1
      have h2 : M = L' := h.2
      subst h1
      subst h2
      exact ⟨L, rfl, hq⟩
theorem sq1_inv {g : α → List Tok → PRs β} {b : α × β} {L' : List Tok} (h : sq1 x g = .inr (b, L')) : ∃ L0, x = .inr (b.1, L0) ∧ g b.1 L0 = .inr (b.2, L') := by
  cases x with
  | inl e => cases h
  | inr y =>
    obtain ⟨a, L⟩ := y
    rw [sq1_r] at h
    cases hq : g a L with
    | inl e => rw [hq] at h; cases h
    | inr z =>
      rw [hq] at h
      have h := Prod.mk.inj (Sum.inr.inj h)
      have h1 : (a, z.1) = b := h.1
      have h2 : z.2 = L' := h.2
      subst h1
      subst h2
      exact ⟨L, rfl, hq⟩
theorem bnd_inv {f : α × List Tok → PRs β} {b : β} {L' : List Tok} (h : bnd x f = .inr (b, L')) : ∃ y, x = .inr y ∧ f y = .inr (b, L') := by
  cases x with
  | inl e => cases h
  | inr y => exact ⟨y, rfl, h⟩
theorem pNum_inv {lo hi n : Nat} {L L' : List Tok} (h : pNum lo hi L = .inr (n, L')) : lo ≤ n ∧ n ≤ hi := by
  unfold pNum at h
  split at h
  · split at h
    · rename_i h2
      rw [← (Prod.mk.inj (Sum.inr.inj h)).1]
      exact h2
    · cases h
  · cases h
theorem pTold_inv {ns : List (List Nat)} {c : Nat} {L L' : List Tok} (h : pTold ns L = .inr (c, L')) : c < ns.length := by
  unfold pTold at h
  split at h
  · split at h
    · cases h
    · rename_i c' hc
      rw [← (Prod.mk.inj (Sum.inr.inj h)).1]
      exact fnd_lt hc
  · cases h
theorem tN_inv {lo hi : α → Nat} {b : α × Nat} {L' : List Tok} (h : tN x lo hi = .inr (b, L')) : ∃ L0, x = .inr (b.1, L0) ∧ lo b.1 ≤ b.2 ∧ b.2 ≤ hi b.1 := by
  obtain ⟨L1, h1, _⟩ := sq0_inv h
  obtain ⟨L0, h2, h3⟩ := sq1_inv h1
  exact ⟨L0, h2, pNum_inv h3⟩
theorem tX_inv {w : Nat} {a : α} {L' : List Tok} (h : tX x w = .inr (a, L')) : ∃ L0, x = .inr (a, L0) := by
  obtain ⟨L1, h1, _⟩ := sq0_inv h
  obtain ⟨L0, h2, _⟩ := sq0_inv h1
  exact ⟨L0, h2⟩
theorem tW_inv {sn cn : List (List Nat)} {b : α × List Nat} {L' : List Tok} (h : tW x sn cn = .inr (b, L')) : ∃ L0, x = .inr (b.1, L0) := by
  obtain ⟨L1, h1, _⟩ := sq0_inv h
  obtain ⟨L0, h2, _⟩ := sq1_inv h1
  exact ⟨L0, h2⟩
theorem tO_inv2 {ns : List (List Nat)} {b : α × Nat} {L' : List Tok} (h : tO x ns = .inr (b, L')) : ∃ L0, x = .inr (b.1, L0) ∧ b.2 < ns.length := by
  obtain ⟨L1, h1, _⟩ := sq0_inv h
  obtain ⟨L0, h2, h3⟩ := sq1_inv h1
  exact ⟨L0, h2, pTold_inv h3⟩
theorem tE_inv {cn : List (List Nat)} {b : α × EC} {L' : List Tok} (h : tE x cn = .inr (b, L')) : ∃ L0, x = .inr (b.1, L0) ∧ OKE cn.length b.2 := by
  obtain ⟨L0, h2, h3⟩ := sq1_inv h
  exact ⟨L0, h2, cn, L0, L', Nat.le_refl _, h3⟩
theorem pAct_inv {cn : List (List Nat)} {a : Nat} {b : α × Nat × EC × EC} {L' : List Tok} (ha : a ≤ 6) (h : pAct cn a x = .inr (b, L')) : ((a = 0 ∨ a = 4) → b.2.1 < cn.length) ∧ (a ≠ 6 → OKE cn.length b.2.2.1) ∧ ((a = 3 ∨ a = 5) → OKE cn.length b.2.2.2) ∧ (a = 6 → b.2.2.1 = ([], [])) ∧ (¬ (a = 3 ∨ a = 5) → b.2.2.2 = ([], [])) := by
  unfold pAct at h
  by_cases h0 : a = 0
  · rw [if_pos h0] at h
    obtain ⟨y, hy, hb⟩ := bnd_inv h
    obtain ⟨L0, h1, h2⟩ := tE_inv (b := y.1) (L' := y.2) hy
    obtain ⟨L1, h3, h4⟩ := tO_inv2 h1
    rw [← (Prod.mk.inj (Sum.inr.inj hb)).1]
    exact ⟨fun _ => h4, fun _ => h2, fun z => by omega, fun z => by omega, fun _ => rfl⟩
  rw [if_neg h0] at h
  by_cases h35 : a = 3 ∨ a = 5
  · rw [if_pos h35] at h
    obtain ⟨y, hy, hb⟩ := bnd_inv h
    obtain ⟨L0, h1, h2⟩ := tE_inv (b := y.1) (L' := y.2) hy
    obtain ⟨L1, h3⟩ := tX_inv h1
    obtain ⟨L2, h4, h5⟩ := tE_inv h3
    rw [← (Prod.mk.inj (Sum.inr.inj hb)).1]
    exact ⟨fun z => by omega, fun _ => h5, fun _ => h2, fun z => by omega, fun z => absurd h35 z⟩
  rw [if_neg h35] at h
  by_cases h4 : a = 4
  · rw [if_pos h4] at h
    obtain ⟨y, hy, hb⟩ := bnd_inv h
    obtain ⟨L0, h1, h2⟩ := tO_inv2 (b := y.1) (L' := y.2) hy
    obtain ⟨L1, h3⟩ := tX_inv h1
    obtain ⟨L2, h5, h6⟩ := tE_inv h3
    rw [← (Prod.mk.inj (Sum.inr.inj hb)).1]
    exact ⟨fun _ => h2, fun _ => h6, fun z => absurd z h35, fun z => by omega, fun _ => rfl⟩
  rw [if_neg h4] at h
  by_cases h6 : a = 6
  · rw [if_pos h6] at h
    obtain ⟨y, hy, hb⟩ := bnd_inv h
    rw [← (Prod.mk.inj (Sum.inr.inj hb)).1]
    exact ⟨fun z => by omega, fun z => absurd h6 z, fun z => absurd z h35, fun _ => rfl, fun _ => rfl⟩
  · rw [if_neg h6] at h
    obtain ⟨y, hy, hb⟩ := bnd_inv h
    obtain ⟨L2, h7, h8⟩ := tE_inv (b := y.1) (L' := y.2) hy
    rw [← (Prod.mk.inj (Sum.inr.inj hb)).1]
    exact ⟨fun z => by omega, fun _ => h8, fun z => absurd z h35, fun z => absurd z h6, fun _ => rfl⟩
theorem tA_inv {cn : List (List Nat)} {b : α × Nat × Nat × EC × EC} {L' : List Tok} (h : tA x cn = .inr (b, L')) : ∃ L0, x = .inr (b.1, L0) ∧ b.2.1 ≤ 6 ∧ ((b.2.1 = 0 ∨ b.2.1 = 4) → b.2.2.1 < cn.length) ∧ (b.2.1 ≠ 6 → OKE cn.length b.2.2.2.1) ∧ ((b.2.1 = 3 ∨ b.2.1 = 5) → OKE cn.length b.2.2.2.2) ∧ (b.2.1 = 6 → b.2.2.2.1 = ([], [])) ∧ (¬ (b.2.1 = 3 ∨ b.2.1 = 5) → b.2.2.2.2 = ([], [])) := by
  unfold tA at h
  obtain ⟨w, hw, h⟩ := bnd_inv h
  by_cases hx : 20 ≤ ix (hdt w.2) ∧ ix (hdt w.2) ≤ 26
  · rw [if_pos hx] at h
    obtain ⟨y, hy, hb⟩ := bnd_inv h
    have e := (Prod.mk.inj (Sum.inr.inj hb)).1
    have := pAct_inv (b := y.1) (L' := y.2) (by omega) hy
    rw [← e]
    exact ⟨w.2, hw, by show ix (hdt w.2) - 20 ≤ 6; omega, this⟩
  · rw [if_neg hx] at h
    cases h
end IN9
theorem OKE.mono {a b : Nat} {e : EC} (h : OKE a e) (hab : a ≤ b) : OKE b e := by
  obtain ⟨cn, L, L', h1, h2⟩ := h
  exact ⟨cn, L, L', by omega, h2⟩
theorem OKL.mono {a b c d : Nat} {y : LN9} (h : OKL a c y) (hab : a ≤ b) (hcd : c ≤ d) : OKL b d y := by
  obtain ⟨h1, h2, h3, h4, h5, h6, h7⟩ := h
  exact ⟨h1, by omega, fun z => by have := h3 z; omega, fun z => (h4 z).mono hcd, fun z => (h5 z).mono hcd, h6, h7⟩
theorem mem_push {β : Type} {l : List β} {z y : β} (h : y ∈ l ++ [z]) : y ∈ l ∨ y = z := (List.mem_append.mp h).elim Or.inl (fun h => Or.inr (List.mem_singleton.mp h))
theorem GK9.tell {g g' : PGr} {L L' : List Tok} (h : GK9 g) (ht : pTell g L = .inr (g', L')) : GK9 g' := by
  obtain ⟨a1, a2, a3, a4, a5, a6, a7, a8, a9, a10⟩ := h
  have es : (snm g).length = g.1.length := List.length_map _
  have ec : (cnm g).length = g.2.1.length := List.length_map _
  unfold pTell at ht
  by_cases e12 : ix (hdt L) = 12
  · rw [if_pos e12] at ht
    unfold pStuff at ht
    by_cases h4 : 4 ≤ g.1.length
    · rw [if_pos h4] at ht; cases ht
    rw [if_neg h4] at ht
    obtain ⟨y, hy, hb⟩ := bnd_inv ht
    obtain ⟨L0, h1, h2⟩ := tN_inv (b := y.1) (L' := y.2) hy
    obtain ⟨L1, h3⟩ := tX_inv h1
    obtain ⟨L2, h5, h6⟩ := tN_inv h3
    rw [← (Prod.mk.inj (Sum.inr.inj hb)).1]
    have hl : (g.1 ++ [(y.1.1.1.2, y.1.1.2, y.1.2)]).length = g.1.length + 1 := by rw [List.length_append]; rfl
    refine ⟨by rw [hl]; omega, fun z hz => ?_, a3, a4, a5, a6, a7, a8, a9, fun z hz => (a10 z hz).mono (by rw [hl]; omega) (Nat.le_refl _)⟩
    rcases mem_push hz with hz | rfl
    · exact a2 z hz
    · exact ⟨h6.1, h6.2, h2.2⟩
  rw [if_neg e12] at ht
  by_cases e15 : ix (hdt L) = 15
  · rw [if_pos e15] at ht
    unfold pCell at ht
    by_cases h4 : 6 ≤ g.2.1.length
    · rw [if_pos h4] at ht; cases ht
    rw [if_neg h4] at ht
    obtain ⟨y, hy, hb⟩ := bnd_inv ht
    obtain ⟨L0, h1, h2⟩ := tN_inv (b := y.1) (L' := y.2) hy
    rw [← (Prod.mk.inj (Sum.inr.inj hb)).1]
    have hl : (g.2.1 ++ [(y.1.1.2, y.1.2)]).length = g.2.1.length + 1 := by rw [List.length_append]; rfl
    refine ⟨a1, a2, by rw [hl]; omega, fun z hz => ?_, a5, fun z hz => ⟨by rw [hl]; have := (a6 z hz).1; omega, (a6 z hz).2⟩, a7, a8, a9, fun z hz => (a10 z hz).mono (Nat.le_refl _) (by rw [hl]; omega)⟩
    rcases mem_push hz with hz | rfl
    · exact a4 z hz
    · exact h2.2
  rw [if_neg e15] at ht
  by_cases e16 : ix (hdt L) = 16
  · rw [if_pos e16] at ht
    unfold pInput at ht
    by_cases h4 : 2 ≤ g.2.2.1.length
    · rw [if_pos h4] at ht; cases ht
    rw [if_neg h4] at ht
    obtain ⟨y, hy, hb⟩ := bnd_inv ht
    obtain ⟨L0, h1, _⟩ := sq0_inv (a := y.1) (L' := y.2) hy
    obtain ⟨L1, h2, h3⟩ := sq0_inv h1
    obtain ⟨L2, h5, h6⟩ := sq1_inv h2
    obtain ⟨L3, h7, h8⟩ := tN_inv h5
    obtain ⟨L4, h9, _⟩ := sq0_inv h7
    obtain ⟨L5, h10, h11⟩ := sq0_inv h9
    obtain ⟨L6, h12, h13⟩ := sq1_inv h10
    have n6 := pNum_inv h6
    have hc := pTold_inv h13
    rw [ec] at hc
    have d3 : ¬ 64 < (y.1.2 - y.1.1.2 + 1) * many g.2.2.1 := fun z => by
      unfold pIf at h3
      rw [decide_eq_true z] at h3
      cases h3
    have d11 : ¬ y.1.1.1.2 ∈ g.2.2.1.map (fun y => y.1) := fun z => by
      unfold pIf at h11
      rw [decide_eq_true z] at h11
      cases h11
    rw [← (Prod.mk.inj (Sum.inr.inj hb)).1]
    refine ⟨a1, a2, a3, a4, by show (g.2.2.1 ++ [_]).length ≤ 2; rw [List.length_append]; show g.2.2.1.length + 1 ≤ 2; omega, fun z hz => ?_, ?_, ?_, a9, a10⟩
    · rcases mem_push hz with hz | rfl
      · exact a6 z hz
      · exact ⟨hc, n6.1, n6.2⟩
    · show many (g.2.2.1 ++ [_]) ≤ 64
      rw [many_push, Nat.mul_comm]
      show (y.1.2 - y.1.1.2 + 1) * many g.2.2.1 ≤ 64
      omega
    · show ((g.2.2.1 ++ [(y.1.1.1.2, y.1.1.2, y.1.2)]).map (fun y => y.1)).Nodup
      rw [List.map_append, List.nodup_append]
      refine ⟨a8, (List.nodup_cons.mpr ⟨List.not_mem_nil, List.nodup_nil⟩), fun p hp q hq e => ?_⟩
      rw [List.mem_singleton.mp hq] at e
      rw [e] at hp
      exact d11 hp
  rw [if_neg e16] at ht
  by_cases e17 : ix (hdt L) = 17
  · rw [if_pos e17] at ht
    unfold pLine at ht
    by_cases h4 : 16 ≤ g.2.2.2.length
    · rw [if_pos h4] at ht; cases ht
    rw [if_neg h4] at ht
    obtain ⟨y, hy, hb⟩ := bnd_inv ht
    obtain ⟨L0, h1, h2⟩ := tA_inv (b := y.1) (L' := y.2) hy
    obtain ⟨L1, h3, h5⟩ := tO_inv2 h1
    rw [es] at h5
    rw [ec] at h2
    rw [← (Prod.mk.inj (Sum.inr.inj hb)).1]
    refine ⟨a1, a2, a3, a4, a5, a6, a7, a8, by show (g.2.2.2 ++ [_]).length ≤ 16; rw [List.length_append]; show g.2.2.2.length + 1 ≤ 16; omega, fun z hz => ?_⟩
    rcases mem_push hz with hz | rfl
    · exact a10 z hz
    · exact ⟨h2.1, h5, h2.2⟩
  · rw [if_neg e17] at ht
    cases ht
theorem pAll_good : ∀ (n : Nat) (g g' : PGr) (L : List Tok), GK9 g → pAll n g L = .inr g' → GK9 g' := by
  intro n
  induction n with
  | zero => intro g g' L h e; rw [← Sum.inr.inj e]; exact h
  | succ n ih =>
    intro g g' L h e
    have e : (if ix (hdt L) = 0 then .inr g else bnd (tX (pTell g L) 6) fun x => pAll n x.1 x.2) = Sum.inr g' := e
    by_cases h0 : ix (hdt L) = 0
    · rw [if_pos h0] at e
      rw [← Sum.inr.inj e]
      exact h
    · rw [if_neg h0] at e
      cases hx : tX (pTell g L) 6 with
      | inl e2 => rw [hx] at e; cases e
      | inr y =>
        rw [hx] at e
        obtain ⟨L0, h1⟩ := tX_inv (a := y.1) (L' := y.2) hx
        exact ih y.1 g' y.2 (h.tell h1) e
theorem parse_good {ts : List Nat} {g : PGr} (h : parse ts = .inr g) : GK9 g := pAll_good _ _ _ _ GK9.nil h
end
section
theorem RR.wt {ts : List Nat} {t : Nat → Int32} {L : List Tok} {q b : Nat} {T td : Int32} {w : Int64} (hT : TL ts t) (h : RR ts L q b T w td) : WT L := by
  obtain ⟨k, r, e, hC, h1, h2, _⟩ := h
  by_cases e0 : k.1 = 0
  · rw [e, h2 e0]
    refine ⟨[], k.2.1, ?_, fun k hk => by cases hk⟩
    have b3 : k.2.2 = [] := hC.2.2.2.2.2.2.2.2.2.2 e0
    obtain ⟨k1, k2, k3⟩ := k
    have e0 : k1 = 0 := e0
    have b3 : k3 = [] := b3
    rw [e0, b3]
    rfl
  · rw [e, h1 e0]
    obtain ⟨M, p, e2, hM⟩ := tokL_WT (ts := ts) (ts.length - q) q (Nat.le_refl _)
    refine ⟨k :: M, p, by rw [e2]; rfl, fun j hj => ?_⟩
    rcases List.mem_cons.mp hj with rfl | hj
    · exact e0
    · exact hM j hj
/-- outside of the first section nothing is changed, in no row of programmes -/
def FR8 (st ce ip ln be co ca ic il im ac aC ls tw lf lt cd st' ce' ip' ln' be' co' ca' ic' il' im' ac' aC' ls' tw' lf' lt' cd' : Nat → Int32) : Prop := F1 1 st st' ∧ F1 1 ce ce' ∧ F1 1 ip ip' ∧ F1 1 ln ln' ∧ F1 4 be be' ∧ F1 4 co co' ∧ F1 6 ca ca' ∧ F1 2 ic ic' ∧ F1 2 il il' ∧ F1 2 im im' ∧ F1 16 ac ac' ∧ F1 16 aC aC' ∧ F1 16 ls ls' ∧ F1 16 tw tw' ∧ F1 32 lf lf' ∧ F1 32 lt lt' ∧ F1 1000 cd cd'
theorem FR8.rf {st ce ip ln be co ca ic il im ac aC ls tw lf lt cd : Nat → Int32} : FR8 st ce ip ln be co ca ic il im ac aC ls tw lf lt cd st ce ip ln be co ca ic il im ac aC ls tw lf lt cd := ⟨F1.rf, F1.rf, F1.rf, F1.rf, F1.rf, F1.rf, F1.rf, F1.rf, F1.rf, F1.rf, F1.rf, F1.rf, F1.rf, F1.rf, F1.rf, F1.rf, F1.rf⟩
/-- the reference's first section and names as g says -/
def RB8 (g : PGr) (st ce ip ln : Nat → Int32) (sn cnn : Nat → Int64) (be co ca ic il im ac aC ls tw lf lt cd : Nat → Int32) (c : Nat) : Prop := NB (snm g) sn ∧ NB (cnm g) cnn ∧ SB 1 g.1 st be co ∧ CB 1 g.2.1 ce ca ∧ IB 1 g.2.2.1 ip ic il im ∧ LBd 1 g.2.2.2 ln ac aC lf lt cd ∧ TB 1 g.2.2.2 ls tw ∧ LC8 g.2.2.2 c lf
abbrev PRA8 : Type := Int32 → Int32 → Int32 → Int32 → Int32 → Int32 → Int64 → Int32 → Int32 → Int32 → (Nat → Int32) → (Nat → Int32) → (Nat → Int32) → (Nat → Int32) → (Nat → Int64) → (Nat → Int64) → (Nat → Int32) → (Nat → Int32) → (Nat → Int32) → (Nat → Int32) → (Nat → Int32) → (Nat → Int32) → (Nat → Int32) → (Nat → Int32) → (Nat → Int32) → (Nat → Int32) → (Nat → Int32) → (Nat → Int32) → (Nat → Int32) → (Nat → Int32) → (Nat → Int32) → Prop
section RA8
variable {ts : List Nat} {t : Nat → Int32}
theorem sq8_readsAll57 {Φ : PRA8} {st0 ce0 ip0 ln0 be0 co0 ca0 ic0 il0 im0 ac0 aC0 ls0 tw0 lf0 lt0 cd0 : Nat → Int32} (hT : TL ts t) : ∀ (n m : Nat) (g : PGr) (L : List Tok) (q b : Nat) (T : Int32) (w : Int64) (td wr : Int32) (c : Nat) (st : Nat → Int32) (ce : Nat → Int32) (ip : Nat → Int32) (ln : Nat → Int32) (sn : Nat → Int64) (cnn : Nat → Int64) (be : Nat → Int32) (co : Nat → Int32) (ca : Nat → Int32) (ic : Nat → Int32) (il : Nat → Int32) (im : Nat → Int32) (ac : Nat → Int32) (aC : Nat → Int32) (ls : Nat → Int32) (tw : Nat → Int32) (lf : Nat → Int32) (lt : Nat → Int32) (cd : Nat → Int32) (op : Nat → Int32) (cm : Nat → Int32), RR ts L q b T w td → WT L → L.length ≤ m + 1 → GK9 g → RB8 g st ce ip ln sn cnn be co ca ic il im ac aC ls tw lf lt cd c → FR8 st0 ce0 ip0 ln0 be0 co0 ca0 ic0 il0 im0 ac0 aC0 ls0 tw0 lf0 lt0 cd0 st ce ip ln be co ca ic il im ac aC ls tw lf lt cd → 1000 ≤ c → c + L.length ≤ 2001 → (∀ e, pAll m g L = .inl e → ∀ (q' b' T' : Int32) (w' : Int64) (td' c' : Int32) (st' : Nat → Int32) (ce' : Nat → Int32) (ip' : Nat → Int32) (ln' : Nat → Int32) (sn' : Nat → Int64) (cnn' : Nat → Int64) (be' : Nat → Int32) (co' : Nat → Int32) (ca' : Nat → Int32) (ic' : Nat → Int32) (il' : Nat → Int32) (im' : Nat → Int32) (ac' : Nat → Int32) (aC' : Nat → Int32) (ls' : Nat → Int32) (tw' : Nat → Int32) (lf' : Nat → Int32) (lt' : Nat → Int32) (cd' : Nat → Int32) (op' : Nat → Int32) (cm' : Nat → Int32), FR8 st0 ce0 ip0 ln0 be0 co0 ca0 ic0 il0 im0 ac0 aC0 ls0 tw0 lf0 lt0 cd0 st' ce' ip' ln' be' co' ca' ic' il' im' ac' aC' ls' tw' lf' lt' cd' → Φ 0 0 (nI ts.length) q' b' T' w' td' (nI e) c' st' ce' ip' ln' sn' cnn' be' co' ca' ic' il' im' ac' aC' ls' tw' lf' lt' cd' op' cm') → (∀ g', pAll m g L = .inr g' → ∀ (q' b' T' : Int32) (w' : Int64) (td' wr' : Int32) (c' : Nat) (st' : Nat → Int32) (ce' : Nat → Int32) (ip' : Nat → Int32) (ln' : Nat → Int32) (sn' : Nat → Int64) (cnn' : Nat → Int64) (be' : Nat → Int32) (co' : Nat → Int32) (ca' : Nat → Int32) (ic' : Nat → Int32) (il' : Nat → Int32) (im' : Nat → Int32) (ac' : Nat → Int32) (aC' : Nat → Int32) (ls' : Nat → Int32) (tw' : Nat → Int32) (lf' : Nat → Int32) (lt' : Nat → Int32) (cd' : Nat → Int32) (op' : Nat → Int32) (cm' : Nat → Int32), FR8 st0 ce0 ip0 ln0 be0 co0 ca0 ic0 il0 im0 ac0 aC0 ls0 tw0 lf0 lt0 cd0 st' ce' ip' ln' be' co' ca' ic' il' im' ac' aC' ls' tw' lf' lt' cd' → RB8 g' st' ce' ip' ln' sn' cnn' be' co' ca' ic' il' im' ac' aC' ls' tw' lf' lt' cd' c' → Φ 1 0 (nI ts.length) q' b' T' w' td' wr' (nI c') st' ce' ip' ln' sn' cnn' be' co' ca' ic' il' im' ac' aC' ls' tw' lf' lt' cd' op' cm') → ll_X8_readsAll_57 t Φ n 0 (nI ts.length) (nI q) (nI b) T w td wr (nI c) st ce ip ln sn cnn be co ca ic il im ac aC ls tw lf lt cd op cm := by
  intro n
  induction n with
  | zero => intros; trivial
  | succ n ih =>
    intro m g L q b T w td wr c st ce ip ln sn cnn be co ca ic il im ac aC ls tw lf lt cd op cm h hW hm hG hR hF hc1 hc2 bad good
    have hL1 : 1 ≤ L.length := lpos hW.ne
    obtain ⟨r1, r2, r3, r4, r5, r6, r7, r8⟩ := id hR
    obtain ⟨f_st, f_ce, f_ip, f_ln, f_be, f_co, f_ca, f_ic, f_il, f_im, f_ac, f_aC, f_ls, f_tw, f_lf, f_lt, f_cd⟩ := id hF
    have es : (snm g).length = g.1.length := List.length_map _
    have ec : (cnm g).length = g.2.1.length := List.length_map _
    have hst : st 1 = nI (snm g).length := by rw [es]; exact r3.1
    have hce : ce 1 = nI (cnm g).length := by rw [ec]; exact r4.1
    obtain ⟨a1, a2, a3, a4, a5, a6, a7, a8, a9, a10⟩ := id hG
    have e0 : T = 0 ↔ (hdt L).1 = 0 := h.tT 0 (by decide)
    show bl_X8_readsAll_57 _ _ _ _ _ _ _ _ _ _ _ _ _ _ _ _ _ _ _ _ _ _ _ _ _ _ _ _ _ _ _ _ _
    unfold bl_X8_readsAll_57
    refine ⟨fun z => ?_, fun z => ?_⟩
    · have hp : pAll m g L = .inr g := by
        cases m with
        | zero => rfl
        | succ m => exact if_pos (ix_0.mpr (e0.mp z))
      exact good g hp _ _ _ _ _ _ c _ _ _ _ _ _ _ _ _ _ _ _ _ _ _ _ _ _ _ _ _ hF hR
    · have hne : ¬ (hdt L).1 = 0 := fun y => z (e0.mpr y)
      have hlen := hW.advZ.2.2 hne
      have hWl : 1 ≤ (adv L).length := lpos hW.advZ.1.ne
      obtain ⟨m, rfl⟩ : ∃ k, m = k + 1 := ⟨m - 1, by omega⟩
      have hp : pAll (m + 1) g L = bnd (tX (pTell g L) 6) fun x => pAll m x.1 x.2 := if_neg (fun y => hne (ix_0.mp y))
      rw [hp] at bad good
      have la := adv_le L
      refine sq8_word 0 (by decide) rfl h (fun e12 => ⟨fun z => absurd z (by (try dsimp only); decide), fun _ => ?_⟩) (fun n12 => ⟨fun _ => ?_, fun z => absurd rfl z⟩)
      · have hpt : pTell g L = pStuff g L := if_pos e12
        refine sq8_readsStuff hT h r1 r2 r3 a1 hce (fun e he q' b' T' w' td' st' sn' be' co' k1 k2 k3 => ⟨fun z => absurd rfl z, fun _ => bad e (by rw [hpt, he]; rfl) _ _ _ _ _ _ _ _ _ _ _ _ _ _ _ _ _ _ _ _ _ _ _ _ _ _ _ ⟨f_st.tr k1, f_ce, f_ip, f_ln, f_be.tr k2, f_co.tr k3, f_ca, f_ic, f_il, f_im, f_ac, f_aC, f_ls, f_tw, f_lf, f_lt, f_cd⟩⟩) (fun g' L' he hg q' b' T' w' td' st' sn' be' co' h' k1 k2 k3 n1 n2 => ⟨fun _ => ?_, fun z => absurd z (by (try dsimp only); decide)⟩)
        have eg : g'.2 = g.2 := hg
        have ecn : cnm g' = cnm g := by unfold cnm; rw [eg]
        have hl := ((pStuff_le (g := g) (L := L)).say (w := 6)).advZ g' L' he
        obtain ⟨L0, ht⟩ := tX_inv he
        have hW' : WT L' := h'.wt hT
        refine ih m g' L' _ _ _ _ _ _ c st' ce ip ln sn' cnn be' co' ca ic il im ac aC ls tw lf lt cd op cm h' hW' (by omega) (hG.tell (by rw [hpt]; exact ht)) ⟨n1, by rw [ecn]; exact r2, n2, by rw [eg]; exact r4, by rw [eg]; exact r5, by rw [eg]; exact r6, by rw [eg]; exact r7, by rw [eg]; exact r8⟩ ⟨f_st.tr k1, f_ce, f_ip, f_ln, f_be.tr k2, f_co.tr k3, f_ca, f_ic, f_il, f_im, f_ac, f_aC, f_ls, f_tw, f_lf, f_lt, f_cd⟩ hc1 (by omega) (fun e hb => bad e (by rw [hpt, he]; exact hb)) (fun g2 hb => good g2 (by rw [hpt, he]; exact hb))
      refine sq8_word 3 (by decide) rfl h (fun e15 => ⟨fun z => absurd z (by (try dsimp only); decide), fun _ => ?_⟩) (fun n15 => ⟨fun _ => ?_, fun z => absurd rfl z⟩)
      · have hpt : pTell g L = pCell g L := by unfold pTell; rw [if_neg n12, if_pos e15]
        refine sq8_readsCell hT h r1 r2 r4 hst (fun e he q' b' T' w' td' ce' cn' ca' k1 k2 => ⟨fun z => absurd rfl z, fun _ => bad e (by rw [hpt, he]; rfl) _ _ _ _ _ _ _ _ _ _ _ _ _ _ _ _ _ _ _ _ _ _ _ _ _ _ _ ⟨f_st, f_ce.tr k1, f_ip, f_ln, f_be, f_co, f_ca.tr k2, f_ic, f_il, f_im, f_ac, f_aC, f_ls, f_tw, f_lf, f_lt, f_cd⟩⟩) (fun g' L' he hg hg2 q' b' T' w' td' ce' cn' ca' h' k1 k2 n1 n2 => ⟨fun _ => ?_, fun z => absurd z (by (try dsimp only); decide)⟩)
        have esn : snm g' = snm g := by unfold snm; rw [hg]
        have hl := ((pCell_le (g := g) (L := L)).say (w := 6)).advZ g' L' he
        obtain ⟨L0, ht⟩ := tX_inv he
        have hW' : WT L' := h'.wt hT
        refine ih m g' L' _ _ _ _ _ _ c st ce' ip ln sn cn' be co ca' ic il im ac aC ls tw lf lt cd op cm h' hW' (by omega) (hG.tell (by rw [hpt]; exact ht)) ⟨by rw [esn]; exact r1, n1, by rw [hg]; exact r3, n2, by rw [hg2]; exact r5, by rw [hg2]; exact r6, by rw [hg2]; exact r7, by rw [hg2]; exact r8⟩ ⟨f_st, f_ce.tr k1, f_ip, f_ln, f_be, f_co, f_ca.tr k2, f_ic, f_il, f_im, f_ac, f_aC, f_ls, f_tw, f_lf, f_lt, f_cd⟩ hc1 (by omega) (fun e hb => bad e (by rw [hpt, he]; exact hb)) (fun g2 hb => good g2 (by rw [hpt, he]; exact hb))
      refine sq8_word 4 (by decide) rfl h (fun e16 => ⟨fun z => absurd z (by (try dsimp only); decide), fun _ => ?_⟩) (fun n16 => ⟨fun _ => ?_, fun z => absurd rfl z⟩)
      · have hpt : pTell g L = pInput g L := by unfold pTell; rw [if_neg n12, if_neg n15, if_pos e16]
        refine sq8_readsInput hT h r2 hce r5 a5 (fun y hy => ⟨by have := (a6 y hy).1; omega, (a6 y hy).2⟩) a7 (fun e he q' b' T' w' td' ip' ic' il' im' k1 k2 k3 k4 => ⟨fun z => absurd rfl z, fun _ => bad e (by rw [hpt, he]; rfl) _ _ _ _ _ _ _ _ _ _ _ _ _ _ _ _ _ _ _ _ _ _ _ _ _ _ _ ⟨f_st, f_ce, f_ip.tr k1, f_ln, f_be, f_co, f_ca, f_ic.tr k2, f_il.tr k3, f_im.tr k4, f_ac, f_aC, f_ls, f_tw, f_lf, f_lt, f_cd⟩⟩) (fun g' L' he hg hg2 hg3 q' b' T' w' td' ip' ic' il' im' h' k1 k2 k3 k4 n1 => ⟨fun _ => ?_, fun z => absurd z (by (try dsimp only); decide)⟩)
        have esn : snm g' = snm g := by unfold snm; rw [hg]
        have ecn : cnm g' = cnm g := by unfold cnm; rw [hg2]
        have hl := ((pInput_le (g := g) (L := L)).say (w := 6)).advZ g' L' he
        obtain ⟨L0, ht⟩ := tX_inv he
        have hW' : WT L' := h'.wt hT
        refine ih m g' L' _ _ _ _ _ _ c st ce ip' ln sn cnn be co ca ic' il' im' ac aC ls tw lf lt cd op cm h' hW' (by omega) (hG.tell (by rw [hpt]; exact ht)) ⟨by rw [esn]; exact r1, by rw [ecn]; exact r2, by rw [hg]; exact r3, by rw [hg2]; exact r4, n1, by rw [hg3]; exact r6, by rw [hg3]; exact r7, by rw [hg3]; exact r8⟩ ⟨f_st, f_ce, f_ip.tr k1, f_ln, f_be, f_co, f_ca, f_ic.tr k2, f_il.tr k3, f_im.tr k4, f_ac, f_aC, f_ls, f_tw, f_lf, f_lt, f_cd⟩ hc1 (by omega) (fun e hb => bad e (by rw [hpt, he]; exact hb)) (fun g2 hb => good g2 (by rw [hpt, he]; exact hb))
      refine sq8_word 5 (by decide) rfl h (fun e17 => ⟨fun z => absurd z (by (try dsimp only); decide), fun _ => ?_⟩) (fun n17 => ⟨fun _ => ?_, fun z => absurd rfl z⟩)
      · have hpt : pTell g L = pLine g L := by unfold pTell; rw [if_neg n12, if_neg n15, if_neg n16, if_pos e17]
        refine sq8_readsLine hT h hW hne r1 r2 hst hce r6 r7 a9 hc1 hc2 r8 (fun e he q' b' T' w' td' c' ln' ac' aC' ls' tw' lf' lt' cd' op' cm' k1 k2 k3 k4 k5 k6 k7 k8 => ⟨fun z => absurd rfl z, fun _ => bad e (by rw [hpt, he]; rfl) _ _ _ _ _ _ _ _ _ _ _ _ _ _ _ _ _ _ _ _ _ _ _ _ _ _ _ ⟨f_st, f_ce, f_ip, f_ln.tr k1, f_be, f_co, f_ca, f_ic, f_il, f_im, f_ac.tr k2, f_aC.tr k3, f_ls.tr k4, f_tw.tr k5, f_lf.tr k6, f_lt.tr k7, f_cd.tr k8⟩⟩) (fun g' L' he hg hg2 hg3 q' b' T' w' td' c' ln' ac' aC' ls' tw' lf' lt' cd' op' cm' h' hW' hc1' hc2' hl k1 k2 k3 k4 k5 k6 k7 k8 n1 n2 n3 n4 => ⟨fun _ => ?_, fun z => absurd z (by (try dsimp only); decide)⟩)
        have esn : snm g' = snm g := by unfold snm; rw [hg]
        have ecn : cnm g' = cnm g := by unfold cnm; rw [hg2]
        obtain ⟨L0, ht⟩ := tX_inv he
        refine ih m g' L' _ _ _ _ _ _ c' st ce ip ln' sn cnn be co ca ic il im ac' aC' ls' tw' lf' lt' cd' op' cm' h' hW' (by omega) (hG.tell (by rw [hpt]; exact ht)) ⟨by rw [esn]; exact r1, by rw [ecn]; exact r2, by rw [hg]; exact r3, by rw [hg2]; exact r4, by rw [hg3]; exact r5, n1, n2, n3⟩ ⟨f_st, f_ce, f_ip, f_ln.tr k1, f_be, f_co, f_ca, f_ic, f_il, f_im, f_ac.tr k2, f_aC.tr k3, f_ls.tr k4, f_tw.tr k5, f_lf.tr k6, f_lt.tr k7, f_cd.tr k8⟩ hc1' (by omega) (fun e hb => bad e (by rw [hpt, he]; exact hb)) (fun g2 hb => good g2 (by rw [hpt, he]; exact hb))
      have hpt : pTell g L = .inl (flt 1 L) := by unfold pTell; rw [if_neg n12, if_neg n15, if_neg n16, if_neg n17]
      have e1 : (1 : Int32) + 16 * nI b = nI (flt 1 L) := h.fltZ 1
      refine ⟨fun z => absurd rfl z, fun _ => ?_⟩
      rw [e1]
      exact bad _ (by rw [hpt]; rfl) _ _ _ _ _ _ _ _ _ _ _ _ _ _ _ _ _ _ _ _ _ _ _ _ _ _ _ hF
end RA8
end
section
/-- n numbers were moved from the f-th to the g-th place -/
def MVd (n f g : Nat) (r r' : Nat → Int32) : Prop := (∀ k, k < n → r' (n * g + k) = r (n * f + k)) ∧ ∀ j, (j < n * g ∨ n * g + n ≤ j) → r' j = r j
def MVs (f g : Nat) (r r' : Nat → Int32) : Prop := (∀ k, k < 32 → r' (32 * g + k) = r (32 * f + k) + 1000 * (nI g - nI f)) ∧ ∀ j, (j < 32 * g ∨ 32 * g + 32 ≤ j) → r' j = r j
theorem MVd.keep {n f g p i : Nat} {r r' : Nat → Int32} (h : MVd n f g r r') (hp : p ≠ g) (hi : i < n) : r' (n * p + i) = r (n * p + i) := by
  apply h.2
  rcases Nat.lt_or_gt_of_ne hp with hl | hl
  · have := mul_ap (n := n) hl; omega
  · have := mul_ap (n := n) hl; omega
theorem MVs.keep {f g p i : Nat} {r r' : Nat → Int32} (h : MVs f g r r') (hp : p ≠ g) (hi : i < 32) : r' (32 * p + i) = r (32 * p + i) := by
  apply h.2
  omega
theorem sq8_moves {rl n f g : Nat} {r : Nat → Int32} {Φ : (Nat → Int32) → Prop} (hr : n * 6 ≤ rl) (hrl : rl ≤ 6000) (hf : f < 6) (hg : g < 6) (hne : ¬ f = g) (hΦ : ∀ r' : Nat → Int32, MVd n f g r r' → Φ r') : wl_X8_moves rl (nI n) (nI f) (nI g) r Φ := by
  have bf := mul_lt6 (n := n) hf
  have bg := mul_lt6 (n := n) hg
  have key : ∀ (m k : Nat) (r' : Nat → Int32), k ≤ n → (∀ j, j < k → r' (n * g + j) = r (n * f + j)) → (∀ j, (j < n * g ∨ n * g + k ≤ j) → r' j = r j) → ll_X8_moves_3 rl (nI n) (nI f) (nI g) Φ m r' (nI k) := by
    intro m
    induction m with
    | zero => intros; trivial
    | succ m ih =>
      intro k r' hk h1 h2
      show bl_X8_moves_3 _ _ _ _ _ _ _ _
      unfold bl_X8_moves_3
      rw [pk_mul, pk_mul, nI_add, nI_add, nI_leI (by omega) (by omega)]
      refine ⟨fun z => hΦ r' ⟨fun j hj => h1 j (by omega), fun j hj => h2 j (by omega)⟩, fun z _ _ => ?_⟩
      rw [nI_clamp (by omega), nI_clamp (by omega), nI_1]
      have e0 : r' (n * f + k) = r (n * f + k) := by
        apply h2
        rcases Nat.lt_or_gt_of_ne hne with hl | hl
        · have := mul_ap (n := n) hl; omega
        · have := mul_ap (n := n) hl; omega
      refine ih (k + 1) _ (by omega) (fun j hj => ?_) (fun j hj => ?_)
      · by_cases ej : j = k
        · subst ej; rw [pk_us]; exact e0
        · rw [pk_un (by omega)]; exact h1 j (by omega)
      · rw [pk_un (by omega)]; exact h2 j (by omega)
  exact fun m => key m 0 r (Nat.zero_le _) (fun j hj => absurd hj (Nat.not_lt_zero _)) (fun _ _ => rfl)
/-- the programme at p, and how it is laid -/
def RP8 (p : Nat) (g : PGr) (st ce ip ln be co ca ic il im ac aC lf lt cd : Nat → Int32) : Prop := SB p g.1 st be co ∧ CB p g.2.1 ce ca ∧ IB p g.2.2.1 ip ic il im ∧ LBd p g.2.2.2 ln ac aC lf lt cd
def YB (p n : Nat) (sf tf : Nat → Nat) (ls tw : Nat → Int32) : Prop := ∀ i, i < n → ls (16 * p + i) = nI (sf i) ∧ tw (16 * p + i) = nI (tf i)
/-- what lays does: the programme at g becomes that at f; all others stay -/
def LY8 (f g : Nat) (st ce ip ln be co ca ic il im ac aC ls tw lf lt cd st' ce' ip' ln' be' co' ca' ic' il' im' ac' aC' ls' tw' lf' lt' cd' : Nat → Int32) : Prop := (∀ G, GK9 G → RP8 f G st ce ip ln be co ca ic il im ac aC lf lt cd → RP8 g G st' ce' ip' ln' be' co' ca' ic' il' im' ac' aC' lf' lt' cd') ∧ (∀ p G, p < 6 → p ≠ g → GK9 G → RP8 p G st ce ip ln be co ca ic il im ac aC lf lt cd → RP8 p G st' ce' ip' ln' be' co' ca' ic' il' im' ac' aC' lf' lt' cd') ∧ (∀ n sf tf, n ≤ 16 → YB f n sf tf ls tw → YB g n sf tf ls' tw') ∧ ∀ p n sf tf, p < 6 → p ≠ g → n ≤ 16 → YB p n sf tf ls tw → YB p n sf tf ls' tw'
theorem ly_of {f g : Nat} {st ce ip ln be co ca ic il im ac aC ls tw lf lt cd st' ce' ip' ln' be' co' ca' ic' il' im' ac' aC' ls' tw' lf' lt' cd' : Nat → Int32} (hf : f < 6) (hg : g < 6) (m1 : MVd 1 f g st st') (m2 : MVd 1 f g ce ce') (m3 : MVd 1 f g ip ip') (m4 : MVd 1 f g ln ln') (m5 : MVd 4 f g be be') (m6 : MVd 4 f g co co') (m7 : MVd 6 f g ca ca') (m8 : MVd 2 f g ic ic') (m9 : MVd 2 f g il il') (m10 : MVd 2 f g im im') (m11 : MVd 16 f g ac ac') (m12 : MVd 16 f g aC aC') (m13 : MVd 16 f g ls ls') (m14 : MVd 16 f g tw tw') (m15 : MVd 1000 f g cd cd') (m16 : MVs f g lf lf') (m17 : MVs f g lt lt') : LY8 f g st ce ip ln be co ca ic il im ac aC ls tw lf lt cd st' ce' ip' ln' be' co' ca' ic' il' im' ac' aC' ls' tw' lf' lt' cd' := by
  have o : ∀ {r r' : Nat → Int32}, MVd 1 f g r r' → r' g = r f := fun h => by
    have := h.1 0 (by decide)
    rw [Nat.one_mul, Nat.one_mul, Nat.add_zero, Nat.add_zero] at this
    exact this
  have o2 : ∀ {r r' : Nat → Int32} {p : Nat}, MVd 1 f g r r' → p ≠ g → r' p = r p := fun {r r' p} h hp => by
    have := h.keep hp (i := 0) (by decide)
    rw [Nat.one_mul, Nat.add_zero] at this
    exact this
  have er : ∀ (k : Nat) (i : List Nat), k < 32 → ER9 f k i lf lt cd → ER9 g k i lf' lt' cd' := by
    intro k i hk ⟨a, h1, h2, h3, h4⟩
    refine ⟨a, ?_, ?_, h3, fun j c hj => ?_⟩
    · rw [m16.1 k hk, h1, sh_eq (by omega)]
      exact congrArg nI (by omega)
    · rw [m17.1 k hk, h2, sh_eq (by omega)]
      exact congrArg nI (by omega)
    · have := get_lt hj
      have e := m15.1 (a + j) (by omega)
      rw [show 1000 * g + a + j = 1000 * g + (a + j) by omega, e, show 1000 * f + (a + j) = 1000 * f + a + j by omega]
      exact h4 j c hj
  have er2 : ∀ (p k : Nat) (i : List Nat), p ≠ g → k < 32 → ER9 p k i lf lt cd → ER9 p k i lf' lt' cd' := by
    intro p k i hp hk ⟨a, h1, h2, h3, h4⟩
    refine ⟨a, (m16.keep hp hk).trans h1, (m17.keep hp hk).trans h2, h3, fun j c hj => ?_⟩
    have := get_lt hj
    have e := m15.keep hp (i := a + j) (by omega)
    rw [show 1000 * p + a + j = 1000 * p + (a + j) by omega, e, show 1000 * p + (a + j) = 1000 * p + a + j by omega]
    exact h4 j c hj
  refine ⟨fun G hG ⟨⟨s1, s2⟩, ⟨c1, c2⟩, ⟨i1, i2⟩, ⟨l1, l2⟩⟩ => ?_, fun p G hp6 hp hG ⟨⟨s1, s2⟩, ⟨c1, c2⟩, ⟨i1, i2⟩, ⟨l1, l2⟩⟩ => ?_, fun n sf tf hn hy i hi => ?_, fun p n sf tf hp6 hp hn hy i hi => ?_⟩
  · refine ⟨⟨(o m1).trans s1, fun i y hi => ?_⟩, ⟨(o m2).trans c1, fun i y hi => ?_⟩, ⟨(o m3).trans i1, fun i y hi => ?_⟩, ⟨(o m4).trans l1, fun i y hi => ?_⟩⟩
    · have := get_lt hi
      have h4 := hG.1
      rw [m5.1 i (by omega), m6.1 i (by omega)]
      exact s2 i y hi
    · have := get_lt hi
      have h4 := hG.2.2.1
      rw [m7.1 i (by omega)]
      exact c2 i y hi
    · have := get_lt hi
      have h4 := hG.2.2.2.2.1
      rw [m8.1 i (by omega), m9.1 i (by omega), m10.1 i (by omega)]
      exact i2 i y hi
    · have := get_lt hi
      have h4 := hG.2.2.2.2.2.2.2.2.1
      obtain ⟨a1, a2, a3, a4⟩ := l2 i y hi
      exact ⟨by rw [m11.1 i (by omega)]; exact a1, fun z => by rw [m12.1 i (by omega)]; exact a2 z, fun z => er _ _ (by omega) (a3 z), fun z => er _ _ (by omega) (a4 z)⟩
  · refine ⟨⟨(o2 m1 hp).trans s1, fun i y hi => ?_⟩, ⟨(o2 m2 hp).trans c1, fun i y hi => ?_⟩, ⟨(o2 m3 hp).trans i1, fun i y hi => ?_⟩, ⟨(o2 m4 hp).trans l1, fun i y hi => ?_⟩⟩
    · have := get_lt hi
      have h4 := hG.1
      rw [m5.keep hp (by omega), m6.keep hp (by omega)]
      exact s2 i y hi
    · have := get_lt hi
      have h4 := hG.2.2.1
      rw [m7.keep hp (by omega)]
      exact c2 i y hi
    · have := get_lt hi
      have h4 := hG.2.2.2.2.1
      rw [m8.keep hp (by omega), m9.keep hp (by omega), m10.keep hp (by omega)]
      exact i2 i y hi
    · have := get_lt hi
      have h4 := hG.2.2.2.2.2.2.2.2.1
      obtain ⟨a1, a2, a3, a4⟩ := l2 i y hi
      exact ⟨by rw [m11.keep hp (by omega)]; exact a1, fun z => by rw [m12.keep hp (by omega)]; exact a2 z, fun z => er2 _ _ _ hp (by omega) (a3 z), fun z => er2 _ _ _ hp (by omega) (a4 z)⟩
  · rw [m13.1 i (by omega), m14.1 i (by omega)]
    exact hy i hi
  · rw [m13.keep hp (by omega), m14.keep hp (by omega)]
    exact hy i hi
theorem sq8_lays {f g : Nat} {st ce ip ln be co ca ic il im ac aC ls tw lf lt cd : Nat → Int32} {Φ : PY} (hf : f < 6) (hg : g < 6) (hne : ¬ f = g) (hΦ : ∀ st' ce' ip' ln' be' co' ca' ic' il' im' ac' aC' ls' tw' lf' lt' cd', LY8 f g st ce ip ln be co ca ic il im ac aC ls tw lf lt cd st' ce' ip' ln' be' co' ca' ic' il' im' ac' aC' ls' tw' lf' lt' cd' → Φ st' ce' ip' ln' be' co' ca' ic' il' im' ac' aC' ls' tw' lf' lt' cd') : wl_X8_lays (nI f) (nI g) st ce ip ln be co ca ic il im ac aC ls tw lf lt cd Φ := by
  unfold wl_X8_lays
  refine sq8_moves (n := 1) (by decide) (by decide) hf hg hne (fun st' m1 => ?_)
  refine sq8_moves (n := 1) (by decide) (by decide) hf hg hne (fun ce' m2 => ?_)
  refine sq8_moves (n := 1) (by decide) (by decide) hf hg hne (fun ip' m3 => ?_)
  refine sq8_moves (n := 1) (by decide) (by decide) hf hg hne (fun ln' m4 => ?_)
  refine sq8_moves (n := 4) (by decide) (by decide) hf hg hne (fun be' m5 => ?_)
  refine sq8_moves (n := 4) (by decide) (by decide) hf hg hne (fun co' m6 => ?_)
  refine sq8_moves (n := 6) (by decide) (by decide) hf hg hne (fun ca' m7 => ?_)
  refine sq8_moves (n := 2) (by decide) (by decide) hf hg hne (fun ic' m8 => ?_)
  refine sq8_moves (n := 2) (by decide) (by decide) hf hg hne (fun il' m9 => ?_)
  refine sq8_moves (n := 2) (by decide) (by decide) hf hg hne (fun im' m10 => ?_)
  refine sq8_moves (n := 16) (by decide) (by decide) hf hg hne (fun ac' m11 => ?_)
  refine sq8_moves (n := 16) (by decide) (by decide) hf hg hne (fun aC' m12 => ?_)
  refine sq8_moves (n := 16) (by decide) (by decide) hf hg hne (fun ls' m13 => ?_)
  refine sq8_moves (n := 16) (by decide) (by decide) hf hg hne (fun tw' m14 => ?_)
  refine sq8_moves (n := 1000) (by decide) (by decide) hf hg hne (fun cd' m15 => ?_)
  have key : ∀ (m k : Nat) (lf' lt' : Nat → Int32), k ≤ 32 → (∀ j, j < k → lf' (32 * g + j) = lf (32 * f + j) + 1000 * (nI g - nI f)) → (∀ j, (j < 32 * g ∨ 32 * g + k ≤ j) → lf' j = lf j) → (∀ j, j < k → lt' (32 * g + j) = lt (32 * f + j) + 1000 * (nI g - nI f)) → (∀ j, (j < 32 * g ∨ 32 * g + k ≤ j) → lt' j = lt j) → ll_X8_lays_159 (nI f) (nI g) Φ m st' ce' ip' ln' be' co' ca' ic' il' im' ac' aC' ls' tw' lf' lt' cd' (nI k) := by
    intro m
    induction m with
    | zero => intros; trivial
    | succ m ih =>
      intro k lf' lt' hk h1 h2 h3 h4
      show bl_X8_lays_159 _ _ _ _ _ _ _ _ _ _ _ _ _ _ _ _ _ _ _ _ _ _
      unfold bl_X8_lays_159
      rw [show (32 : Int32) = nI 32 from rfl, pk_mul, pk_mul, nI_add, nI_add, nI_leI (by omega) (by omega)]
      refine ⟨fun z => hΦ _ _ _ _ _ _ _ _ _ _ _ _ _ _ _ _ _ (ly_of hf hg m1 m2 m3 m4 m5 m6 m7 m8 m9 m10 m11 m12 m13 m14 m15 ⟨fun j hj => h1 j (by omega), fun j hj => h2 j (by omega)⟩ ⟨fun j hj => h3 j (by omega), fun j hj => h4 j (by omega)⟩), fun z _ _ _ _ => ?_⟩
      rw [nI_clamp (by omega), nI_clamp (by omega), nI_1]
      have e0 : lf' (32 * f + k) = lf (32 * f + k) := h2 _ (by omega)
      have e1 : lt' (32 * f + k) = lt (32 * f + k) := h4 _ (by omega)
      refine ih (k + 1) _ _ (by omega) (fun j hj => ?_) (fun j hj => ?_) (fun j hj => ?_) (fun j hj => ?_)
      · by_cases ej : j = k
        · subst ej; rw [pk_us, e0]
        · rw [pk_un (by omega)]; exact h1 j (by omega)
      · rw [pk_un (by omega)]; exact h2 j (by omega)
      · by_cases ej : j = k
        · subst ej; rw [pk_us, e1]
        · rw [pk_un (by omega)]; exact h3 j (by omega)
      · rw [pk_un (by omega)]; exact h4 j (by omega)
  exact fun m => key m 0 lf lt (Nat.zero_le _) (fun j hj => absurd hj (Nat.not_lt_zero _)) (fun _ _ => rfl) (fun j hj => absurd hj (Nat.not_lt_zero _)) (fun _ _ => rfl)
theorem RB8.rp {g : PGr} {st ce ip ln : Nat → Int32} {sn cnn : Nat → Int64} {be co ca ic il im ac aC ls tw lf lt cd : Nat → Int32} {c : Nat} (h : RB8 g st ce ip ln sn cnn be co ca ic il im ac aC ls tw lf lt cd c) : RP8 1 g st ce ip ln be co ca ic il im ac aC lf lt cd := ⟨h.2.2.1, h.2.2.2.1, h.2.2.2.2.1, h.2.2.2.2.2.1⟩
/-- what reading leaves of the other programmes -/
theorem FR8.rp {p : Nat} {G : PGr} {st ce ip ln be co ca ic il im ac aC ls tw lf lt cd st' ce' ip' ln' be' co' ca' ic' il' im' ac' aC' ls' tw' lf' lt' cd' : Nat → Int32} (h : FR8 st ce ip ln be co ca ic il im ac aC ls tw lf lt cd st' ce' ip' ln' be' co' ca' ic' il' im' ac' aC' ls' tw' lf' lt' cd') (hp : p ≠ 1) (hG : GK9 G) (hR : RP8 p G st ce ip ln be co ca ic il im ac aC lf lt cd) : RP8 p G st' ce' ip' ln' be' co' ca' ic' il' im' ac' aC' lf' lt' cd' := by
  obtain ⟨m1, m2, m3, m4, m5, m6, m7, m8, m9, m10, m11, m12, _, _, m16, m17, m15⟩ := h
  obtain ⟨⟨s1, s2⟩, ⟨c1, c2⟩, ⟨i1, i2⟩, ⟨l1, l2⟩⟩ := hR
  have er2 : ∀ (k : Nat) (i : List Nat), k < 32 → ER9 p k i lf lt cd → ER9 p k i lf' lt' cd' := by
    intro k i hk ⟨a, h1, h2, h3, h4⟩
    refine ⟨a, (m16 _ (by omega)).trans h1, (m17 _ (by omega)).trans h2, h3, fun j c hj => ?_⟩
    have := get_lt hj
    exact (m15 _ (by omega)).trans (h4 j c hj)
  refine ⟨⟨(m1 _ (by omega)).trans s1, fun i y hi => ?_⟩, ⟨(m2 _ (by omega)).trans c1, fun i y hi => ?_⟩, ⟨(m3 _ (by omega)).trans i1, fun i y hi => ?_⟩, ⟨(m4 _ (by omega)).trans l1, fun i y hi => ?_⟩⟩
  · have := get_lt hi
    have h4 := hG.1
    rw [m5 _ (by omega), m6 _ (by omega)]
    exact s2 i y hi
  · have := get_lt hi
    have h4 := hG.2.2.1
    rw [m7 _ (by omega)]
    exact c2 i y hi
  · have := get_lt hi
    have h4 := hG.2.2.2.2.1
    rw [m8 _ (by omega), m9 _ (by omega), m10 _ (by omega)]
    exact i2 i y hi
  · have := get_lt hi
    have h4 := hG.2.2.2.2.2.2.2.2.1
    obtain ⟨a1, a2, a3, a4⟩ := l2 i y hi
    exact ⟨by rw [m11 _ (by omega)]; exact a1, fun z => by rw [m12 _ (by omega)]; exact a2 z, fun z => er2 _ _ (by omega) (a3 z), fun z => er2 _ _ (by omega) (a4 z)⟩
theorem FR8.yb {p n : Nat} {sf tf : Nat → Nat} {st ce ip ln be co ca ic il im ac aC ls tw lf lt cd st' ce' ip' ln' be' co' ca' ic' il' im' ac' aC' ls' tw' lf' lt' cd' : Nat → Int32} (h : FR8 st ce ip ln be co ca ic il im ac aC ls tw lf lt cd st' ce' ip' ln' be' co' ca' ic' il' im' ac' aC' ls' tw' lf' lt' cd') (hp : p ≠ 1) (hn : n ≤ 16) (hy : YB p n sf tf ls tw) : YB p n sf tf ls' tw' := by
  obtain ⟨_, _, _, _, _, _, _, _, _, _, _, _, m13, m14, _, _, _⟩ := h
  intro i hi
  rw [m13 _ (by omega), m14 _ (by omega)]
  exact hy i hi
abbrev PRP8 : Type := Int32 → Int32 → Int32 → Int32 → Int32 → Int32 → Int32 → Int64 → Int32 → Int32 → Int32 → Int32 → (Nat → Int32) → (Nat → Int32) → (Nat → Int32) → (Nat → Int32) → (Nat → Int64) → (Nat → Int64) → (Nat → Int32) → (Nat → Int32) → (Nat → Int32) → (Nat → Int32) → (Nat → Int32) → (Nat → Int32) → (Nat → Int32) → (Nat → Int32) → (Nat → Int32) → (Nat → Int32) → (Nat → Int32) → (Nat → Int32) → (Nat → Int32) → (Nat → Int32) → (Nat → Int32) → (Nat → Int32) → Prop
/-- what programme leaves where there is a fault: all other programmes -/
def FB8 (st ce ip ln be co ca ic il im ac aC ls tw lf lt cd st' ce' ip' ln' be' co' ca' ic' il' im' ac' aC' ls' tw' lf' lt' cd' : Nat → Int32) : Prop := (∀ p G, p < 6 → p ≠ 1 → GK9 G → RP8 p G st ce ip ln be co ca ic il im ac aC lf lt cd → RP8 p G st' ce' ip' ln' be' co' ca' ic' il' im' ac' aC' lf' lt' cd') ∧ ∀ p n sf tf, p < 6 → p ≠ 1 → n ≤ 16 → YB p n sf tf ls tw → YB p n sf tf ls' tw'
/-- where there is none: the programme that was read is at 0, laid as told -/
def FG8 (g : PGr) (st ce ip ln be co ca ic il im ac aC ls tw lf lt cd st' ce' ip' ln' be' co' ca' ic' il' im' ac' aC' ls' tw' lf' lt' cd' : Nat → Int32) : Prop := (∀ p G, p < 6 → p ≠ 1 → p ≠ 0 → GK9 G → RP8 p G st ce ip ln be co ca ic il im ac aC lf lt cd → RP8 p G st' ce' ip' ln' be' co' ca' ic' il' im' ac' aC' lf' lt' cd') ∧ (∀ p n sf tf, p < 6 → p ≠ 1 → p ≠ 0 → n ≤ 16 → YB p n sf tf ls tw → YB p n sf tf ls' tw') ∧ RP8 0 g st' ce' ip' ln' be' co' ca' ic' il' im' ac' aC' lf' lt' cd' ∧ YB 0 g.2.2.2.length (fun i => (g.2.2.2.getD i (0, 0, 0, ([], []), ([], []))).2.1) (fun _ => 1) ls' tw'
theorem sq8_programme {ts : List Nat} {t wo : Nat → Int32} {th sz pl b T td wr c sta : Int32} {w : Int64} {st : Nat → Int32} {ce : Nat → Int32} {ip : Nat → Int32} {ln : Nat → Int32} {sn : Nat → Int64} {cnn : Nat → Int64} {be : Nat → Int32} {co : Nat → Int32} {ca : Nat → Int32} {ic : Nat → Int32} {il : Nat → Int32} {im : Nat → Int32} {ac : Nat → Int32} {aC : Nat → Int32} {ls : Nat → Int32} {tw : Nat → Int32} {lf : Nat → Int32} {lt : Nat → Int32} {cd : Nat → Int32} {op : Nat → Int32} {cm : Nat → Int32} {Φ : PRP8} (hT : TL ts t)
    (bad : ∀ e, parse ts = .inl e → ∀ (sz' pl' b' T' : Int32) (w' : Int64) (td' wr' c' : Int32) (st' : Nat → Int32) (ce' : Nat → Int32) (ip' : Nat → Int32) (ln' : Nat → Int32) (sn' : Nat → Int64) (cnn' : Nat → Int64) (be' : Nat → Int32) (co' : Nat → Int32) (ca' : Nat → Int32) (ic' : Nat → Int32) (il' : Nat → Int32) (im' : Nat → Int32) (ac' : Nat → Int32) (aC' : Nat → Int32) (ls' : Nat → Int32) (tw' : Nat → Int32) (lf' : Nat → Int32) (lt' : Nat → Int32) (cd' : Nat → Int32) (op' : Nat → Int32) (cm' : Nat → Int32), FB8 st ce ip ln be co ca ic il im ac aC ls tw lf lt cd st' ce' ip' ln' be' co' ca' ic' il' im' ac' aC' ls' tw' lf' lt' cd' → Φ (nI e) 0 0 sz' pl' b' T' w' td' wr' c' sta st' ce' ip' ln' sn' cnn' be' co' ca' ic' il' im' ac' aC' ls' tw' lf' lt' cd' op' cm' wo)
    (good : ∀ g, parse ts = .inr g → ∀ (sz' pl' b' T' : Int32) (w' : Int64) (td' wr' c' : Int32) (st' : Nat → Int32) (ce' : Nat → Int32) (ip' : Nat → Int32) (ln' : Nat → Int32) (sn' : Nat → Int64) (cnn' : Nat → Int64) (be' : Nat → Int32) (co' : Nat → Int32) (ca' : Nat → Int32) (ic' : Nat → Int32) (il' : Nat → Int32) (im' : Nat → Int32) (ac' : Nat → Int32) (aC' : Nat → Int32) (ls' : Nat → Int32) (tw' : Nat → Int32) (lf' : Nat → Int32) (lt' : Nat → Int32) (cd' : Nat → Int32) (op' : Nat → Int32) (cm' : Nat → Int32) (wo' : Nat → Int32), FG8 g st ce ip ln be co ca ic il im ac aC ls tw lf lt cd st' ce' ip' ln' be' co' ca' ic' il' im' ac' aC' ls' tw' lf' lt' cd' → (∀ j, j < 16 → wo' j = 0) → Φ 0 0 0 sz' pl' b' T' w' td' wr' c' 0 st' ce' ip' ln' sn' cnn' be' co' ca' ic' il' im' ac' aC' ls' tw' lf' lt' cd' op' cm' wo') : wl_X8_programme t th (nI ts.length) sz pl b T w td wr c sta st ce ip ln sn cnn be co ca ic il im ac aC ls tw lf lt cd op cm wo Φ := by
  unfold wl_X8_programme
  have hn := hT.1
  unfold wl_X8_readsAll
  have hr0 : ∀ p, F1 1 p (upd p 1 0) := fun p => F1.up (Nat.le_refl _) (by decide)
  have hF0 : FR8 st ce ip ln be co ca ic il im ac aC ls tw lf lt cd (upd st 1 0) (upd ce 1 0) (upd ip 1 0) (upd ln 1 0) be co ca ic il im ac aC ls tw lf lt cd := ⟨hr0 _, hr0 _, hr0 _, hr0 _, F1.rf, F1.rf, F1.rf, F1.rf, F1.rf, F1.rf, F1.rf, F1.rf, F1.rf, F1.rf, F1.rf, F1.rf, F1.rf⟩
  have nb : ∀ an, NB [] an := fun an => ⟨by decide, fun w hw => (by cases hw), fun i w h => by simp at h⟩
  have hR0 : RB8 ([], [], [], []) (upd st 1 0) (upd ce 1 0) (upd ip 1 0) (upd ln 1 0) sn cnn be co ca ic il im ac aC ls tw lf lt cd 1000 := ⟨nb _, nb _, ⟨pk_us, fun i y h => by simp at h⟩, ⟨pk_us, fun i y h => by simp at h⟩, ⟨pk_us, fun i y h => by simp at h⟩, ⟨pk_us, fun i y h => by simp at h⟩, fun i y h => by simp at h, fun i y h => by simp at h⟩
  refine iw_X8_nextToken (fun _ _ _ _ _ u => u) (sq_X8_nextToken (p := 0) hT (Nat.zero_le _) (fun k r q' b' T' w' td' e g1 g2 hC => ?_))
  intro n
  have hVT := tokL_VT hn ts.length 0 (by omega) (by omega)
  have hRR : RR ts (tokL ts 0) q' b' T' w' td' := ⟨k, r, e, hC, g1, g2, hVT k (by rw [e]; exact List.mem_cons_self)⟩
  have hlen := tokL_len (ts := ts) ts.length 0 (by omega) (by omega)
  refine sq8_readsAll57 hT n 1000 ([], [], [], []) (tokL ts 0) _ _ _ _ _ _ _ _ _ _ _ _ _ _ _ _ _ _ _ _ _ _ _ _ _ _ _ _ hRR (hRR.wt hT) (show (tokL ts 0).length ≤ 1000 + 1 by omega) GK9.nil hR0 hF0 (by decide) (show 1000 + (tokL ts 0).length ≤ 2001 by omega) (fun e he q2 b2 T2 w2 td2 c2n st' ce' ip' ln' sn' cnn' be' co' ca' ic' il' im' ac' aC' ls' tw' lf' lt' cd' op' cm' hf => ⟨fun z => absurd rfl z, fun _ => ?_⟩) (fun g hg q2 b2 T2 w2 td2 wr2 c2n st' ce' ip' ln' sn' cnn' be' co' ca' ic' il' im' ac' aC' ls' tw' lf' lt' cd' op' cm' hf hrb => ⟨fun _ => ?_, fun z => absurd z (by (try dsimp only); decide)⟩)
  · exact bad e he _ _ _ _ _ _ _ _ st' ce' ip' ln' sn' cnn' be' co' ca' ic' il' im' ac' aC' ls' tw' lf' lt' cd' op' cm' ⟨fun p G _ hp hG hR => hf.rp hp hG hR, fun p n sf tf _ hp hn hy => hf.yb hp hn hy⟩
  · have hG := parse_good (ts := ts) hg
    refine sq8_lays (f := 1) (g := 0) (by decide) (by decide) (by decide) (fun st2 ce2 ip2 ln2 be2 co2 ca2 ic2 il2 im2 ac2 aC2 ls2 tw2 lf2 lt2 cd2 hly => ?_)
    have hfg : FG8 g st ce ip ln be co ca ic il im ac aC ls tw lf lt cd st2 ce2 ip2 ln2 be2 co2 ca2 ic2 il2 im2 ac2 aC2 ls2 tw2 lf2 lt2 cd2 := by
      refine ⟨fun p G hp6 hp1 hp0 hGG hRR => hly.2.1 p G hp6 hp0 hGG (hf.rp hp1 hGG hRR), fun p n sf tf hp6 hp1 hp0 hn hy => hly.2.2.2 p n sf tf hp6 hp0 hn (hf.yb hp1 hn hy), hly.1 g hG hrb.rp, hly.2.2.1 _ _ _ hG.2.2.2.2.2.2.2.2.1 (fun i hi => ?_)⟩
      have hy := hrb.2.2.2.2.2.2.1 i _ (List.getElem?_eq_getElem hi)
      have eg : g.2.2.2.getD i (0, 0, 0, ([], []), ([], [])) = g.2.2.2[i] := by rw [List.getD_eq_getElem?_getD, List.getElem?_eq_getElem hi]; rfl
      show _ = nI (g.2.2.2.getD i (0, 0, 0, ([], []), ([], []))).2.1 ∧ _
      rw [eg]
      exact hy
    have key : ∀ (n k : Nat) (wo' : Nat → Int32), k ≤ 16 → (∀ j, j < k → wo' j = 0) → ll_X8_programme_30 t Φ n 0 0 (nI ts.length) q2 b2 T2 w2 td2 wr2 (nI c2n) 0 st2 ce2 ip2 ln2 sn' cnn' be2 co2 ca2 ic2 il2 im2 ac2 aC2 ls2 tw2 lf2 lt2 cd2 op' cm' wo' (nI k) := by
      intro n
      induction n with
      | zero => intros; trivial
      | succ n ih =>
        intro k wo' hk h0
        show bl_X8_programme_30 _ _ _ _ _ _ _ _ _ _ _ _ _ _ _ _ _ _ _ _ _ _ _ _ _ _ _ _ _ _ _ _ _ _ _ _ _
        unfold bl_X8_programme_30
        rw [show (16 : Int32) = nI 16 from rfl, nI_leI (a := 16) (by decide) (by omega)]
        refine ⟨fun z => good g hg _ _ _ _ _ _ _ _ st2 ce2 ip2 ln2 sn' cnn' be2 co2 ca2 ic2 il2 im2 ac2 aC2 ls2 tw2 lf2 lt2 cd2 op' cm' wo' hfg (fun j hj => h0 j (by omega)), fun z _ => ?_⟩
        rw [nI_1, nI_clamp (n := k) (by omega)]
        refine ih (k + 1) _ (by omega) (fun j hj => ?_)
        by_cases e : j = k
        · rw [e, pk_us]
        · rw [pk_un e]; exact h0 j (by omega)
    exact fun n => key n 0 wo (Nat.zero_le _) (fun j hj => absurd hj (Nat.not_lt_zero _))
end
section
/-- what joins two numbers, by the class's number -/
def jn (o : Nat) (x y : Int32) : Int32 := if o = 4 then (if ¬ x = 0 ∧ ¬ y = 0 then 1 else 0) else if o = 5 then (if ¬ x = 0 ∨ ¬ y = 0 then 1 else 0) else if o = 6 then (if x < y then 1 else 0) else if o = 7 then (if x = y then 1 else 0) else if o = 8 then x + y else if o = 9 then x - y else x * y
def nt (x : Int32) : Int32 := if x = 0 then 1 else 0
/-- one code of the class's, worked on a stack (the top is first): what the cells are, how worn the line of a number is -/
def pv1 (ce : Nat → Int32) (wv : Int32 → Int32) (st : List Int32) (c : Nat) : List Int32 :=
  if c % 16 = 0 then nI (c / 16) :: st else if c % 16 = 1 then ce (c / 16) :: st else
  match st with
  | [] => []
  | x :: r => if c % 16 = 2 then wv x :: r else if c % 16 = 3 then nt x :: r else
    match r with
    | [] => [x]
    | y :: s => jn (c % 16) y x :: s
def pvs (ce : Nat → Int32) (wv : Int32 → Int32) (p : List Nat) (st : List Int32) : List Int32 := p.foldl (pv1 ce wv) st
abbrev EF : Type := (Nat → Int32) → (Int32 → Int32) → Int32
/-- the codes p put the number F, and never more than B more lie on the stack -/
def EVp (p : List Nat) (B : Nat) (F : EF) : Prop := ∀ ce wv st, pvs ce wv p st = F ce wv :: st ∧ ∀ k, (pvs ce wv (p.take k) st).length ≤ st.length + B
section EVS
variable {p q : List Nat} {B B' : Nat} {F G : EF}
theorem pvs_app {ce : Nat → Int32} {wv : Int32 → Int32} {st : List Int32} : pvs ce wv (p ++ q) st = pvs ce wv q (pvs ce wv p st) := List.foldl_append
theorem take_or (k : Nat) : (p ++ q).take k = p.take k ∨ (p ++ q).take k = p ++ q.take (k - p.length) := by
  rw [List.take_append]
  by_cases h : k < p.length
  · left
    rw [show k - p.length = 0 by omega, List.take_zero, List.append_nil]
  · right
    rw [List.take_of_length_le (show p.length ≤ k by omega)]
theorem EVp.leaf {c : Nat} {F : EF} (h : ∀ ce wv st, pv1 ce wv st c = F ce wv :: st) : EVp [c] 1 F := by
  intro ce wv st
  refine ⟨h ce wv st, fun k => ?_⟩
  cases k with
  | zero => exact Nat.le_succ _
  | succ k =>
    have : [c].take (k + 1) = [c] := by simp
    rw [this]
    show (pv1 ce wv st c).length ≤ _
    rw [h]
    exact Nat.le_refl _
theorem EVp.mono (h : EVp p B F) (hB : B ≤ B') : EVp p B' F := fun ce wv st => ⟨(h ce wv st).1, fun k => Nat.le_trans ((h ce wv st).2 k) (by omega)⟩
theorem EVp.un {c : Nat} {G : EF} (h : EVp p B F) (hB : 1 ≤ B) (hc : ∀ ce wv x r, pv1 ce wv (x :: r) c = (if c % 16 = 2 then wv x else nt x) :: r) (hG : ∀ ce wv, G ce wv = if c % 16 = 2 then wv (F ce wv) else nt (F ce wv)) : EVp (p ++ [c]) B G := by
  intro ce wv st
  obtain ⟨h1, h2⟩ := h ce wv st
  have e1 : pvs ce wv (p ++ [c]) st = G ce wv :: st := by
    rw [pvs_app, h1]
    show pv1 ce wv _ c = _
    rw [hc, hG]
  refine ⟨e1, fun k => ?_⟩
  rcases take_or (p := p) (q := [c]) k with e | e
  · rw [e]; exact h2 k
  · rw [e]
    cases hk : k - p.length with
    | zero =>
      rw [List.take_zero, List.append_nil, h1, List.length_cons]
      omega
    | succ m =>
      have : [c].take (m + 1) = [c] := by simp
      rw [this, e1, List.length_cons]
      omega
theorem EVp.bin {o : Nat} (h : EVp p B F) (h' : EVp q B' G) (ho : 4 ≤ o) (ho2 : o < 16) : EVp (p ++ q ++ [o]) (max B (B' + 1)) (fun ce wv => jn o (F ce wv) (G ce wv)) := by
  intro ce wv st
  obtain ⟨h1, h2⟩ := h ce wv st
  obtain ⟨g1, g2⟩ := h' ce wv (F ce wv :: st)
  have e0 : pvs ce wv (p ++ q) st = G ce wv :: F ce wv :: st := by rw [pvs_app, h1, g1]
  have e1 : pvs ce wv (p ++ q ++ [o]) st = jn o (F ce wv) (G ce wv) :: st := by
    rw [pvs_app, e0]
    show pv1 ce wv (G ce wv :: F ce wv :: st) o = _
    unfold pv1
    rw [show o % 16 = o from Nat.mod_eq_of_lt ho2, if_neg (by omega), if_neg (by omega)]
    show (if o = 2 then _ else if o = 3 then _ else _) = _
    rw [if_neg (by omega), if_neg (by omega)]
  refine ⟨e1, fun k => ?_⟩
  have hG1 : (G ce wv :: F ce wv :: st).length ≤ st.length + max B (B' + 1) := by
    have := g2 q.length
    rw [List.take_length, g1] at this
    have e : (F ce wv :: st).length = st.length + 1 := rfl
    rw [e] at this
    omega
  rcases take_or (p := p ++ q) (q := [o]) k with e | e
  · rw [e]
    rcases take_or (p := p) (q := q) k with e2 | e2
    · rw [e2]
      have := h2 k
      omega
    · rw [e2, pvs_app, h1]
      have := g2 (k - p.length)
      have e : (F ce wv :: st).length = st.length + 1 := rfl
      rw [e] at this
      omega
  · rw [e]
    cases hk : k - (p ++ q).length with
    | zero => rw [List.take_zero, List.append_nil, e0]; exact hG1
    | succ m =>
      have : [o].take (m + 1) = [o] := by simp
      rw [this, e1]
      have e9 : (G ce wv :: F ce wv :: st).length = st.length + 2 := rfl
      rw [e9] at hG1
      show st.length + 1 ≤ _
      omega
end EVS
end
section
/-- the registers of the reference's working: kept, keptBy, ahead, against, sum, sumBy, term, termBy, byNot -/
def rg9 (a b c d e f g h i : Nat → Int32) : Nat → Nat → Int32
  | 0 => a
  | 1 => b
  | 2 => c
  | 3 => d
  | 4 => e
  | 5 => f
  | 6 => g
  | 7 => h
  | _ => i
/-- sum, test, all: what the registers of a depth come to -/
def SU9 (R : Nat → Nat → Int32) (d : Nat) : Int32 := if R 5 d = 21 then R 4 d - R 6 d else R 4 d + R 6 d
def TV9 (R : Nat → Nat → Int32) (d : Nat) : Int32 := if R 3 d = 24 then (if R 2 d < SU9 R d then 1 else 0) else if R 3 d = 25 then (if R 2 d = SU9 R d then 1 else 0) else SU9 R d
def XV9 (R : Nat → Nat → Int32) (d : Nat) : Int32 := if R 1 d = 26 then (if ¬ R 0 d = 0 ∧ ¬ TV9 R d = 0 then 1 else 0) else if R 1 d = 27 then (if ¬ R 0 d = 0 ∨ ¬ TV9 R d = 0 then 1 else 0) else TV9 R d
def AG9 (d : Nat) (R R' : Nat → Nat → Int32) : Prop := ∀ i j, i < 9 → j < d → R' i j = R i j
def SM9r (is : List Nat) (d : Nat) (R R' : Nat → Nat → Int32) : Prop := ∀ i, i ∈ is → R' i d = R i d
def PT9 (lv d : Nat) (R0 R : Nat → Nat → Int32) (F : Int32) : Prop := AG9 d R0 R ∧ (if lv = 4 then R 6 d = (if R0 7 d = 0 then F else R0 6 d * F) ∧ SM9r [0, 1, 2, 3, 4, 5, 7, 8] d R0 R else if lv = 3 then R 6 d = F ∧ SM9r [0, 1, 2, 3, 4, 5, 8] d R0 R else if lv = 2 then SU9 R d = F ∧ SM9r [0, 1, 2, 3, 8] d R0 R else if lv = 1 then TV9 R d = F ∧ SM9r [0, 1, 8] d R0 R else XV9 R d = F ∧ SM9r [8] d R0 R)
def PE9 (lv d : Nat) (R : Nat → Nat → Int32) : Prop := (lv ≤ 3 → R 7 d = 0) ∧ (lv ≤ 2 → R 4 d = 0 ∧ R 5 d = 20) ∧ (lv ≤ 1 → R 3 d = 0) ∧ (lv = 0 → R 1 d = 0) ∧ (R 8 d = 0 ∨ d = 0)
abbrev PW9 : Type := Int32 → (Nat → Int32) → (Nat → Int32) → (Nat → Int32) → (Nat → Int32) → (Nat → Int32) → (Nat → Int32) → (Nat → Int32) → (Nat → Int32) → (Nat → Int32) → Prop
theorem sq8_opens {d : Nat} {R : Nat → Nat → Int32} {Φ : (Nat → Int32) → (Nat → Int32) → (Nat → Int32) → (Nat → Int32) → (Nat → Int32) → Prop} (hd : d < 1000) (h : Φ (upd (R 1) d 0) (upd (R 3) d 0) (upd (R 4) d 0) (upd (R 5) d 20) (upd (R 7) d 0)) : wl_X8_opens (nI d) (R 1) (R 3) (R 4) (R 5) (R 7) Φ := by
  unfold wl_X8_opens
  rw [nI_clamp (n := d) (by omega)]
  exact fun _ _ _ _ _ => h
theorem sq8_sums {d : Nat} {R : Nat → Nat → Int32} {Φ : (Nat → Int32) → (Nat → Int32) → Prop} (hd : d < 1000) (h : Φ (upd (R 4) d (SU9 R d)) (upd (R 7) d 0)) : wl_X8_sums (R 5) (R 6) (nI d) (R 4) (R 7) Φ := by
  unfold wl_X8_sums
  rw [nI_clamp (n := d) (by omega)]
  unfold SU9 at h
  refine fun _ => ⟨fun z _ _ _ _ => ?_, fun z _ _ _ _ => ?_⟩
  · rw [if_neg z] at h; exact h
  · rw [if_pos z] at h; exact h
theorem sq8_tests {d : Nat} {R : Nat → Nat → Int32} {Φ : (Nat → Int32) → (Nat → Int32) → (Nat → Int32) → (Nat → Int32) → (Nat → Int32) → Prop} (hd : d < 1000) (h : Φ (upd (R 0) d (XV9 R d)) (upd (R 3) d 0) (upd (upd (R 4) d (SU9 R d)) d 0) (upd (R 5) d 20) (upd (R 7) d 0)) : wl_X8_tests (R 1) (R 2) (R 6) (nI d) (R 0) (R 3) (R 4) (R 5) (R 7) Φ := by
  unfold wl_X8_tests
  refine sq8_sums hd ?_
  rw [nI_clamp (n := d) (by omega), pk_us]
  have k136 : ∀ v, v = XV9 R d → kl_X8_tests_136 (R 1) (R 2) (R 6) (nI d) Φ (R 0) (R 3) (upd (R 4) d (SU9 R d)) (R 5) (upd (R 7) d 0) v := by
    intro v hv
    subst hv
    unfold kl_X8_tests_136
    rw [nI_clamp (n := d) (by omega)]
    exact fun _ _ _ _ => h
  have k76 : ∀ v, v = TV9 R d → kl_X8_tests_76 (R 1) (R 2) (R 6) (nI d) Φ (R 0) (R 3) (upd (R 4) d (SU9 R d)) (R 5) (upd (R 7) d 0) v := by
    intro v hv
    have k106 : ∀ u, (R 1 d = 26 ∨ u = v) → (R 1 d = 26 → u = if ¬ R 0 d = 0 ∧ ¬ v = 0 then 1 else 0) → kl_X8_tests_106 (R 1) (R 2) (R 6) (nI d) Φ (R 0) (R 3) (upd (R 4) d (SU9 R d)) (R 5) (upd (R 7) d 0) u := by
      intro u h1 h2
      unfold kl_X8_tests_106
      rw [nI_clamp (n := d) (by omega)]
      refine fun _ => ⟨fun z => k136 u ?_, fun z => ?_⟩
      · unfold XV9
        by_cases e : R 1 d = 26
        · rw [if_pos e, h2 e, hv]
        · rw [if_neg e, if_neg z, h1.resolve_left e, hv]
      · have n26 : ¬ R 1 d = 26 := fun e => by rw [e] at z; exact absurd z (by (try dsimp only); decide)
        have eu := h1.resolve_left n26
        have ex : XV9 R d = if ¬ R 0 d = 0 ∨ ¬ v = 0 then 1 else 0 := by unfold XV9; rw [if_neg n26, if_pos z, hv]
        refine fun _ => ⟨fun y => k136 1 ?_, fun y => ⟨fun y2 => k136 0 ?_, fun y2 => k136 1 ?_⟩⟩
        · rw [ex, if_pos (Or.inl y)]
        · rw [ex, if_neg (fun q => q.elim (fun q => q y) (fun q => q (eu ▸ y2)))]
        · rw [ex, if_pos (Or.inr (eu ▸ y2))]
    unfold kl_X8_tests_76
    rw [nI_clamp (n := d) (by omega)]
    refine fun _ => ⟨fun z => k106 v (Or.inr rfl) (fun e => absurd e z), fun z _ => ⟨fun y => k106 0 (Or.inl z) (fun _ => by rw [if_neg (fun q => q.1 y)]), fun y => ⟨fun y2 => k106 0 (Or.inl z) (fun _ => by rw [if_neg (fun q => q.2 y2)]), fun y2 => k106 1 (Or.inl z) (fun _ => by rw [if_pos ⟨y, y2⟩])⟩⟩⟩
  have k44 : ∀ u, (R 3 d = 24 ∨ u = SU9 R d) → (R 3 d = 24 → u = if R 2 d < SU9 R d then 1 else 0) → kl_X8_tests_44 (R 1) (R 2) (R 6) (nI d) Φ (R 0) (R 3) (upd (R 4) d (SU9 R d)) (R 5) (upd (R 7) d 0) u := by
    intro u h1 h2
    unfold kl_X8_tests_44
    rw [nI_clamp (n := d) (by omega), pk_us]
    refine fun _ => ⟨fun z => k76 u ?_, fun z _ _ => ?_⟩
    · unfold TV9
      by_cases e : R 3 d = 24
      · rw [if_pos e, h2 e]
      · rw [if_neg e, if_neg z, h1.resolve_left e]
    · have n24 : ¬ R 3 d = 24 := fun e => by rw [e] at z; exact absurd z (by (try dsimp only); decide)
      have ex : TV9 R d = if R 2 d = SU9 R d then 1 else 0 := by unfold TV9; rw [if_neg n24, if_pos z]
      exact ⟨fun y => k76 0 (by rw [ex, if_neg y]), fun y => k76 1 (by rw [ex, if_pos y])⟩
  refine fun _ _ => ⟨fun z => k44 _ (Or.inr rfl) (fun e => absurd e z), fun z _ _ => ⟨fun y => k44 0 (Or.inl z) (fun _ => ?_), fun y => k44 1 (Or.inl z) (fun _ => ?_)⟩⟩
  · rw [if_neg (fun q => absurd (Int32.lt_iff_toInt_lt.mp q) (by have := Int32.le_iff_toInt_le.mp y; omega))]
  · rw [if_pos (Int32.lt_iff_toInt_lt.mpr (by have : ¬ (SU9 R d).toInt ≤ (R 2 d).toInt := fun q => y (Int32.le_iff_toInt_le.mpr q); omega))]
section WK9
/-- the loop of worked goes on well from here: n turns, depth d, the next code's place k -/
def LW9 (at_ way : Int32) (ln lf lt cd vo we : Nat → Int32) (x0 : Int32) (Φ : PW9) (n d k : Nat) (R : Nat → Nat → Int32) : Prop := ll_X8_worked_14 at_ way ln lf lt cd vo we x0 Φ n (R 0) (R 1) (R 2) (R 3) (R 4) (R 5) (R 6) (R 7) (R 8) (nI d) (nI k)
/-- the number v has come at depth d, by the code at k -/
def WH9 (at_ way : Int32) (ln lf lt cd vo we : Nat → Int32) (x0 : Int32) (Φ : PW9) (n d k : Nat) (R : Nat → Nat → Int32) (v : Int32) : Prop := ∀ m, ll_X8_worked_286 at_ way ln lf lt cd vo we x0 (ll_X8_worked_14 at_ way ln lf lt cd vo we x0 Φ n) Φ m (R 0) (R 1) (R 2) (R 3) (R 4) (R 5) (R 6) (R 7) (R 8) (nI d) (nI k) v
/-- the codes i lie at k, and the loop goes on over them -/
def CI9 (lt cd : Nat → Int32) (x0 : Int32) (k : Nat) (i : List Nat) : Prop := (∃ e : Nat, lt x0.toNatClampNeg = nI e ∧ k + i.length ≤ e ∧ e ≤ 6000) ∧ ∀ j c, i[j]? = some c → cd (k + j) = nI c
variable {at_ way : Int32} {ln lf lt cd vo we : Nat → Int32} {x0 : Int32} {Φ : PW9}
theorem CI9.app {k : Nat} {i i2 : List Nat} (h : CI9 lt cd x0 k (i ++ i2)) : CI9 lt cd x0 k i ∧ CI9 lt cd x0 (k + i.length) i2 := by
  obtain ⟨⟨e, h1, h2, h3⟩, h4⟩ := h
  rw [List.length_append] at h2
  refine ⟨⟨⟨e, h1, by omega, h3⟩, fun j c hj => h4 j c (by rw [List.getElem?_append_left (get_lt hj)]; exact hj)⟩, ⟨⟨e, h1, by omega, h3⟩, fun j c hj => ?_⟩⟩
  have := h4 (i.length + j) c (by rw [List.getElem?_append_right (by omega), show i.length + j - i.length = j by omega]; exact hj)
  rw [show k + i.length + j = k + (i.length + j) by omega]
  exact this
theorem CI9.cons {k c : Nat} {i : List Nat} (h : CI9 lt cd x0 k (c :: i)) : cd k = nI c ∧ k < 6000 ∧ (∃ e : Nat, lt x0.toNatClampNeg = nI e ∧ k < e ∧ e ≤ 6000) ∧ CI9 lt cd x0 (k + 1) i := by
  have h' := (CI9.app (i := [c]) (i2 := i) h).2
  obtain ⟨⟨e, h1, h2, h3⟩, h4⟩ := h
  rw [List.length_cons] at h2
  exact ⟨h4 0 c rfl, by omega, ⟨e, h1, by omega, h3⟩, h'⟩
/-- one code: what the loop does of it -/
theorem lw_step {n d k c : Nat} {R : Nat → Nat → Int32} (hk : k < 6000) (hc : cd k = nI c) (he : ∃ e : Nat, lt x0.toNatClampNeg = nI e ∧ k < e ∧ e ≤ 6000) (hc2 : c < 2 ^ 30)
    (h53 : c = 28 ∨ c = 30 ∨ c = 31 → kl_X8_worked_53 at_ way ln lf lt cd vo we x0 (ll_X8_worked_14 at_ way ln lf lt cd vo we x0 Φ n) Φ (R 0) (R 1) (R 2) (R 3) (R 4) (R 5) (R 6) (R 7) (R 8) (nI d) (nI k) (nI c))
    (h107 : c = 20 ∨ c = 21 → kl_X8_worked_107 at_ way ln lf lt cd vo we x0 (ll_X8_worked_14 at_ way ln lf lt cd vo we x0 Φ n) Φ (R 0) (R 1) (R 2) (R 3) (R 4) (R 5) (R 6) (R 7) (R 8) (nI d) (nI k) (nI c))
    (h22 : c = 22 → ll_X8_worked_14 at_ way ln lf lt cd vo we x0 Φ n (R 0) (R 1) (R 2) (R 3) (R 4) (R 5) (R 6) (upd (R 7) (nI d).toNatClampNeg (nI c)) (R 8) (nI d) (nI k + 1))
    (h155 : c = 24 ∨ c = 25 → kl_X8_worked_155 at_ way ln lf lt cd vo we x0 (ll_X8_worked_14 at_ way ln lf lt cd vo we x0 Φ n) Φ (R 0) (R 1) (R 2) (R 3) (R 4) (R 5) (R 6) (R 7) (R 8) (nI d) (nI k) (nI c))
    (h212 : c = 26 ∨ c = 27 → kl_X8_worked_212 at_ way ln lf lt cd vo we x0 (ll_X8_worked_14 at_ way ln lf lt cd vo we x0 Φ n) Φ (R 0) (R 1) (R 2) (R 3) (R 4) (R 5) (R 6) (R 7) (R 8) (nI d) (nI k) (nI c))
    (h29 : c = 29 → kl_X8_worked_261 at_ way ln lf lt cd vo we x0 (ll_X8_worked_14 at_ way ln lf lt cd vo we x0 Φ n) Φ (R 0) (R 1) (R 2) (R 3) (R 4) (R 5) (R 6) (R 7) (R 8) (nI d) (nI k) (nI c) 0)
    (hvo : c < 20 → kl_X8_worked_261 at_ way ln lf lt cd vo we x0 (ll_X8_worked_14 at_ way ln lf lt cd vo we x0 Φ n) Φ (R 0) (R 1) (R 2) (R 3) (R 4) (R 5) (R 6) (R 7) (R 8) (nI d) (nI k) (nI c) (vo c))
    (hnu : 100 ≤ c → kl_X8_worked_261 at_ way ln lf lt cd vo we x0 (ll_X8_worked_14 at_ way ln lf lt cd vo we x0 Φ n) Φ (R 0) (R 1) (R 2) (R 3) (R 4) (R 5) (R 6) (R 7) (R 8) (nI d) (nI k) (nI c) (nI (c - 100)))
    (hok : c < 20 ∨ c = 20 ∨ c = 21 ∨ c = 22 ∨ (24 ≤ c ∧ c ≤ 31) ∨ 100 ≤ c) : LW9 at_ way ln lf lt cd vo we x0 Φ (n + 1) d k R := by
  obtain ⟨e, e1, e2, e3⟩ := he
  have q : ∀ j : Nat, j < 200 → (nI c = nI j ↔ c = j) := fun j hj => nI_eq (by omega) (by omega)
  have q28 : nI c = 28 ↔ c = 28 := q 28 (by decide)
  have q30 : nI c = 30 ↔ c = 30 := q 30 (by decide)
  have q31 : nI c = 31 ↔ c = 31 := q 31 (by decide)
  have q20 : nI c = 20 ↔ c = 20 := q 20 (by decide)
  have q21 : nI c = 21 ↔ c = 21 := q 21 (by decide)
  have q22 : nI c = 22 ↔ c = 22 := q 22 (by decide)
  have q24 : nI c = 24 ↔ c = 24 := q 24 (by decide)
  have q25 : nI c = 25 ↔ c = 25 := q 25 (by decide)
  have q26 : nI c = 26 ↔ c = 26 := q 26 (by decide)
  have q27 : nI c = 27 ↔ c = 27 := q 27 (by decide)
  have l100 : nI c < 100 ↔ c < 100 := nI_ltI (b := 100) (by omega) (by decide)
  have l20 : (20 : Int32) ≤ nI c ↔ 20 ≤ c := nI_leI (a := 20) (by decide) (by omega)
  show bl_X8_worked_14 _ _ _ _ _ _ _ _ _ _ _ _ _ _ _ _ _ _ _ _ _ _
  unfold bl_X8_worked_14
  rw [nI_clamp (n := k) (by omega), hc, e1, q28, q30, q31, q20, q21, q22, q24, q25, q26, q27, l100, l20, nI_leI (by omega) (by omega)]
  refine fun _ => ⟨fun z => absurd z (by omega), fun _ _ => ⟨fun z => h53 (Or.inl z), fun n28 => ⟨fun z => h53 (Or.inr (Or.inl z)), fun n30 => ⟨fun n31 => ⟨fun z => h107 (Or.inl z), fun n20 => ⟨fun n21 => ⟨fun n22 => ⟨fun z => h155 (Or.inl z), fun n24 => ⟨fun n25 => ⟨fun z => h212 (Or.inl z), fun n26 => ⟨fun n27 => ⟨fun z => ⟨fun y => h29 (by omega), fun y _ => ?_⟩, fun z => ?_⟩, fun z => h212 (Or.inr z)⟩⟩, fun z => h155 (Or.inr z)⟩⟩, fun z _ => h22 z⟩, fun z => h107 (Or.inr z)⟩⟩, fun z => h53 (Or.inr (Or.inr z))⟩⟩⟩⟩
  · rw [nI_clamp (n := c) (by omega)]
    exact hvo (by omega)
  · have := hnu (by omega)
    rw [← pk_sub (show 100 ≤ c by omega)] at this
    exact this
end WK9
end
section
section SE9
/-- the reference's codes i, at depth ne, bring the number F to it -/
def IP9 (ne : Nat) (i : List Nat) (F : EF) : Prop := ∀ (at_ way : Int32) (ln lf lt cd vo we : Nat → Int32) (x0 : Int32) (Φ : PW9) (ce : Nat → Int32) (wv : Int32 → Int32), (∀ c, c < 6 → vo (1 + c) = ce c) → (∀ (x : Int32) (Ψ : Int32 → Prop), Ψ (wv x) → wl_X8_wornness at_ way ln we x Ψ) → ∀ (n k : Nat) (R : Nat → Nat → Int32), CI9 lt cd x0 k i → (∀ n' R', AG9 (ne + 1) R R' → WH9 at_ way ln lf lt cd vo we x0 Φ n' ne (k + i.length - 1) R' (F ce wv)) → LW9 at_ way ln lf lt cd vo we x0 Φ n ne k R
/-- the reference's codes i of an expression of a level, at depth ne, make F of the registers -/
def IX9 (lv ne : Nat) (i : List Nat) (F : EF) : Prop := ∀ (at_ way : Int32) (ln lf lt cd vo we : Nat → Int32) (x0 : Int32) (Φ : PW9) (ce : Nat → Int32) (wv : Int32 → Int32), (∀ c, c < 6 → vo (1 + c) = ce c) → (∀ (x : Int32) (Ψ : Int32 → Prop), Ψ (wv x) → wl_X8_wornness at_ way ln we x Ψ) → ∀ (n k : Nat) (R : Nat → Nat → Int32), CI9 lt cd x0 k i → PE9 lv ne R → (∀ n' R', PT9 lv ne R R' (F ce wv) → LW9 at_ way ln lf lt cd vo we x0 Φ n' ne (k + i.length) R') → LW9 at_ way ln lf lt cd vo we x0 Φ n ne k R
section WH
variable {at_ way : Int32} {ln lf lt cd vo we : Nat → Int32} {x0 : Int32} {Φ : PW9}
/-- a number has come where nothing waits: it is a term, or a factor -/
theorem wh_end {n d k : Nat} {R : Nat → Nat → Int32} {v : Int32} (hd : d < 1000) (h8 : R 8 d = 0 ∨ d = 0) (h : ∀ R', PT9 4 d R R' v → LW9 at_ way ln lf lt cd vo we x0 Φ n d (k + 1) R') : WH9 at_ way ln lf lt cd vo we x0 Φ n d k R v := by
  have k336 : kl_X8_worked_336 at_ way ln lf lt cd vo we x0 (ll_X8_worked_14 at_ way ln lf lt cd vo we x0 Φ n) Φ (R 0) (R 1) (R 2) (R 3) (R 4) (R 5) (R 6) (R 7) (R 8) (nI d) (nI k) v := by
    unfold kl_X8_worked_336
    rw [nI_clamp (n := d) (by omega), nI_1]
    have ag : ∀ x, AG9 d R (rg9 (R 0) (R 1) (R 2) (R 3) (R 4) (R 5) (upd (R 6) d x) (R 7) (R 8)) := by
      intro x i j hi hj
      match i, hi with
      | 0, _ => rfl
      | 1, _ => rfl
      | 2, _ => rfl
      | 3, _ => rfl
      | 4, _ => rfl
      | 5, _ => rfl
      | 6, _ => exact pk_un (by omega)
      | 7, _ => rfl
      | 8, _ => rfl
    have sm : ∀ x, SM9r [0, 1, 2, 3, 4, 5, 7, 8] d R (rg9 (R 0) (R 1) (R 2) (R 3) (R 4) (R 5) (upd (R 6) d x) (R 7) (R 8)) := by
      intro x i hi
      simp only [List.mem_cons, List.not_mem_nil, or_false] at hi
      rcases hi with rfl | rfl | rfl | rfl | rfl | rfl | rfl | rfl <;> rfl
    refine fun _ => ⟨fun z _ _ => ?_, fun z _ => ?_⟩
    · refine h (rg9 (R 0) (R 1) (R 2) (R 3) (R 4) (R 5) (upd (R 6) d (R 6 d * v)) (R 7) (R 8)) ⟨ag _, ?_⟩
      rw [if_pos rfl, if_neg z]
      exact ⟨pk_us, sm _⟩
    · refine h (rg9 (R 0) (R 1) (R 2) (R 3) (R 4) (R 5) (upd (R 6) d v) (R 7) (R 8)) ⟨ag _, ?_⟩
      rw [if_pos rfl, if_pos z]
      exact ⟨pk_us, sm _⟩
  intro m
  cases m with
  | zero => trivial
  | succ m =>
    show bl_X8_worked_286 _ _ _ _ _ _ _ _ _ _ _ _ _ _ _ _ _ _ _ _ _ _ _ _
    unfold bl_X8_worked_286
    rw [nI_clamp (n := d) (by omega)]
    refine ⟨fun _ => k336, fun z _ => ⟨fun _ => k336, fun y => ?_⟩⟩
    rcases h8 with e | e
    · rw [e] at y; exact absurd (by decide) y
    · rw [e] at z; exact absurd (by decide) z
/-- behind a not -/
theorem wh_not {n d k : Nat} {R : Nat → Nat → Int32} {v : Int32} (hd : d < 1000) (h8 : R 8 (d + 1) = 1) (h : WH9 at_ way ln lf lt cd vo we x0 Φ n d k R (nt v)) : WH9 at_ way ln lf lt cd vo we x0 Φ n (d + 1) k R v := by
  intro m
  cases m with
  | zero => trivial
  | succ m =>
    show bl_X8_worked_286 _ _ _ _ _ _ _ _ _ _ _ _ _ _ _ _ _ _ _ _ _ _ _ _
    unfold bl_X8_worked_286
    rw [nI_clamp (n := d + 1) (by omega), h8, pk_m1]
    have hm := h m
    unfold nt at hm
    refine ⟨fun z => absurd z (nI_nle (by omega) (by omega)), fun _ _ => ⟨fun z => absurd z (by (try dsimp only); decide), fun _ _ => ⟨fun _ => ⟨fun z => ?_, fun z => ?_⟩, fun z => absurd z (by (try dsimp only); decide)⟩⟩⟩
    · rw [if_neg z] at hm; exact hm
    · rw [if_pos z] at hm; exact hm
/-- behind a worn -/
theorem wh_worn {n d k : Nat} {R : Nat → Nat → Int32} {v : Int32} {wv : Int32 → Int32} (hw : ∀ (x : Int32) (Ψ : Int32 → Prop), Ψ (wv x) → wl_X8_wornness at_ way ln we x Ψ) (hd : d < 1000) (h8 : R 8 (d + 1) = 2) (h : WH9 at_ way ln lf lt cd vo we x0 Φ n d k R (wv v)) : WH9 at_ way ln lf lt cd vo we x0 Φ n (d + 1) k R v := by
  intro m
  cases m with
  | zero => trivial
  | succ m =>
    show bl_X8_worked_286 _ _ _ _ _ _ _ _ _ _ _ _ _ _ _ _ _ _ _ _ _ _ _ _
    unfold bl_X8_worked_286
    rw [nI_clamp (n := d + 1) (by omega), h8, pk_m1]
    exact ⟨fun z => absurd z (nI_nle (by omega) (by omega)), fun _ _ => ⟨fun z => absurd z (by (try dsimp only); decide), fun _ _ => ⟨fun z => absurd rfl z, fun _ => hw _ _ (h m)⟩⟩⟩
end WH
/-- a code that opens: one deeper -/
theorem lw_open {at_ way : Int32} {ln lf lt cd vo we : Nat → Int32} {x0 : Int32} {Φ : PW9} {n d k c : Nat} {R : Nat → Nat → Int32} {i : List Nat} (hd : d < 100) (hc : c = 28 ∨ c = 30 ∨ c = 31) (hi : CI9 lt cd x0 k (c :: i)) (h : ∀ n' R', AG9 (d + 1) R R' → PE9 0 (d + 1) R' ∨ ¬ c = 28 → (c = 28 → R' 8 (d + 1) = 0) → (c = 30 → R' 8 (d + 1) = 1) → (c = 31 → R' 8 (d + 1) = 2) → LW9 at_ way ln lf lt cd vo we x0 Φ n' (d + 1) (k + 1) R') : LW9 at_ way ln lf lt cd vo we x0 Φ n d k R := by
  cases n with
  | zero => trivial
  | succ n =>
    obtain ⟨h1, h2, h3, h4⟩ := hi.cons
    have fin : ∀ x : Int32, (c = 28 → x = 0) → (c = 30 → x = 1) → (c = 31 → x = 2) → wl_X8_opens (nI d + 1) (R 1) (R 3) (R 4) (R 5) (R 7) (fun a b e f g => ll_X8_worked_14 at_ way ln lf lt cd vo we x0 Φ n (R 0) a (R 2) b e f (R 6) g (upd (R 8) (nI d + 1).toNatClampNeg x) (nI d + 1) (nI k + 1)) := by
      intro x x0' x1 x2
      rw [nI_1, nI_1]
      refine sq8_opens (by omega) ?_
      rw [nI_clamp (n := d + 1) (by omega)]
      refine h n (rg9 (R 0) (upd (R 1) (d + 1) 0) (R 2) (upd (R 3) (d + 1) 0) (upd (R 4) (d + 1) 0) (upd (R 5) (d + 1) 20) (R 6) (upd (R 7) (d + 1) 0) (upd (R 8) (d + 1) x)) (fun i j hi hj => ?_) ?_ (fun e => by rw [← x0' e]; exact pk_us) (fun e => by rw [← x1 e]; exact pk_us) (fun e => by rw [← x2 e]; exact pk_us)
      · match i, hi with
        | 0, _ => rfl
        | 1, _ => exact pk_un (by omega)
        | 2, _ => rfl
        | 3, _ => exact pk_un (by omega)
        | 4, _ => exact pk_un (by omega)
        | 5, _ => exact pk_un (by omega)
        | 6, _ => rfl
        | 7, _ => exact pk_un (by omega)
        | 8, _ => exact pk_un (by omega)
      · by_cases e : c = 28
        · refine Or.inl ⟨fun _ => pk_us, fun _ => ⟨pk_us, pk_us⟩, fun _ => pk_us, fun _ => pk_us, Or.inl ?_⟩
          rw [← x0' e]
          exact pk_us
        · exact Or.inr e
    refine lw_step h2 h1 h3 (by omega) (fun _ => ⟨fun n30 => ⟨fun n31 => fun _ => fin 0 (fun _ => rfl) (fun e => by rw [e] at n30; exact absurd rfl n30) (fun e => by rw [e] at n31; exact absurd rfl n31), fun e31 => fun _ => fin 2 (fun e => by rw [e] at e31; exact absurd e31 (by (try dsimp only); decide)) (fun e => by rw [e] at e31; exact absurd e31 (by (try dsimp only); decide)) (fun _ => rfl)⟩, fun e30 => fun _ => fin 1 (fun e => by rw [e] at e30; exact absurd e30 (by (try dsimp only); decide)) (fun _ => rfl) (fun e => by rw [e] at e30; exact absurd e30 (by (try dsimp only); decide))⟩) (fun e => by omega) (fun e => by omega) (fun e => by omega) (fun e => by omega) (fun e => by omega) (fun e => by omega) (fun e => by omega) (by omega)
theorem IP9.leaf {ne c : Nat} {F : EF} (hne : ne < 100) (hc : (∃ j, j < 6 ∧ c = 1 + j ∧ F = fun ce _ => ce j) ∨ ∃ m, m ≤ 9999 ∧ c = 100 + m ∧ F = fun _ _ => nI m) : IP9 ne [c] F := by
  intro at_ way ln lf lt cd vo we x0 Φ ce wv hvo hwv n k R hi h
  cases n with
  | zero => trivial
  | succ n =>
    obtain ⟨h1, h2, h3, h4⟩ := hi.cons
    have hw := h n R (fun _ _ _ _ => rfl)
    rw [show k + [c].length - 1 = k from Nat.add_sub_cancel k 1] at hw
    have q29 : ∀ a : Nat, a < 2 ^ 30 → ¬ a = 29 → ¬ nI a = 29 := fun a ha hn e => hn ((nI_eq (a := a) (b := 29) (by omega) (by decide)).mp e)
    have k261 : ∀ v, v = F ce wv → c < 2 ^ 30 → ¬ c = 29 → kl_X8_worked_261 at_ way ln lf lt cd vo we x0 (ll_X8_worked_14 at_ way ln lf lt cd vo we x0 Φ n) Φ (R 0) (R 1) (R 2) (R 3) (R 4) (R 5) (R 6) (R 7) (R 8) (nI ne) (nI k) (nI c) v := by
      intro v hv hc1 hc2
      subst hv
      exact ⟨fun _ => hw, fun z => absurd z (q29 c hc1 hc2)⟩
    rcases hc with ⟨j, hj, ec, eF⟩ | ⟨m, hm, ec, eF⟩
    · refine lw_step h2 h1 h3 (by omega) (fun e => by omega) (fun e => by omega) (fun e => by omega) (fun e => by omega) (fun e => by omega) (fun e => by omega) (fun _ => k261 _ ?_ (by omega) (by omega)) (fun e => by omega) (by omega)
      rw [eF, ec]
      exact hvo j hj
    · refine lw_step h2 h1 h3 (by omega) (fun e => by omega) (fun e => by omega) (fun e => by omega) (fun e => by omega) (fun e => by omega) (fun e => by omega) (fun e => by omega) (fun _ => k261 _ ?_ (by omega) (by omega)) (by omega)
      rw [eF, ec]
      show nI (100 + m - 100) = nI m
      rw [Nat.add_sub_cancel_left]
theorem AG9.of {d e : Nat} {R R1 R2 : Nat → Nat → Int32} (h : AG9 (d + 1) R R1) (h2 : AG9 e R1 R2) (he : d + 1 ≤ e) : AG9 (d + 1) R R2 := fun i j hi hj => (h2 i j hi (by omega)).trans (h i j hi hj)
theorem IP9.not {ne : Nat} {i : List Nat} {F : EF} (hne : ne < 90) (hl : 1 ≤ i.length) (h : IP9 (ne + 1) i F) : IP9 ne (30 :: i) (fun ce wv => nt (F ce wv)) := by
  intro at_ way ln lf lt cd vo we x0 Φ ce wv hvo hwv n k R hi hk
  have hc := hi.cons.2.2.2
  refine lw_open (by omega) (Or.inr (Or.inl rfl)) hi (fun n' R' ha _ _ h8 _ => ?_)
  refine h at_ way ln lf lt cd vo we x0 Φ ce wv hvo hwv n' (k + 1) R' hc (fun n2 R2 ha2 => ?_)
  have e8 : R2 8 (ne + 1) = 1 := (ha2 8 (ne + 1) (by decide) (by omega)).trans (h8 rfl)
  have hw := hk n2 R2 (ha.of ha2 (by omega))
  rw [show k + (30 :: i).length - 1 = k + 1 + i.length - 1 by rw [List.length_cons]; omega] at hw
  exact wh_not (by omega) e8 hw
theorem IP9.worn {ne : Nat} {i : List Nat} {F : EF} (hne : ne < 90) (hl : 1 ≤ i.length) (h : IP9 (ne + 1) i F) : IP9 ne (31 :: i) (fun ce wv => wv (F ce wv)) := by
  intro at_ way ln lf lt cd vo we x0 Φ ce wv hvo hwv n k R hi hk
  have hc := hi.cons.2.2.2
  refine lw_open (by omega) (Or.inr (Or.inr rfl)) hi (fun n' R' ha _ _ _ h8 => ?_)
  refine h at_ way ln lf lt cd vo we x0 Φ ce wv hvo hwv n' (k + 1) R' hc (fun n2 R2 ha2 => ?_)
  have e8 : R2 8 (ne + 1) = 2 := (ha2 8 (ne + 1) (by decide) (by omega)).trans (h8 rfl)
  have hw := hk n2 R2 (ha.of ha2 (by omega))
  rw [show k + (31 :: i).length - 1 = k + 1 + i.length - 1 by rw [List.length_cons]; omega] at hw
  exact wh_worn hwv (by omega) e8 hw
theorem IP9.par {ne : Nat} {i : List Nat} {F : EF} (hne : ne < 90) (h : IX9 0 (ne + 1) i F) : IP9 ne (28 :: (i ++ [29])) F := by
  intro at_ way ln lf lt cd vo we x0 Φ ce wv hvo hwv n k R hi hk
  have hc := hi.cons.2.2.2
  obtain ⟨hc1, hc2⟩ := hc.app
  refine lw_open (by omega) (Or.inl rfl) hi (fun n' R' ha hpe h8 _ _ => ?_)
  have hpe := hpe.resolve_right (fun z => z rfl)
  refine h at_ way ln lf lt cd vo we x0 Φ ce wv hvo hwv n' (k + 1) R' hc1 hpe (fun n2 R2 hp => ?_)
  cases n2 with
  | zero => trivial
  | succ n2 =>
    obtain ⟨g1, g2, g3, g4⟩ := hc2.cons
    obtain ⟨hp1, hp2⟩ := hp
    have hp2 : XV9 R2 (ne + 1) = F ce wv ∧ SM9r [8] (ne + 1) R' R2 := hp2
    refine lw_step g2 g1 g3 (by decide) (fun e => by omega) (fun e => by omega) (fun e => by omega) (fun e => by omega) (fun e => by omega) (fun _ => ⟨fun z => absurd rfl z, fun _ => ?_⟩) (fun e => by omega) (fun e => by omega) (by omega)
    refine sq8_tests (by omega) ?_
    rw [nI_clamp (n := ne + 1) (by omega), pk_us, pk_m1, hp2.1]
    have hw := hk n2 (rg9 (upd (R2 0) (ne + 1) (XV9 R2 (ne + 1))) (R2 1) (R2 2) (upd (R2 3) (ne + 1) 0) (upd (upd (R2 4) (ne + 1) (SU9 R2 (ne + 1))) (ne + 1) 0) (upd (R2 5) (ne + 1) 20) (R2 6) (upd (R2 7) (ne + 1) 0) (R2 8)) (fun i j hi hj => ?_)
    · rw [show k + (28 :: (i ++ [29])).length - 1 = k + 1 + i.length by rw [List.length_cons, List.length_append]; show k + (i.length + 1 + 1) - 1 = _; omega] at hw
      rw [hp2.1] at hw
      exact fun _ => hw
    · have e2 : R2 i j = R i j := (hp1 i j hi (by omega)).trans (ha i j hi hj)
      match i, hi, e2 with
      | 0, _, e2 => exact (pk_un (by omega)).trans e2
      | 1, _, e2 => exact e2
      | 2, _, e2 => exact e2
      | 3, _, e2 => exact (pk_un (by omega)).trans e2
      | 4, _, e2 => exact ((pk_un (by omega)).trans (pk_un (by omega))).trans e2
      | 5, _, e2 => exact (pk_un (by omega)).trans e2
      | 6, _, e2 => exact e2
      | 7, _, e2 => exact (pk_un (by omega)).trans e2
      | 8, _, e2 => exact e2
/-- a part, where nothing waits, is an expression of the last level -/
theorem IP9.ixZ {ne : Nat} {i : List Nat} {F : EF} (hne : ne < 90) (hl : 1 ≤ i.length) (h : IP9 ne i F) : IX9 4 ne i F := by
  intro at_ way ln lf lt cd vo we x0 Φ ce wv hvo hwv n k R hi hpe hk
  refine h at_ way ln lf lt cd vo we x0 Φ ce wv hvo hwv n k R hi (fun n' R' ha => ?_)
  have hd : ∀ i, i < 9 → R' i ne = R i ne := fun i hi => ha i ne hi (by omega)
  refine wh_end (by omega) (hpe.2.2.2.2.imp (fun e => (hd 8 (by decide)).trans e) id) (fun R2 hp => ?_)
  rw [show k + i.length - 1 + 1 = k + i.length by omega]
  refine hk n' R2 ⟨fun i j hi hj => (hp.1 i j hi hj).trans (ha i j hi (by omega)), ?_⟩
  have h2 := hp.2
  rw [if_pos rfl] at h2 ⊢
  rw [hd 7 (by decide), hd 6 (by decide)] at h2
  refine ⟨h2.1, fun i hi => (h2.2 i hi).trans (hd i ?_)⟩
  simp only [List.mem_cons, List.not_mem_nil, or_false] at hi
  omega
end SE9
end
section
section SF9
theorem PE9.up {lv d : Nat} {R : Nat → Nat → Int32} (h : PE9 lv d R) : PE9 (lv + 1) d R := ⟨fun z => h.1 (by omega), fun z => h.2.1 (by omega), fun z => h.2.2.1 (by omega), fun z => absurd z (by omega), h.2.2.2.2⟩
theorem SM9r.sub {is js : List Nat} {d : Nat} {R R' : Nat → Nat → Int32} (h : SM9r is d R R') (hs : ∀ i, i ∈ js → i ∈ is) : SM9r js d R R' := fun i hi => h i (hs i hi)
theorem SM9r.tr {is : List Nat} {d : Nat} {R R1 R2 : Nat → Nat → Int32} (h : SM9r is d R R1) (h2 : SM9r is d R1 R2) : SM9r is d R R2 := fun i hi => (h2 i hi).trans (h i hi)
theorem AG9.tr {d : Nat} {R R1 R2 : Nat → Nat → Int32} (h : AG9 d R R1) (h2 : AG9 d R1 R2) : AG9 d R R2 := fun i j hi hj => (h2 i j hi hj).trans (h i j hi hj)
theorem pt_down {lv d : Nat} {R0 R : Nat → Nat → Int32} {F : Int32} (hl : lv < 4) (hp : PE9 lv d R0) (h : PT9 (lv + 1) d R0 R F) : PT9 lv d R0 R F := by
  obtain ⟨ha, h⟩ := h
  refine ⟨ha, ?_⟩
  match lv, hl, hp, h with
  | 3, _, hp, h =>
    have h : R 6 d = (if R0 7 d = 0 then F else R0 6 d * F) ∧ SM9r [0, 1, 2, 3, 4, 5, 7, 8] d R0 R := h
    rw [if_pos (hp.1 (by decide))] at h
    exact ⟨h.1, h.2.sub (by decide)⟩
  | 2, _, hp, h =>
    have h : R 6 d = F ∧ SM9r [0, 1, 2, 3, 4, 5, 8] d R0 R := h
    obtain ⟨p4, p5⟩ := hp.2.1 (by decide)
    refine ⟨?_, h.2.sub (by decide)⟩
    unfold SU9
    rw [h.2 5 (by decide), h.2 4 (by decide), p4, p5, h.1, if_neg (by decide), Int32.zero_add]
  | 1, _, hp, h =>
    have h : SU9 R d = F ∧ SM9r [0, 1, 2, 3, 8] d R0 R := h
    refine ⟨?_, h.2.sub (by decide)⟩
    have e3 : R 3 d = 0 := (h.2 3 (by decide)).trans (hp.2.2.1 (by decide))
    unfold TV9
    rw [e3, if_neg (by decide), if_neg (by decide)]
    exact h.1
  | 0, _, hp, h =>
    have h : TV9 R d = F ∧ SM9r [0, 1, 8] d R0 R := h
    refine ⟨?_, h.2.sub (by decide)⟩
    have e1 : R 1 d = 0 := (h.2 1 (by decide)).trans (hp.2.2.2.1 rfl)
    unfold XV9
    rw [e1, if_neg (by decide), if_neg (by decide)]
    exact h.1
theorem IX9.down {lv ne : Nat} {i : List Nat} {F : EF} (hl : lv < 4) (h : IX9 (lv + 1) ne i F) : IX9 lv ne i F := by
  intro at_ way ln lf lt cd vo we x0 Φ ce wv hvo hwv n k R hi hpe hk
  exact h at_ way ln lf lt cd vo we x0 Φ ce wv hvo hwv n k R hi hpe.up (fun n' R' hp => hk n' R' (pt_down hl hpe hp))
/-- two operands of a level and what joins them -/
theorem ix_two {la lb ne c : Nat} {i i2 : List Nat} {F G : EF} {H : Int32 → Int32 → Int32} {lv : Nat} (hne : ne < 90) (h : IX9 la ne i F) (h2 : IX9 lb ne i2 G) (hpe : ∀ R, PE9 lv ne R → PE9 la ne R)
    (op : ∀ (at_ way : Int32) (ln lf lt cd vo we : Nat → Int32) (x0 : Int32) (Φ : PW9) (n k : Nat) (R0 R : Nat → Nat → Int32) (f : Int32), PE9 lv ne R0 → PT9 la ne R0 R f → CI9 lt cd x0 k [c] → (∀ n' R1, PE9 lb ne R1 → (∀ R2 g, PT9 lb ne R1 R2 g → PT9 lv ne R0 R2 (H f g)) → LW9 at_ way ln lf lt cd vo we x0 Φ n' ne (k + 1) R1) → LW9 at_ way ln lf lt cd vo we x0 Φ n ne k R) : IX9 lv ne (i ++ c :: i2) (fun ce wv => H (F ce wv) (G ce wv)) := by
  intro at_ way ln lf lt cd vo we x0 Φ ce wv hvo hwv n k R hi hp hk
  obtain ⟨a1, a2⟩ := hi.app
  obtain ⟨b1, b2⟩ := CI9.app (i := [c]) (i2 := i2) a2
  refine h at_ way ln lf lt cd vo we x0 Φ ce wv hvo hwv n k R a1 (hpe R hp) (fun n1 R1 hp1 => ?_)
  refine op at_ way ln lf lt cd vo we x0 Φ n1 (k + i.length) R R1 (F ce wv) hp hp1 b1 (fun n2 R2 hp2 hjn => ?_)
  refine h2 at_ way ln lf lt cd vo we x0 Φ ce wv hvo hwv n2 (k + i.length + 1) R2 b2 hp2 (fun n3 R3 hp3 => ?_)
  have hf := hk n3 R3 (hjn R3 _ hp3)
  rw [show k + (i ++ c :: i2).length = k + i.length + 1 + i2.length by rw [List.length_append, List.length_cons]; omega] at hf
  exact hf
theorem ix_op3 {ne : Nat} {i i2 : List Nat} {F G : EF} (hne : ne < 90) (h : IX9 3 ne i F) (h2 : IX9 4 ne i2 G) : IX9 3 ne (i ++ 22 :: i2) (fun ce wv => jn 10 (F ce wv) (G ce wv)) := by
  refine ix_two (H := fun f g => jn 10 f g) hne h h2 (fun R hp => hp) (fun at_ way ln lf lt cd vo we x0 Φ n k R0 R f hp0 hp hi hk => ?_)
  cases n with
  | zero => trivial
  | succ n =>
    obtain ⟨g1, g2, g3, g4⟩ := hi.cons
    obtain ⟨ha, hb⟩ := hp
    have hb : R 6 ne = f ∧ SM9r [0, 1, 2, 3, 4, 5, 8] ne R0 R := hb
    refine lw_step g2 g1 g3 (by decide) (fun e => by omega) (fun e => by omega) (fun _ => ?_) (fun e => by omega) (fun e => by omega) (fun e => by omega) (fun e => by omega) (fun e => by omega) (by omega)
    rw [nI_clamp (n := ne) (by omega), nI_1]
    refine hk n (rg9 (R 0) (R 1) (R 2) (R 3) (R 4) (R 5) (R 6) (upd (R 7) ne (nI 22)) (R 8)) ⟨fun z => absurd z (by (try dsimp only); decide), fun z => absurd z (by (try dsimp only); decide), fun z => absurd z (by (try dsimp only); decide), fun z => absurd z (by (try dsimp only); decide), hp0.2.2.2.2.imp (fun e => (hb.2 8 (by decide)).trans e) id⟩ (fun R2 g hp2 => ?_)
    obtain ⟨ha2, hb2⟩ := hp2
    have hb2 : R2 6 ne = (if upd (R 7) ne (nI 22) ne = 0 then g else R 6 ne * g) ∧ SM9r [0, 1, 2, 3, 4, 5, 7, 8] ne (rg9 (R 0) (R 1) (R 2) (R 3) (R 4) (R 5) (R 6) (upd (R 7) ne (nI 22)) (R 8)) R2 := hb2
    rw [pk_us, if_neg (by decide), hb.1] at hb2
    refine ⟨fun a b ha' hb' => ?_, hb2.1, fun a ha' => ?_⟩
    · have e := ha a b ha' hb'
      have e2 := ha2 a b ha' hb'
      rw [← e, e2]
      match a, ha' with
      | 0, _ => rfl
      | 1, _ => rfl
      | 2, _ => rfl
      | 3, _ => rfl
      | 4, _ => rfl
      | 5, _ => rfl
      | 6, _ => rfl
      | 7, _ => exact pk_un (by omega)
      | 8, _ => rfl
    · have e := hb.2 a ha'
      have e2 := hb2.2 a (by simp only [List.mem_cons, List.not_mem_nil, or_false] at ha' ⊢; omega)
      rw [← e, e2]
      simp only [List.mem_cons, List.not_mem_nil, or_false] at ha'
      rcases ha' with rfl | rfl | rfl | rfl | rfl | rfl | rfl <;> rfl
theorem ix_op2 {ne c : Nat} {i i2 : List Nat} {F G : EF} (hc : c = 20 ∨ c = 21) (hne : ne < 90) (h : IX9 2 ne i F) (h2 : IX9 3 ne i2 G) : IX9 2 ne (i ++ c :: i2) (fun ce wv => jn (if c = 20 then 8 else 9) (F ce wv) (G ce wv)) := by
  refine ix_two (H := fun f g => jn (if c = 20 then 8 else 9) f g) hne h h2 (fun R hp => hp) (fun at_ way ln lf lt cd vo we x0 Φ n k R0 R f hp0 hp hi hk => ?_)
  cases n with
  | zero => trivial
  | succ n =>
    obtain ⟨g1, g2, g3, g4⟩ := hi.cons
    obtain ⟨ha, hb⟩ := hp
    have hb : SU9 R ne = f ∧ SM9r [0, 1, 2, 3, 8] ne R0 R := hb
    refine lw_step g2 g1 g3 (by omega) (fun e => by omega) (fun _ => sq8_sums (by omega) ?_) (fun e => by omega) (fun e => by omega) (fun e => by omega) (fun e => by omega) (fun e => by omega) (fun e => by omega) (by omega)
    rw [nI_clamp (n := ne) (by omega), nI_1, hb.1]
    refine fun _ => hk n (rg9 (R 0) (R 1) (R 2) (R 3) (upd (R 4) ne f) (upd (R 5) ne (nI c)) (R 6) (upd (R 7) ne 0) (R 8)) ⟨fun _ => pk_us, fun z => absurd z (by (try dsimp only); decide), fun z => absurd z (by (try dsimp only); decide), fun z => absurd z (by (try dsimp only); decide), hp0.2.2.2.2.imp (fun e => (hb.2 8 (by decide)).trans e) id⟩ (fun R2 g hp2 => ?_)
    obtain ⟨ha2, hb2⟩ := hp2
    have hb2 : R2 6 ne = g ∧ SM9r [0, 1, 2, 3, 4, 5, 8] ne (rg9 (R 0) (R 1) (R 2) (R 3) (upd (R 4) ne f) (upd (R 5) ne (nI c)) (R 6) (upd (R 7) ne 0) (R 8)) R2 := hb2
    have e4 : R2 4 ne = f := (hb2.2 4 (by decide)).trans pk_us
    have e5 : R2 5 ne = nI c := (hb2.2 5 (by decide)).trans pk_us
    refine ⟨fun a b ha' hb' => ?_, ?_, fun a ha' => ?_⟩
    · have e := ha a b ha' hb'
      have e2 := ha2 a b ha' hb'
      rw [← e, e2]
      match a, ha' with
      | 0, _ => rfl
      | 1, _ => rfl
      | 2, _ => rfl
      | 3, _ => rfl
      | 4, _ => exact pk_un (by omega)
      | 5, _ => exact pk_un (by omega)
      | 6, _ => rfl
      | 7, _ => exact pk_un (by omega)
      | 8, _ => rfl
    · show SU9 R2 ne = jn (if c = 20 then 8 else 9) f g
      unfold SU9
      rw [e4, e5, hb2.1]
      rcases hc with rfl | rfl
      · rw [if_neg (by decide)]; rfl
      · rw [if_pos (by decide)]; rfl
    · have e := hb.2 a ha'
      have e2 := hb2.2 a (by simp only [List.mem_cons, List.not_mem_nil, or_false] at ha' ⊢; omega)
      rw [← e, e2]
      simp only [List.mem_cons, List.not_mem_nil, or_false] at ha'
      rcases ha' with rfl | rfl | rfl | rfl | rfl <;> rfl
theorem ix_op1 {ne c : Nat} {i i2 : List Nat} {F G : EF} (hc : c = 24 ∨ c = 25) (hne : ne < 90) (h : IX9 2 ne i F) (h2 : IX9 2 ne i2 G) : IX9 1 ne (i ++ c :: i2) (fun ce wv => jn (if c = 24 then 6 else 7) (F ce wv) (G ce wv)) := by
  refine ix_two (H := fun f g => jn (if c = 24 then 6 else 7) f g) hne h h2 (fun R hp => hp.up) (fun at_ way ln lf lt cd vo we x0 Φ n k R0 R f hp0 hp hi hk => ?_)
  cases n with
  | zero => trivial
  | succ n =>
    obtain ⟨g1, g2, g3, g4⟩ := hi.cons
    obtain ⟨ha, hb⟩ := hp
    have hb : SU9 R ne = f ∧ SM9r [0, 1, 2, 3, 8] ne R0 R := hb
    refine lw_step g2 g1 g3 (by omega) (fun e => by omega) (fun e => by omega) (fun e => by omega) (fun _ => sq8_sums (by omega) ?_) (fun e => by omega) (fun e => by omega) (fun e => by omega) (fun e => by omega) (by omega)
    rw [nI_clamp (n := ne) (by omega), nI_1, hb.1, pk_us]
    refine fun _ _ _ _ _ => hk n (rg9 (R 0) (R 1) (upd (R 2) ne f) (upd (R 3) ne (nI c)) (upd (upd (R 4) ne f) ne 0) (upd (R 5) ne 20) (R 6) (upd (R 7) ne 0) (R 8)) ⟨fun _ => pk_us, fun _ => ⟨pk_us, pk_us⟩, fun z => absurd z (by (try dsimp only); decide), fun z => absurd z (by (try dsimp only); decide), hp0.2.2.2.2.imp (fun e => (hb.2 8 (by decide)).trans e) id⟩ (fun R2 g hp2 => ?_)
    obtain ⟨ha2, hb2⟩ := hp2
    have hb2 : SU9 R2 ne = g ∧ SM9r [0, 1, 2, 3, 8] ne (rg9 (R 0) (R 1) (upd (R 2) ne f) (upd (R 3) ne (nI c)) (upd (upd (R 4) ne f) ne 0) (upd (R 5) ne 20) (R 6) (upd (R 7) ne 0) (R 8)) R2 := hb2
    have e2' : R2 2 ne = f := (hb2.2 2 (by decide)).trans pk_us
    have e3 : R2 3 ne = nI c := (hb2.2 3 (by decide)).trans pk_us
    refine ⟨fun a b ha' hb' => ?_, ?_, fun a ha' => ?_⟩
    · have e := ha a b ha' hb'
      have e2 := ha2 a b ha' hb'
      rw [← e, e2]
      match a, ha' with
      | 0, _ => rfl
      | 1, _ => rfl
      | 2, _ => exact pk_un (by omega)
      | 3, _ => exact pk_un (by omega)
      | 4, _ => exact (pk_un (by omega)).trans (pk_un (by omega))
      | 5, _ => exact pk_un (by omega)
      | 6, _ => rfl
      | 7, _ => exact pk_un (by omega)
      | 8, _ => rfl
    · show TV9 R2 ne = jn (if c = 24 then 6 else 7) f g
      unfold TV9
      rw [e2', e3, hb2.1]
      rcases hc with rfl | rfl
      · rw [if_pos (by decide)]; rfl
      · rw [if_neg (by decide), if_pos (by decide)]; rfl
    · have e := hb.2 a (by simp only [List.mem_cons, List.not_mem_nil, or_false] at ha' ⊢; omega)
      have e2 := hb2.2 a (by simp only [List.mem_cons, List.not_mem_nil, or_false] at ha' ⊢; omega)
      rw [← e, e2]
      simp only [List.mem_cons, List.not_mem_nil, or_false] at ha'
      rcases ha' with rfl | rfl | rfl <;> rfl
theorem ix_op0 {ne c : Nat} {i i2 : List Nat} {F G : EF} (hc : c = 26 ∨ c = 27) (hne : ne < 90) (h : IX9 0 ne i F) (h2 : IX9 1 ne i2 G) : IX9 0 ne (i ++ c :: i2) (fun ce wv => jn (if c = 26 then 4 else 5) (F ce wv) (G ce wv)) := by
  refine ix_two (H := fun f g => jn (if c = 26 then 4 else 5) f g) hne h h2 (fun R hp => hp) (fun at_ way ln lf lt cd vo we x0 Φ n k R0 R f hp0 hp hi hk => ?_)
  cases n with
  | zero => trivial
  | succ n =>
    obtain ⟨g1, g2, g3, g4⟩ := hi.cons
    obtain ⟨ha, hb⟩ := hp
    have hb : XV9 R ne = f ∧ SM9r [8] ne R0 R := hb
    refine lw_step g2 g1 g3 (by omega) (fun e => by omega) (fun e => by omega) (fun e => by omega) (fun e => by omega) (fun _ => sq8_tests (by omega) ?_) (fun e => by omega) (fun e => by omega) (fun e => by omega) (by omega)
    rw [nI_clamp (n := ne) (by omega), nI_1, hb.1]
    refine fun _ => hk n (rg9 (upd (R 0) ne f) (upd (R 1) ne (nI c)) (R 2) (upd (R 3) ne 0) (upd (upd (R 4) ne (SU9 R ne)) ne 0) (upd (R 5) ne 20) (R 6) (upd (R 7) ne 0) (R 8)) ⟨fun _ => pk_us, fun _ => ⟨pk_us, pk_us⟩, fun _ => pk_us, fun z => absurd z (by (try dsimp only); decide), hp0.2.2.2.2.imp (fun e => (hb.2 8 (by decide)).trans e) id⟩ (fun R2 g hp2 => ?_)
    obtain ⟨ha2, hb2⟩ := hp2
    have hb2 : TV9 R2 ne = g ∧ SM9r [0, 1, 8] ne (rg9 (upd (R 0) ne f) (upd (R 1) ne (nI c)) (R 2) (upd (R 3) ne 0) (upd (upd (R 4) ne (SU9 R ne)) ne 0) (upd (R 5) ne 20) (R 6) (upd (R 7) ne 0) (R 8)) R2 := hb2
    have e0 : R2 0 ne = f := (hb2.2 0 (by decide)).trans pk_us
    have e1 : R2 1 ne = nI c := (hb2.2 1 (by decide)).trans pk_us
    refine ⟨fun a b ha' hb' => ?_, ?_, fun a ha' => ?_⟩
    · have e := ha a b ha' hb'
      have e2 := ha2 a b ha' hb'
      rw [← e, e2]
      match a, ha' with
      | 0, _ => exact pk_un (by omega)
      | 1, _ => exact pk_un (by omega)
      | 2, _ => rfl
      | 3, _ => exact pk_un (by omega)
      | 4, _ => exact (pk_un (by omega)).trans (pk_un (by omega))
      | 5, _ => exact pk_un (by omega)
      | 6, _ => rfl
      | 7, _ => exact pk_un (by omega)
      | 8, _ => rfl
    · show XV9 R2 ne = jn (if c = 26 then 4 else 5) f g
      unfold XV9
      rw [e0, e1, hb2.1]
      rcases hc with rfl | rfl
      · rw [if_pos (by decide)]; rfl
      · rw [if_neg (by decide), if_pos (by decide)]; rfl
    · have e := hb.2 a ha'
      have e2 := hb2.2 a (by simp only [List.mem_cons, List.not_mem_nil, or_false] at ha' ⊢; omega)
      rw [← e, e2]
      simp only [List.mem_cons, List.not_mem_nil, or_false] at ha'
      rcases ha' with rfl
      rfl
/-- what an expression of a level means: the number that its codes make, the class's and the reference's -/
def ME9 (lv ne : Nat) (e : EC) (F : EF) : Prop := EVp e.2 (4 * (5 - ne) + (4 - lv)) F ∧ 1 ≤ e.1.length ∧ IX9 lv ne e.1 F
def MP9 (ne : Nat) (e : EC) (F : EF) : Prop := EVp e.2 (4 * (5 - ne)) F ∧ 1 ≤ e.1.length ∧ IP9 ne e.1 F
theorem inf_pof {k : Tok} {lv : Nat} (h : lvl k = lv) (h4 : lv < 4) : (lv = 3 ∧ inf k = 22 ∧ pof k = 10) ∨ (lv = 2 ∧ (inf k = 20 ∨ inf k = 21) ∧ pof k = if inf k = 20 then 8 else 9) ∨ (lv = 1 ∧ (inf k = 24 ∨ inf k = 25) ∧ pof k = if inf k = 24 then 6 else 7) ∨ (lv = 0 ∧ (inf k = 26 ∨ inf k = 27) ∧ pof k = if inf k = 26 then 4 else 5) := by
  have hx := lvl_ix (k := k) (by omega)
  unfold lvl at h
  unfold inf pof
  rcases hx with e | e | e | e | e | e | e <;> rw [e] at h ⊢ <;> rw [← h] <;> decide
theorem me_two {lv ne : Nat} {k : Tok} {e e2 : EC} {F G : EF} (hne : ne < 6) (h4 : lv < 4) (hl : lvl k = lv) (h : if lv = 1 then EVp e.2 (4 * (5 - ne) + (4 - (lv + 1))) F ∧ 1 ≤ e.1.length ∧ IX9 2 ne e.1 F else ME9 lv ne e F) (h2 : ME9 (lv + 1) ne e2 G) : ME9 lv ne (e.1 ++ inf k :: e2.1, e.2 ++ e2.2 ++ [pof k]) (fun ce wv => jn (pof k) (F ce wv) (G ce wv)) := by
  have hlen : 1 ≤ (e.1 ++ inf k :: e2.1).length := by rw [List.length_append, List.length_cons]; omega
  have hpo : 4 ≤ pof k ∧ pof k < 16 := by
    have hx := lvl_ix (k := k) (by omega)
    unfold pof
    rcases hx with e | e | e | e | e | e | e <;> rw [e] <;> decide
  have hB : EVp e.2 (4 * (5 - ne) + (4 - lv)) F := by
    by_cases e1 : lv = 1
    · rw [if_pos e1] at h
      exact h.1.mono (by omega)
    · rw [if_neg e1] at h
      exact h.1
  refine ⟨(hB.bin h2.1 hpo.1 hpo.2).mono (by omega), hlen, ?_⟩
  rcases inf_pof hl h4 with ⟨e1, e2', e3⟩ | ⟨e1, e2', e3⟩ | ⟨e1, e2', e3⟩ | ⟨e1, e2', e3⟩
  · subst e1
    rw [e2', e3]
    exact ix_op3 (by omega) h.2.2 h2.2.2
  · subst e1
    rw [e3]
    exact ix_op2 e2' (by omega) h.2.2 h2.2.2
  · subst e1
    rw [e3]
    exact ix_op1 e2' (by omega) h.2.2 h2.2.2
  · subst e1
    rw [e3]
    exact ix_op0 e2' (by omega) h.2.2 h2.2.2
theorem me_loop {g1 : List Tok → PRs EC} {lv ne : Nat} (hne : ne < 6) (h4 : lv < 4) (h1 : lv ≠ 1) (hg : ∀ L e L', g1 L = .inr (e, L') → ∃ G, ME9 (lv + 1) ne e G) : ∀ (m : Nat) (r : EC × List Tok) (e : EC) (L' : List Tok) (F : EF), ME9 lv ne r.1 F → pLp g1 lv m r = .inr (e, L') → ∃ G, ME9 lv ne e G := by
  intro m
  induction m with
  | zero =>
    intro r e L' F h hp
    rw [← (Prod.mk.inj (Sum.inr.inj hp)).1]
    exact ⟨F, h⟩
  | succ m ih =>
    intro r e L' F h hp
    by_cases hl : lvl (hdt r.2) = lv
    · have hpl : pLp g1 lv (m + 1) r = bnd (g1 (adv r.2)) fun s => pLp g1 lv m ((r.1.1 ++ inf (hdt r.2) :: s.1.1, r.1.2 ++ s.1.2 ++ [pof (hdt r.2)]), s.2) := if_pos hl
      rw [hpl] at hp
      obtain ⟨s, hs, hp⟩ := bnd_inv hp
      obtain ⟨G, hG⟩ := hg _ s.1 s.2 hs
      exact ih _ e L' _ (me_two hne h4 hl (by rw [if_neg h1]; exact h) hG) hp
    · have hpl : pLp g1 lv (m + 1) r = .inr r := if_neg hl
      rw [hpl] at hp
      rw [← (Prod.mk.inj (Sum.inr.inj hp)).1]
      exact ⟨F, h⟩
theorem num_le (k : Tok) : num k ≤ 9999 := Nat.min_le_left _ _
theorem pv_leaf0 (m : Nat) (ce : Nat → Int32) (wv : Int32 → Int32) (st : List Int32) : pv1 ce wv st (16 * m) = nI m :: st := by
  unfold pv1
  rw [show 16 * m % 16 = 0 by omega, show 16 * m / 16 = m by omega, if_pos rfl]
theorem pv_leaf1 (m : Nat) (ce : Nat → Int32) (wv : Int32 → Int32) (st : List Int32) : pv1 ce wv st (1 + 16 * m) = ce m :: st := by
  unfold pv1
  rw [show (1 + 16 * m) % 16 = 1 by omega, show (1 + 16 * m) / 16 = m by omega, if_neg (by decide), if_pos rfl]
theorem me_part {cn : List (List Nat)} {gE gP : List Tok → PRs EC} {ne : Nat} (hcn : cn.length ≤ 6) (hE : ∀ L e L', ne < 5 → gE L = .inr (e, L') → ∃ F, ME9 0 (ne + 1) e F) (hP : ∀ L e L', ne < 5 → gP L = .inr (e, L') → ∃ F, MP9 (ne + 1) e F) {L : List Tok} {e : EC} {L' : List Tok} (h : pPa cn gE gP ne L = .inr (e, L')) : ∃ F, MP9 ne e F := by
  unfold pPa at h
  by_cases e3 : ix (hdt L) = 3
  · rw [if_pos e3] at h
    obtain ⟨y, hy, h⟩ := bnd_inv h
    by_cases h5 : 5 ≤ ne
    · rw [if_pos h5] at h; cases h
    rw [if_neg h5] at h
    have hc := pTold_inv (c := y.1) (L' := y.2) hy
    rw [← (Prod.mk.inj (Sum.inr.inj h)).1]
    exact ⟨fun ce _ => ce y.1, (EVp.leaf (fun ce wv st => pv_leaf1 y.1 ce wv st)).mono (by omega), Nat.le_refl _, IP9.leaf (by omega) (Or.inl ⟨y.1, by omega, rfl, rfl⟩)⟩
  rw [if_neg e3] at h
  by_cases e4 : ix (hdt L) = 2 ∨ ix (hdt L) = 4 ∨ ix (hdt L) = 27 ∨ ix (hdt L) = 28
  · rw [if_pos e4] at h
    by_cases h5 : 5 ≤ ne
    · rw [if_pos h5] at h; cases h
    rw [if_neg h5] at h
    by_cases i2 : ix (hdt L) = 2
    · rw [if_pos i2] at h
      rw [← (Prod.mk.inj (Sum.inr.inj h)).1]
      exact ⟨fun _ _ => nI (num (hdt L)), (EVp.leaf (fun ce wv st => pv_leaf0 _ ce wv st)).mono (by omega), Nat.le_refl _, IP9.leaf (by omega) (Or.inr ⟨num (hdt L), num_le _, rfl, rfl⟩)⟩
    rw [if_neg i2] at h
    by_cases i4 : ix (hdt L) = 4
    · rw [if_pos i4] at h
      obtain ⟨s, hs, h⟩ := bnd_inv h
      by_cases i5 : ix (hdt s.2) = 5
      · rw [if_pos i5] at h
        obtain ⟨F, h1, h2, h3⟩ := hE _ s.1 s.2 (by omega) hs
        rw [← (Prod.mk.inj (Sum.inr.inj h)).1]
        refine ⟨F, h1.mono (by omega), ?_, IP9.par (by omega) h3⟩
        show 1 ≤ (28 :: (s.1.1 ++ [29])).length
        rw [List.length_cons]
        omega
      · rw [if_neg i5] at h; cases h
    rw [if_neg i4] at h
    obtain ⟨s, hs, h⟩ := bnd_inv h
    obtain ⟨F, h1, h2, h3⟩ := hP _ s.1 s.2 (by omega) hs
    have h9 : ∃ st : Nat, True := ⟨0, trivial⟩
    have hB : 1 ≤ 4 * (5 - (ne + 1)) := by
      have := (h1 (fun _ => 0) (fun x => x) []).2 s.1.2.length
      rw [List.take_length, (h1 (fun _ => 0) (fun x => x) []).1] at this
      have e : [F (fun _ => 0) (fun x => x)].length = 1 := rfl
      have e0 : ([] : List Int32).length = 0 := rfl
      rw [e, e0] at this
      omega
    by_cases i27 : ix (hdt L) = 27
    · rw [if_pos i27, if_pos i27] at h
      rw [← (Prod.mk.inj (Sum.inr.inj h)).1]
      refine ⟨fun ce wv => wv (F ce wv), (h1.un hB (fun ce wv x r => by unfold pv1; rw [if_neg (by decide), if_neg (by decide)]; rfl) (fun ce wv => rfl)).mono (by omega), ?_, h3.worn (by omega) h2⟩
      show 1 ≤ (31 :: s.1.1).length
      rw [List.length_cons]; omega
    · rw [if_neg i27, if_neg i27] at h
      rw [← (Prod.mk.inj (Sum.inr.inj h)).1]
      refine ⟨fun ce wv => nt (F ce wv), (h1.un hB (fun ce wv x r => by unfold pv1; rw [if_neg (by decide), if_neg (by decide)]; rfl) (fun ce wv => rfl)).mono (by omega), ?_, h3.not (by omega) h2⟩
      show 1 ≤ (30 :: s.1.1).length
      rw [List.length_cons]; omega
  · rw [if_neg e4] at h; cases h
theorem me_all {cn : List (List Nat)} (hcn : cn.length ≤ 6) : ∀ n : Nat, (∀ lv ne L e L', lv ≤ 4 → ne < 6 → (pEP cn n).1 lv ne L = .inr (e, L') → ∃ F, ME9 lv ne e F) ∧ (∀ ne L e L', ne < 6 → (pEP cn n).2 ne L = .inr (e, L') → ∃ F, MP9 ne e F) := by
  intro n
  induction n with
  | zero => exact ⟨fun _ _ _ _ _ _ _ h => (by cases h), fun _ _ _ _ _ h => by cases h⟩
  | succ n ih =>
    refine ⟨fun lv ne L e L' hlv hne h => ?_, fun ne L e L' hne h => ?_⟩
    · by_cases h4 : lv < 4
      · have hg : (pEP cn (n + 1)).1 lv ne L = bnd ((pEP cn n).1 (lv + 1) ne L) (pLp ((pEP cn n).1 (lv + 1) ne) lv (if lv = 1 then 1 else 1000)) := if_pos h4
        rw [hg] at h
        obtain ⟨y, hy, h⟩ := bnd_inv h
        obtain ⟨F, hF⟩ := ih.1 (lv + 1) ne _ y.1 y.2 (by omega) hne hy
        have hF0 : ME9 lv ne y.1 F := ⟨hF.1.mono (by omega), hF.2.1, hF.2.2.down h4⟩
        by_cases e1 : lv = 1
        · rw [if_pos e1] at h
          by_cases hl : lvl (hdt y.2) = lv
          · have hpl : pLp ((pEP cn n).1 (lv + 1) ne) lv 1 y = bnd ((pEP cn n).1 (lv + 1) ne (adv y.2)) fun s => .inr ((y.1.1 ++ inf (hdt y.2) :: s.1.1, y.1.2 ++ s.1.2 ++ [pof (hdt y.2)]), s.2) := if_pos hl
            rw [hpl] at h
            obtain ⟨s, hs, h⟩ := bnd_inv h
            obtain ⟨G, hG⟩ := ih.1 (lv + 1) ne _ s.1 s.2 (by omega) hne hs
            rw [← (Prod.mk.inj (Sum.inr.inj h)).1]
            refine ⟨_, me_two hne h4 hl (F := F) ?_ hG⟩
            rw [if_pos e1]
            subst e1
            exact hF
          · have hpl : pLp ((pEP cn n).1 (lv + 1) ne) lv 1 y = .inr y := if_neg hl
            rw [hpl] at h
            rw [← (Prod.mk.inj (Sum.inr.inj h)).1]
            exact ⟨F, hF0⟩
        · rw [if_neg e1] at h
          exact me_loop hne h4 e1 (fun L e L' hh => ih.1 (lv + 1) ne L e L' (by omega) hne hh) 1000 y e L' F hF0 h
      · have hg : (pEP cn (n + 1)).1 lv ne L = (pEP cn n).2 ne L := if_neg h4
        rw [hg] at h
        obtain ⟨F, h1, h2, h3⟩ := ih.2 ne L e L' hne h
        have e4 : lv = 4 := by omega
        subst e4
        exact ⟨F, h1.mono (by omega), h2, h3.ixZ (by omega) h2⟩
    · exact me_part hcn (fun L e L' h5 hh => ih.1 0 (ne + 1) L e L' (by decide) (by omega) hh) (fun L e L' h5 hh => ih.2 (ne + 1) L e L' (by omega) hh) h
/-- an expression that was read means a number -/
theorem OKE.me {nc : Nat} {e : EC} (h : OKE nc e) (hnc : nc ≤ 6) : ∃ F, EVp e.2 24 F ∧ IX9 0 0 e.1 F := by
  obtain ⟨cn, L, L', h1, h2⟩ := h
  obtain ⟨F, h3, h4, h5⟩ := (me_all (by omega) 40).1 0 0 L e L' (by decide) (by decide) h2
  exact ⟨F, h3, h5⟩
end SF9
end
section
section CK9
variable {worn cells code : Nat → Int32} {n cl : Nat}
theorem sq1_lineOf {v : Int32} {Φ : Int32 → Prop} (h0 : 0 < n) (h16 : n ≤ 16) (h : Φ (nI (lnOf v n))) : wl_X1_lineOf (nI n) v Φ := by
  have e := lnOf_eq v (v - v / nI n * nI n) h0 h16 rfl
  refine ⟨fun _ _ => ⟨fun z => ?_, fun z => ?_⟩, fun z => absurd z (nI_ne0 h0 (by omega))⟩
  · rw [e.2 (Int32.not_lt.mpr z)]; exact h
  · rw [e.1 (Int32.not_le.mp z)]; exact h
theorem sq1_joined {o : Nat} {x y : Int32} {Φ : Int32 → Prop} (ho : 4 ≤ o) (ho2 : o < 16) (h : Φ (jn o x y)) : wl_X1_joined (nI o) x y Φ := by
  have q : ∀ j : Nat, j < 100 → (nI o = nI j ↔ o = j) := fun j hj => nI_eq (by omega) (by omega)
  have q4 : nI o = 4 ↔ o = 4 := q 4 (by decide)
  have q5 : nI o = 5 ↔ o = 5 := q 5 (by decide)
  have q6 : nI o = 6 ↔ o = 6 := q 6 (by decide)
  have q7 : nI o = 7 ↔ o = 7 := q 7 (by decide)
  have q8 : nI o = 8 ↔ o = 8 := q 8 (by decide)
  have q9 : nI o = 9 ↔ o = 9 := q 9 (by decide)
  unfold wl_X1_joined
  rw [q4, q5, q6, q7, q8, q9, nI_toInt (by omega)]
  refine ⟨fun e => ?_, fun e => ?_, fun e => ?_, fun e => ?_, fun e => ?_, fun e => ?_, fun e => ?_⟩
  · have ej : jn o x y = if ¬ x = 0 ∧ ¬ y = 0 then 1 else 0 := by rw [e]; rfl
    rw [ej] at h
    refine ⟨fun z => ?_, fun z => ⟨fun z2 => ?_, fun z2 => ?_⟩⟩
    · rw [if_neg (fun q => q.1 z)] at h; exact h
    · rw [if_neg (fun q => q.2 z2)] at h; exact h
    · rw [if_pos ⟨z, z2⟩] at h; exact h
  · have ej : jn o x y = if ¬ x = 0 ∨ ¬ y = 0 then 1 else 0 := by rw [e]; rfl
    rw [ej] at h
    refine ⟨fun z => ?_, fun z => ⟨fun z2 => ?_, fun z2 => ?_⟩⟩
    · rw [if_pos (Or.inl z)] at h; exact h
    · rw [if_neg (fun q => q.elim (fun q => q z) (fun q => q z2))] at h; exact h
    · rw [if_pos (Or.inr z2)] at h; exact h
  · have ej : jn o x y = if x < y then 1 else 0 := by rw [e]; rfl
    rw [ej] at h
    refine ⟨fun z => ?_, fun z => ?_⟩
    · rw [if_neg (Int32.not_lt.mpr z)] at h; exact h
    · rw [if_pos (Int32.not_le.mp z)] at h; exact h
  · have ej : jn o x y = if x = y then 1 else 0 := by rw [e]; rfl
    rw [ej] at h
    refine ⟨fun z => ?_, fun z => ?_⟩
    · rw [if_neg z] at h; exact h
    · rw [if_pos z] at h; exact h
  · have ej : jn o x y = x + y := by rw [e]; rfl
    rw [ej] at h; exact h
  · have ej : jn o x y = x - y := by rw [e]; rfl
    rw [ej] at h; exact h
  · have ej : jn o x y = x * y := by
      unfold jn
      rw [if_neg (by omega), if_neg (by omega), if_neg (by omega), if_neg (by omega), if_neg (by omega), if_neg (by omega)]
    rw [ej] at h; exact h
/-- the class's stack holds st, its top first -/
def SK9 (st : List Int32) (sk : Nat → Int32) : Prop := ∀ (j : Nat) (x : Int32), st.reverse[j]? = some x → sk j = x
theorem SK9.push {st : List Int32} {sk : Nat → Int32} {x : Int32} (h : SK9 st sk) : SK9 (x :: st) (upd sk st.length x) := by
  intro j y hj
  rw [List.reverse_cons] at hj
  rcases app_get hj with hj | ⟨e, e2⟩
  · have := get_lt hj
    rw [List.length_reverse] at this
    rw [pk_un (by omega)]
    exact h j y hj
  · rw [List.length_reverse] at e
    rw [e, pk_us, e2]
theorem SK9.top {st : List Int32} {sk : Nat → Int32} {x : Int32} (h : SK9 (x :: st) sk) : sk st.length = x ∧ SK9 st sk := by
  refine ⟨h st.length x ?_, fun j y hj => h j y ?_⟩
  · rw [List.reverse_cons, List.getElem?_append_right (by rw [List.length_reverse]; exact Nat.le_refl _), List.length_reverse, Nat.sub_self]
    rfl
  · rw [List.reverse_cons, List.getElem?_append_left (get_lt hj)]
    exact hj
theorem SK9.put {st : List Int32} {sk : Nat → Int32} {x : Int32} (h : SK9 st sk) : SK9 (x :: st) (upd sk st.length x) := h.push
theorem sq1_reckon {p : List Nat} {o : Nat} {sk : Nat → Int32} {Φ : Int32 → (Nat → Int32) → Prop} (h0 : 0 < n) (h16 : n ≤ 16) (hcl : cl ≤ 1000) (ho : o + p.length ≤ cl) (hc : ∀ j c, p[j]? = some c → code (o + j) = nI c ∧ c < 2 ^ 30) (hb : ∀ k, (pvs cells (fun x => worn (lnOf x n)) (p.take k) []).length ≤ 24) (h : ∀ sk', Φ (((pvs cells (fun x => worn (lnOf x n)) p []).reverse[0]?).getD 0) sk') : wl_X1_reckon worn cells (nI n) code cl (nI o) (nI (o + p.length)) sk Φ := by
  have key : ∀ (m k : Nat) (sk : Nat → Int32), k ≤ p.length → SK9 (pvs cells (fun x => worn (lnOf x n)) (p.take k) []) sk → ll_X1_reckon_23 worn cells (nI n) code cl (nI o) (nI (o + p.length)) Φ m sk (nI (pvs cells (fun x => worn (lnOf x n)) (p.take k) []).length) (nI (o + p.length)) (nI (o + k)) := by
    intro m
    induction m with
    | zero => intros; trivial
    | succ m ih =>
      intro k sk hk hs
      have hb1 := hb k
      have hbk := hb (k + 1)
      show bl_X1_reckon_23 _ _ _ _ _ _ _ _ _ _ _ _ _
      unfold bl_X1_reckon_23
      rw [nI_leI (by omega) (by omega)]
      refine ⟨fun z => ?_, fun z _ _ => ?_⟩
      · have e : k = p.length := by omega
        subst e
        rw [List.take_length] at hs ⊢
        cases hp : pvs cells (fun x => worn (lnOf x n)) p [] with
        | nil =>
          rw [hp] at h
          exact ⟨fun _ => h _, fun y => absurd (by decide) y⟩
        | cons x r =>
          rw [hp] at h hs
          rw [List.take_length, hp] at hb1
          have hb2 : (x :: r).length ≤ 24 := hb1
          refine ⟨fun y => absurd y (nI_nle (Nat.succ_pos _) (by omega)), fun _ => ?_⟩
          have e0 : (x :: r).reverse[0]? = some (((x :: r).reverse[0]?).getD 0) := by
            have : 0 < (x :: r).reverse.length := by rw [List.length_reverse]; exact Nat.succ_pos _
            rw [List.getElem?_eq_getElem this]
            rfl
          have es := hs 0 _ e0
          rw [es]
          exact h _
      · have hlt : k < p.length := by omega
        have hg : p[k]? = some p[k] := List.getElem?_eq_getElem hlt
        obtain ⟨c1, c2⟩ := hc k _ hg
        have et : p.take (k + 1) = p.take k ++ [p[k]] := by rw [List.take_add_one, hg]; rfl
        have ep : pvs cells (fun x => worn (lnOf x n)) (p.take (k + 1)) [] = pv1 cells (fun x => worn (lnOf x n)) (pvs cells (fun x => worn (lnOf x n)) (p.take k) []) p[k] := by rw [et, pvs_app]; rfl
        have nx := fun sk' => ih (k + 1) sk' hlt
        rw [ep] at nx hbk
        generalize pvs cells (fun x => worn (lnOf x n)) (p.take k) [] = st at hs hb1 hbk nx ⊢
        generalize p[k] = c at c1 c2 nx hbk ⊢
        have ea : nI c &&& 15 = nI (c % 16) := pk_andN (by omega) 4 (by decide)
        have es : nI c >>> ((4 : Int32) &&& 31) = nI (c / 16) := pk_shrN (by omega) _ 4 (by decide)
        have hm : c % 16 < 16 := Nat.mod_lt _ (by decide)
        rw [nI_clamp (n := o + k) (by omega), c1, ea, es, nI_1]
        have k1 : (1 : Int32) < nI (c % 16) ↔ 1 < c % 16 := nI_ltI (a := 1) (by decide) (by omega)
        have k32 : (32 : Int32) ≤ nI st.length ↔ 32 ≤ st.length := nI_leI (a := 32) (by decide) (by omega)
        have q : ∀ j : Nat, j < 100 → (nI (c % 16) = nI j ↔ c % 16 = j) := fun j hj => nI_eq (by omega) (by omega)
        have q0 : nI (c % 16) = 0 ↔ c % 16 = 0 := q 0 (by decide)
        have q2 : nI (c % 16) = 2 ↔ c % 16 = 2 := q 2 (by decide)
        have q3 : nI (c % 16) = 3 ↔ c % 16 = 3 := q 3 (by decide)
        have t0 : nI st.length ≤ 0 ↔ st.length ≤ 0 := nI_leI (b := 0) (by omega) (by decide)
        have t1 : nI st.length ≤ 1 ↔ st.length ≤ 1 := nI_leI (b := 1) (by omega) (by decide)
        have ok : o + k + 1 = o + (k + 1) := by omega
        rw [k1, k32, q0]
        refine ⟨fun z2 => ?_, fun z2 => ⟨fun y => absurd y (by omega), fun _ => ⟨fun z0 _ _ => ?_, fun z0 _ => ?_⟩⟩⟩
        · -- a code that takes from the stack
          have k175 : 4 ≤ c % 16 ∨ st.length = 0 → kl_X1_reckon_175 worn cells (nI n) code cl (nI o) (nI (o + p.length)) (ll_X1_reckon_23 worn cells (nI n) code cl (nI o) (nI (o + p.length)) Φ m) Φ sk (nI st.length) (nI (o + p.length)) (nI (o + k)) (nI (c % 16)) := by
            intro hor
            unfold kl_X1_reckon_175
            rw [t1, nI_1, ok]
            match st, hs, hb1, hbk, nx, hor with
            | [], hs, _, _, nx, _ =>
              have e : pv1 cells (fun x => worn (lnOf x n)) [] c = [] := by
                unfold pv1
                rw [if_neg (by omega), if_neg (by omega)]
              rw [e] at nx
              exact ⟨fun _ => nx sk hs, fun y => absurd (by decide) y⟩
            | [x], hs, _, _, nx, hor =>
              have h4 : 4 ≤ c % 16 := hor.resolve_right (by simp)
              have e : pv1 cells (fun x => worn (lnOf x n)) [x] c = [x] := by
                unfold pv1
                rw [if_neg (by omega), if_neg (by omega)]
                show (if c % 16 = 2 then _ else if c % 16 = 3 then _ else _) = _
                rw [if_neg (by omega), if_neg (by omega)]
              rw [e] at nx
              exact ⟨fun _ => nx sk hs, fun y => absurd (show [x].length ≤ 1 from Nat.le_refl _) y⟩
            | y :: x :: r, hs, hb1, _, nx, hor =>
              have hl : (y :: x :: r).length = r.length + 2 := rfl
              have h4 : 4 ≤ c % 16 := hor.resolve_right (by rw [hl]; omega)
              have e : pv1 cells (fun x => worn (lnOf x n)) (y :: x :: r) c = jn (c % 16) x y :: r := by
                unfold pv1
                rw [if_neg (by omega), if_neg (by omega)]
                show (if c % 16 = 2 then _ else if c % 16 = 3 then _ else _) = _
                rw [if_neg (by omega), if_neg (by omega)]
              rw [e] at nx
              rw [hl] at hb1
              obtain ⟨s1, s2⟩ := hs.top
              obtain ⟨s3, s4⟩ := s2.top
              have s1 : sk (r.length + 1) = y := s1
              rw [hl, pk_m1]
              have em : nI (r.length + 1) - 1 = nI r.length := nI_pred _
              rw [em, nI_clamp (n := r.length) (by omega), nI_clamp (n := r.length + 1) (by omega), s1, s3]
              exact ⟨fun y => absurd y (by omega), fun _ _ _ => sq1_joined h4 hm (fun _ => nx _ s4.push)⟩
          unfold kl_X1_reckon_100
          rw [q2, t0, nI_1, ok]
          have k138 : (c % 16 = 2 → st.length = 0) → kl_X1_reckon_138 worn cells (nI n) code cl (nI o) (nI (o + p.length)) (ll_X1_reckon_23 worn cells (nI n) code cl (nI o) (nI (o + p.length)) Φ m) Φ sk (nI st.length) (nI (o + p.length)) (nI (o + k)) (nI (c % 16)) := by
            intro h2
            unfold kl_X1_reckon_138
            rw [q3, t0, nI_1, ok]
            refine ⟨fun n3 => k175 (by omega), fun e3 => ⟨fun y => k175 (Or.inr (by omega)), fun y _ => ?_⟩⟩
            match st, hs, hb1, nx, y with
            | [], _, _, _, y => exact absurd (Nat.le_refl 0) y
            | x :: r, hs, hb1, nx, _ =>
              have hl : (x :: r).length = r.length + 1 := rfl
              have e : pv1 cells (fun x => worn (lnOf x n)) (x :: r) c = nt x :: r := by
                unfold pv1
                rw [if_neg (by omega), if_neg (by omega)]
                show (if c % 16 = 2 then _ else if c % 16 = 3 then _ else _) = _
                rw [if_neg (by omega), if_pos e3]
              rw [e] at nx
              rw [hl] at hb1 ⊢
              obtain ⟨s1, s2⟩ := hs.top
              have em : nI (r.length + 1) - 1 = nI r.length := nI_pred _
              rw [em, nI_clamp (n := r.length) (by omega), s1]
              have nx9 := nx _ s2.push
              have hl2 : (nt x :: r).length = r.length + 1 := rfl
              rw [hl2] at nx9
              unfold nt at nx9
              refine ⟨fun z _ => ?_, fun z _ => ?_⟩
              · rw [if_neg z] at nx9; exact nx9
              · rw [if_pos z] at nx9; exact nx9
          refine ⟨fun n2 => k138 (fun z => absurd z n2), fun e2 => ⟨fun y => k138 (fun _ => by omega), fun y _ => ?_⟩⟩
          match st, hs, hb1, nx, y with
          | [], _, _, _, y => exact absurd (Nat.le_refl 0) y
          | x :: r, hs, hb1, nx, _ =>
            have hl : (x :: r).length = r.length + 1 := rfl
            have e : pv1 cells (fun x => worn (lnOf x n)) (x :: r) c = worn (lnOf x n) :: r := by
              unfold pv1
              rw [if_neg (by omega), if_neg (by omega)]
              show (if c % 16 = 2 then _ else if c % 16 = 3 then _ else _) = _
              rw [if_pos e2]
            rw [e] at nx
            rw [hl] at hb1 ⊢
            obtain ⟨s1, s2⟩ := hs.top
            have em : nI (r.length + 1) - 1 = nI r.length := nI_pred _
            rw [em, nI_clamp (n := r.length) (by omega), s1]
            have hln := lnOf_lt x h0
            refine sq1_lineOf h0 h16 (fun _ _ => ?_)
            rw [nI_clamp (n := lnOf x n) (by omega)]
            exact nx _ s2.push
        · -- a cell
          have e : pv1 cells (fun x => worn (lnOf x n)) st c = cells (c / 16) :: st := by
            unfold pv1
            rw [if_neg z0, if_pos (by omega)]
          rw [e] at nx
          rw [nI_clamp (n := c / 16) (by omega), nI_clamp (n := st.length) (by omega), nI_1, ok]
          exact nx _ hs.push
        · -- a number
          have e : pv1 cells (fun x => worn (lnOf x n)) st c = nI (c / 16) :: st := by
            unfold pv1
            rw [if_pos z0]
          rw [e] at nx
          rw [nI_clamp (n := st.length) (by omega), nI_1, ok]
          exact nx _ hs.push
  have ecl : (if nI cl < nI (o + p.length) then nI cl else nI (o + p.length)) = nI (o + p.length) := if_neg (fun y => absurd ((nI_ltI (by omega) (by omega)).mp y) (by omega))
  have eo : (if (0 : Int32) < nI o then nI o else (0 : Int32)) = nI o := by
    by_cases e : 0 < o
    · exact if_pos ((nI_ltI (a := 0) (b := o) (by decide) (by omega)).mpr e)
    · have : o = 0 := by omega
      subst this
      rfl
  unfold wl_X1_reckon
  rw [ecl, eo]
  exact fun m => key m 0 sk (Nat.zero_le _) (fun j x hj => by simp [pvs] at hj)
end CK9
end
section
/-- the number that an expression's codes put (0: none) -/
def FE (e : EC) : EF := fun ce wv => ((pvs ce wv e.2 []).reverse[0]?).getD 0
theorem FE_of {e : EC} {B : Nat} {F : EF} (h : EVp e.2 B F) : FE e = F := by
  funext ce wv
  unfold FE
  rw [(h ce wv []).1]
  rfl
theorem FE_nil {ce : Nat → Int32} {wv : Int32 → Int32} : FE ([], []) ce wv = 0 := rfl
/-- codes that read a cell read one of the first nc -/
def CRq (nc : Nat) (p : List Nat) : Prop := ∀ c ∈ p, (c % 16 = 1 → c / 16 < nc) ∧ c < 200000 + 16 * nc
theorem pvs_cong {nc : Nat} {ce ce' : Nat → Int32} {wv : Int32 → Int32} (hc : ∀ i, i < nc → ce i = ce' i) : ∀ (p : List Nat) (st : List Int32), CRq nc p → pvs ce wv p st = pvs ce' wv p st := by
  intro p
  induction p with
  | nil => intros; rfl
  | cons c p ih =>
    intro st h
    show pvs ce wv p (pv1 ce wv st c) = pvs ce' wv p (pv1 ce' wv st c)
    have e : pv1 ce wv st c = pv1 ce' wv st c := by
      unfold pv1
      by_cases h0 : c % 16 = 0
      · rw [if_pos h0, if_pos h0]
      · rw [if_neg h0, if_neg h0]
        by_cases h1 : c % 16 = 1
        · rw [if_pos h1, if_pos h1, hc _ ((h c List.mem_cons_self).1 h1)]
        · rw [if_neg h1, if_neg h1]
    rw [e]
    exact ih _ (fun x hx => h x (List.mem_cons_of_mem _ hx))
theorem CRq.app {nc : Nat} {p q : List Nat} (h : CRq nc p) (h2 : CRq nc q) : CRq nc (p ++ q) := fun c hc => (List.mem_append.mp hc).elim (h c) (h2 c)
theorem CRq.one {nc c : Nat} (h : c % 16 ≠ 1) (h2 : c < 200000) : CRq nc [c] := fun x hx => by
  rw [List.mem_singleton.mp hx]
  exact ⟨fun e => absurd e h, by omega⟩
theorem pof_16 (k : Tok) : pof k % 16 ≠ 1 ∧ pof k < 200000 := by
  have h := ix_lt k
  unfold pof
  have : ∀ i : Fin 31, poT.getD i.val 0 % 16 ≠ 1 ∧ poT.getD i.val 0 < 200000 := by decide
  exact this ⟨ix k, h⟩
theorem pLp_cr {g1 : List Tok → PRs EC} {lv nc : Nat} (hg : ∀ L e L', g1 L = .inr (e, L') → CRq nc e.2) : ∀ (m : Nat) (r : EC × List Tok) (e : EC) (L' : List Tok), CRq nc r.1.2 → pLp g1 lv m r = .inr (e, L') → CRq nc e.2 := by
  intro m
  induction m with
  | zero =>
    intro r e L' h hp
    rw [← (Prod.mk.inj (Sum.inr.inj hp)).1]
    exact h
  | succ m ih =>
    intro r e L' h hp
    by_cases hl : lvl (hdt r.2) = lv
    · have hpl : pLp g1 lv (m + 1) r = bnd (g1 (adv r.2)) fun s => pLp g1 lv m ((r.1.1 ++ inf (hdt r.2) :: s.1.1, r.1.2 ++ s.1.2 ++ [pof (hdt r.2)]), s.2) := if_pos hl
      rw [hpl] at hp
      obtain ⟨s, hs, hp⟩ := bnd_inv hp
      exact ih _ e L' ((h.app (hg _ s.1 s.2 hs)).app (CRq.one (pof_16 _).1 (pof_16 _).2)) hp
    · have hpl : pLp g1 lv (m + 1) r = .inr r := if_neg hl
      rw [hpl] at hp
      rw [← (Prod.mk.inj (Sum.inr.inj hp)).1]
      exact h
theorem pPa_cr {cn : List (List Nat)} {gE gP : List Tok → PRs EC} {ne : Nat} (hE : ∀ L e L', gE L = .inr (e, L') → CRq cn.length e.2) (hP : ∀ L e L', gP L = .inr (e, L') → CRq cn.length e.2) {L : List Tok} {e : EC} {L' : List Tok} (h : pPa cn gE gP ne L = .inr (e, L')) : CRq cn.length e.2 := by
  unfold pPa at h
  by_cases e3 : ix (hdt L) = 3
  · rw [if_pos e3] at h
    obtain ⟨y, hy, h⟩ := bnd_inv h
    by_cases h5 : 5 ≤ ne
    · rw [if_pos h5] at h; cases h
    rw [if_neg h5] at h
    have hc := pTold_inv (c := y.1) (L' := y.2) hy
    rw [← (Prod.mk.inj (Sum.inr.inj h)).1]
    intro c hc2
    rw [List.mem_singleton.mp hc2]
    exact ⟨fun _ => by omega, by omega⟩
  rw [if_neg e3] at h
  by_cases e4 : ix (hdt L) = 2 ∨ ix (hdt L) = 4 ∨ ix (hdt L) = 27 ∨ ix (hdt L) = 28
  · rw [if_pos e4] at h
    by_cases h5 : 5 ≤ ne
    · rw [if_pos h5] at h; cases h
    rw [if_neg h5] at h
    by_cases i2 : ix (hdt L) = 2
    · rw [if_pos i2] at h
      rw [← (Prod.mk.inj (Sum.inr.inj h)).1]
      exact CRq.one (by omega) (by have := num_le (hdt L); omega)
    rw [if_neg i2] at h
    by_cases i4 : ix (hdt L) = 4
    · rw [if_pos i4] at h
      obtain ⟨s, hs, h⟩ := bnd_inv h
      by_cases i5 : ix (hdt s.2) = 5
      · rw [if_pos i5] at h
        have h1 := hE _ s.1 s.2 hs
        rw [← (Prod.mk.inj (Sum.inr.inj h)).1]
        exact h1
      · rw [if_neg i5] at h; cases h
    rw [if_neg i4] at h
    obtain ⟨s, hs, h⟩ := bnd_inv h
    have h1 := hP _ s.1 s.2 hs
    by_cases i27 : ix (hdt L) = 27
    · rw [if_pos i27, if_pos i27] at h
      rw [← (Prod.mk.inj (Sum.inr.inj h)).1]
      exact h1.app (CRq.one (by decide) (by decide))
    · rw [if_neg i27, if_neg i27] at h
      rw [← (Prod.mk.inj (Sum.inr.inj h)).1]
      exact h1.app (CRq.one (by decide) (by decide))
  · rw [if_neg e4] at h; cases h
theorem pEP_cr {cn : List (List Nat)} : ∀ n : Nat, (∀ lv ne L e L', (pEP cn n).1 lv ne L = .inr (e, L') → CRq cn.length e.2) ∧ (∀ ne L e L', (pEP cn n).2 ne L = .inr (e, L') → CRq cn.length e.2) := by
  intro n
  induction n with
  | zero => exact ⟨fun _ _ _ _ _ h => (by cases h), fun _ _ _ _ h => by cases h⟩
  | succ n ih =>
    refine ⟨fun lv ne L e L' h => ?_, fun ne L e L' h => ?_⟩
    · by_cases h4 : lv < 4
      · have hg : (pEP cn (n + 1)).1 lv ne L = bnd ((pEP cn n).1 (lv + 1) ne L) (pLp ((pEP cn n).1 (lv + 1) ne) lv (if lv = 1 then 1 else 1000)) := if_pos h4
        rw [hg] at h
        obtain ⟨y, hy, h⟩ := bnd_inv h
        exact pLp_cr (fun L e L' hh => ih.1 (lv + 1) ne L e L' hh) _ y e L' (ih.1 (lv + 1) ne _ y.1 y.2 hy) h
      · have hg : (pEP cn (n + 1)).1 lv ne L = (pEP cn n).2 ne L := if_neg h4
        rw [hg] at h
        exact ih.2 ne L e L' h
    · exact pPa_cr (fun L e L' hh => ih.1 0 (ne + 1) L e L' hh) (fun L e L' hh => ih.2 (ne + 1) L e L' hh) h
/-- an expression that was read, or none -/
def OE9 (nc : Nat) (e : EC) : Prop := OKE nc e ∨ e = ([], [])
theorem OKE.cr {nc : Nat} {e : EC} (h : OKE nc e) : CRq nc e.2 := by
  obtain ⟨cn, L, L', h1, h2⟩ := h
  intro c hc
  have := (pEP_cr 40).1 0 0 L e L' h2 c hc
  exact ⟨fun h3 => by have := this.1 h3; omega, by omega⟩
theorem OE9.cr {nc : Nat} {e : EC} (h : OE9 nc e) : CRq nc e.2 := by
  rcases h with h | h
  · exact h.cr
  · rw [h]; exact fun c hc => absurd hc List.not_mem_nil
theorem OE9.cong {nc : Nat} {e : EC} {ce ce' : Nat → Int32} {wv : Int32 → Int32} (h : OE9 nc e) (hc : ∀ i, i < nc → ce i = ce' i) : FE e ce wv = FE e ce' wv := by
  unfold FE
  rw [pvs_cong hc e.2 [] h.cr]
theorem OE9.bd {nc : Nat} {e : EC} (h : OE9 nc e) (hn : nc ≤ 6) (ce : Nat → Int32) (wv : Int32 → Int32) (k : Nat) : (pvs ce wv (e.2.take k) []).length ≤ 24 := by
  rcases h with h | h
  · obtain ⟨F, h1, _⟩ := h.me hn
    have := (h1 ce wv []).2 k
    have e0 : ([] : List Int32).length = 0 := rfl
    rw [e0] at this
    omega
  · rw [h]
    have : ((([], []) : EC).2.take k) = [] := List.take_nil
    rw [this]
    exact Nat.zero_le _
/-- the machine: state, next line, steps, how worn the lines are, cells, what was written -/
abbrev PM : Type := Nat × Nat × Nat × (Nat → Int32) × (Nat → Int32) × List Int32
def nL (g : PGr) : Nat := g.2.2.2.length
def nC (g : PGr) : Nat := g.2.1.length
def nS (g : PGr) : Nat := g.1.length
def lnG (g : PGr) (l : Nat) : LN9 := g.2.2.2.getD l (6, 0, 0, ([], []), ([], []))
def wvG (n wy : Nat) (wo : Nat → Int32) (v : Int32) : Int32 := if wy = 2 then 0 else wo (lnOf v n)
def mx0 (v : Int32) : Int32 := if (0 : Int32) < v then v else (0 : Int32)
/-- how worn the lines are when the line that is next is worked -/
def w1 (wy : Nat) (x : PM) : Nat → Int32 := if wy = 2 then x.2.2.2.1 else upd x.2.2.2.1 x.2.1 (x.2.2.2.1 x.2.1 + 1)
def oneG (g : PGr) (wy : Nat) (x : PM) : Int32 := FE (lnG g x.2.1).2.2.2.1 x.2.2.2.2.1 (wvG (nL g) wy (w1 wy x))
def twoG (g : PGr) (wy : Nat) (x : PM) : Int32 := FE (lnG g x.2.1).2.2.2.2 x.2.2.2.2.1 (wvG (nL g) wy (w1 wy x))
/-- what a line does: the next line, cells, worn lines, what was written -/
def nxG (g : PGr) (wy : Nat) (x : PM) : Nat := if (lnG g x.2.1).1 = 2 ∨ (lnG g x.2.1).1 = 4 then lnOf (oneG g wy x) (nL g) else if (lnG g x.2.1).1 = 3 ∧ ¬ oneG g wy x = 0 then lnOf (twoG g wy x) (nL g) else if (lnG g x.2.1).1 = 6 then nL g else x.2.1 + 1
def ceG (g : PGr) (wy : Nat) (x : PM) : Nat → Int32 := if (lnG g x.2.1).1 = 0 then upd x.2.2.2.2.1 (lnG g x.2.1).2.2.1 (oneG g wy x) else if (lnG g x.2.1).1 = 4 then upd x.2.2.2.2.1 (lnG g x.2.1).2.2.1 (nI (x.2.1 + 1)) else x.2.2.2.2.1
def woG (g : PGr) (wy : Nat) (x : PM) : Nat → Int32 := if (lnG g x.2.1).1 = 5 ∧ ¬ twoG g wy x ≤ 0 ∧ ¬ wy = 2 then upd (w1 wy x) (lnOf (oneG g wy x) (nL g)) (mx0 (w1 wy x (lnOf (oneG g wy x) (nL g)) - twoG g wy x)) else w1 wy x
def wrG (g : PGr) (wy : Nat) (x : PM) : List Int32 := if (lnG g x.2.1).1 = 1 then x.2.2.2.2.2 ++ [oneG g wy x] else x.2.2.2.2.2
def wrk (g : PGr) (wy : Nat) (x : PM) : PM := (if nL g ≤ nxG g wy x then 2 else 1, nxG g wy x, x.2.2.1 + 1, woG g wy x, ceG g wy x, wrG g wy x)
/-- a hole is next -/
abbrev hol (be : Nat → Int32) (wy : Nat) (x : PM) : Prop := wy = 0 ∧ ¬ x.2.2.2.1 x.2.1 < be x.2.1
def stp (g : PGr) (be : Nat → Int32) (wy : Nat) (x : PM) : PM := if x.1 = 1 then (if hol be wy x then (3, x.2) else wrk g wy x) else x
def itG (g : PGr) (be : Nat → Int32) (wy : Nat) : Nat → PM → PM
  | 0, x => x
  | n + 1, x => itG g be wy n (stp g be wy x)
def pfl (be : Nat → Int32) (wy : Nat) (x : PM) : PM := if x.1 = 1 ∧ hol be wy x then (3, x.2) else x
/-- what may be trusted of it -/
def PMo (g : PGr) (wy : Nat) (x : PM) : Prop := x.1 ≤ 4 ∧ x.2.1 ≤ nL g ∧ (x.1 = 1 ∨ x.1 = 3 → x.2.1 < nL g) ∧ x.2.2.2.2.2.length ≤ x.2.2.1 ∧ (wy = 2 → ∀ i, i < 16 → x.2.2.2.1 i = 0)
section IT
variable {g : PGr} {be : Nat → Int32} {wy : Nat} {x : PM}
theorem stp_off (h : ¬ x.1 = 1) : stp g be wy x = x := if_neg h
theorem stp_hol (h : x.1 = 1) (h2 : hol be wy x) : stp g be wy x = (3, x.2) := by unfold stp; rw [if_pos h, if_pos h2]
theorem stp_wrk (h : x.1 = 1) (h2 : ¬ hol be wy x) : stp g be wy x = wrk g wy x := by unfold stp; rw [if_pos h, if_neg h2]
theorem it_off (n : Nat) (h : ¬ x.1 = 1) : itG g be wy n x = x := by
  induction n with
  | zero => rfl
  | succ n ih =>
    show itG g be wy n (stp g be wy x) = x
    rw [stp_off h, ih]
theorem it_add : ∀ (a b : Nat) (x : PM), itG g be wy (a + b) x = itG g be wy b (itG g be wy a x) := by
  intro a
  induction a with
  | zero => intro b x; rw [Nat.zero_add]; rfl
  | succ a ih =>
    intro b x
    rw [show a + 1 + b = a + b + 1 by omega]
    exact ih b (stp g be wy x)
theorem it_one (n : Nat) : itG g be wy (n + 1) x = stp g be wy (itG g be wy n x) := it_add n 1 x
theorem w1_plain (h : wy = 2) : w1 wy x = x.2.2.2.1 := if_pos h
theorem w1_else (h : ¬ wy = 2) : w1 wy x = upd x.2.2.2.1 x.2.1 (x.2.2.2.1 x.2.1 + 1) := if_neg h
theorem nxG_le (h : x.2.1 < nL g) : nxG g wy x ≤ nL g := by
  unfold nxG
  have hp : 0 < nL g := by omega
  have h1 := lnOf_lt (oneG g wy x) hp
  have h2 := lnOf_lt (twoG g wy x) hp
  repeat' split
  all_goals omega
theorem wrG_len : (wrG g wy x).length ≤ x.2.2.2.2.2.length + 1 := by
  unfold wrG
  split
  · rw [List.length_append]; exact Nat.le_refl _
  · exact Nat.le_succ _
theorem PMo.stpZ (h : PMo g wy x) : PMo g wy (stp g be wy x) := by
  by_cases h1 : x.1 = 1
  · by_cases h2 : hol be wy x
    · rw [stp_hol h1 h2]
      exact ⟨(by decide : 3 ≤ 4), h.2.1, fun _ => h.2.2.1 (Or.inl h1), h.2.2.2.1, h.2.2.2.2⟩
    · rw [stp_wrk h1 h2]
      have hN := h.2.2.1 (Or.inl h1)
      refine ⟨?_, nxG_le hN, fun hh => ?_, ?_, fun hw i hi => ?_⟩
      · show (if nL g ≤ nxG g wy x then 2 else 1) ≤ 4
        split <;> omega
      · have hh : (if nL g ≤ nxG g wy x then 2 else 1) = 1 ∨ (if nL g ≤ nxG g wy x then 2 else 1) = 3 := hh
        by_cases hn : nL g ≤ nxG g wy x
        · rw [if_pos hn] at hh; omega
        · exact Nat.lt_of_not_le hn
      · have := h.2.2.2.1
        have := wrG_len (g := g) (wy := wy) (x := x)
        show (wrG g wy x).length ≤ x.2.2.1 + 1
        omega
      · show woG g wy x i = 0
        unfold woG
        rw [if_neg (fun q => q.2.2 hw), w1_plain hw]
        exact h.2.2.2.2 hw i hi
  · rw [stp_off h1]; exact h
theorem PMo.itZ : ∀ (n : Nat) (x : PM), PMo g wy x → PMo g wy (itG g be wy n x) := by
  intro n
  induction n with
  | zero => intro x h; exact h
  | succ n ih => intro x h; exact ih _ h.stpZ
theorem PMo.pflZ (h : PMo g wy x) : PMo g wy (pfl be wy x) := by
  unfold pfl
  split
  · rename_i h1
    exact ⟨(by decide : 3 ≤ 4), h.2.1, fun _ => h.2.2.1 (Or.inl h1.1), h.2.2.2.1, h.2.2.2.2⟩
  · exact h
theorem stp_k : (stp g be wy x).2.2.1 ≤ x.2.2.1 + 1 ∧ x.2.2.1 ≤ (stp g be wy x).2.2.1 := by
  unfold stp
  split
  · split
    · exact ⟨Nat.le_succ _, Nat.le_refl _⟩
    · exact ⟨Nat.le_refl _, Nat.le_succ _⟩
  · exact ⟨Nat.le_succ _, Nat.le_refl _⟩
theorem it_k : ∀ (n : Nat) (x : PM), (itG g be wy n x).2.2.1 ≤ x.2.2.1 + n := by
  intro n
  induction n with
  | zero => intro x; exact Nat.le_refl _
  | succ n ih =>
    intro x
    have := ih (stp g be wy x)
    have := (stp_k (g := g) (be := be) (wy := wy) (x := x)).1
    show (itG g be wy n (stp g be wy x)).2.2.1 ≤ _
    omega
end IT
section LG
variable {g : PGr} {l : Nat}
theorem lnG_get (h : l < nL g) : g.2.2.2[l]? = some (lnG g l) := by
  have h : l < g.2.2.2.length := h
  unfold lnG
  rw [List.getD_eq_getElem?_getD, List.getElem?_eq_getElem h]
  rfl
theorem lnG_ok (hG : GK9 g) (h : l < nL g) : OKL (nS g) (nC g) (lnG g l) := hG.2.2.2.2.2.2.2.2.2 _ (List.mem_of_getElem? (lnG_get h))
theorem lnG_e1 (hG : GK9 g) (h : l < nL g) : OE9 (nC g) (lnG g l).2.2.2.1 := by
  obtain ⟨h1, h2, h3, h4, h5, h6, h7⟩ := lnG_ok hG h
  by_cases e : (lnG g l).1 = 6
  · exact Or.inr (h6 e)
  · exact Or.inl (h4 e)
theorem lnG_e2 (hG : GK9 g) (h : l < nL g) : OE9 (nC g) (lnG g l).2.2.2.2 := by
  obtain ⟨h1, h2, h3, h4, h5, h6, h7⟩ := lnG_ok hG h
  by_cases e : (lnG g l).1 = 3 ∨ (lnG g l).1 = 5
  · exact Or.inl (h5 e)
  · exact Or.inr (h7 e)
end LG
end
