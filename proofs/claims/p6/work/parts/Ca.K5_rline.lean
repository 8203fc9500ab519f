section RL8
variable {ts : List Nat} {t : Nat → Int32} {L : List Tok} {q b : Nat} {T td wr : Int32} {w : Int64} {g : PGr}
theorem tX_l {α : Type} {e w : Nat} : tX (.inl e : PRs α) w = .inl e := rfl
theorem pTold_S {ns : List (List Nat)} {c : Nat} {L L' : List Tok} (h : pTold ns L = .inr (c, L')) : L' = L := by
  unfold pTold at h
  split at h
  · split at h
    · cases h
    · exact (Prod.mk.inj (Sum.inr.inj h)).2.symm
  · cases h
theorem up2 {a b c : Nat → Int32} {k : Nat} {x : Int32} : upd a k x k = x := pk_us
theorem sq8_readsInput {ce ip ic il im : Nat → Int32} {cnn : Nat → Int64} {Φ : Int32 → Int32 → Int32 → Int32 → Int64 → Int32 → Int32 → (Nat → Int32) → (Nat → Int32) → (Nat → Int32) → (Nat → Int32) → Prop} (hT : TL ts t) (h : RR ts L q b T w td) (hc : NB (cnm g) cnn) (hce : ce 1 = nI (cnm g).length) (hI : IB 1 g.2.2.1 ip ic il im) (h2 : g.2.2.1.length ≤ 2) (hg : ∀ y ∈ g.2.2.1, y.1 < 6 ∧ y.2.1 ≤ y.2.2 ∧ y.2.2 ≤ 9999) (hm : many g.2.2.1 ≤ 64)
    (bad : ∀ e, tX (pInput g L) 6 = .inl e → ∀ (q' b' T' : Int32) (w' : Int64) (td' : Int32) (ip' ic' il' im' : Nat → Int32), F1 1 ip ip' → F1 2 ic ic' → F1 2 il il' → F1 2 im im' → Φ 0 q' b' T' w' td' (nI e) ip' ic' il' im')
    (good : ∀ g' L', tX (pInput g L) 6 = .inr (g', L') → g'.1 = g.1 → g'.2.1 = g.2.1 → g'.2.2.2 = g.2.2.2 → ∀ (q' b' : Nat) (T' : Int32) (w' : Int64) (td' : Int32) (ip' ic' il' im' : Nat → Int32), RR ts L' q' b' T' w' td' → F1 1 ip ip' → F1 2 ic ic' → F1 2 il il' → F1 2 im im' → IB 1 g'.2.2.1 ip' ic' il' im' → Φ 1 (nI q') (nI b') T' w' td' wr ip' ic' il' im') : wl_X8_readsInput (nI ts.length) t ce cnn (nI q) (nI b) T w td wr ip ic il im Φ := by
  obtain ⟨hip, hii⟩ := hI
  have hc6 := hc.1
  have e2 : nI g.2.2.1.length = 2 ↔ g.2.2.1.length = 2 := nI_eq (a := g.2.2.1.length) (b := 2) (by omega) (by decide)
  have e1' : nI g.2.2.1.length = 1 ↔ g.2.2.1.length = 1 := nI_eq (a := g.2.2.1.length) (b := 1) (by omega) (by decide)
  unfold wl_X8_readsInput
  rw [hip, e2, show (2 : Int32) = nI 2 from rfl, nI_add, nI_clamp (n := 2 + g.2.2.1.length) (by omega)]
  refine ⟨fun n2 => ?_, fun y2 => ?_⟩
  · have hp : pInput g L = bnd (sq0 (sq0 (sq1 (tN (sq0 (sq0 (sq1 (.inr ((), adv L)) fun _ => pTold (cnm g)) fun a => pIf (decide (a.2 ∈ g.2.2.1.map (fun y => y.1))) 3) fun _ => pAdv) (fun _ => 0) (fun _ => 9999)) fun a => pNum a.2 9999) fun a => pIf (decide (64 < (a.2 - a.1.2 + 1) * many g.2.2.1)) 5) fun _ => pAdv) fun y => .inr ((g.1, g.2.1, g.2.2.1 ++ [(y.1.1.1.2, y.1.1.2, y.1.2)], g.2.2.2), y.2) := if_neg (by omega)
    have u2 : ∀ (a : Nat → Int32) (x : Int32), F1 2 a (upd a (2 + g.2.2.1.length) x) := fun a x => F1.up (by omega) (by omega)
    refine sq8_next hT h (fun q1 b1 T1 w1 td1 h1 => ?_)
    refine sq8_told h1 hc hce (fun he => ?_) (fun he => ?_) (fun j hj hjl => ?_)
    · show ((0 : Int32) = 0 ∨ (0 : Int32) = 1) → _
      have e1 : (1 : Int32) + 16 * nI b1 = nI (flt 1 (adv L)) := h1.fltZ 1
      rw [e1]
      refine fun _ => bad _ ?_ _ _ _ _ _ _ _ _ _ F1.rf F1.rf F1.rf F1.rf
      rw [hp]; simp [tN, tX, tW, sq0, sq1, bnd, pAdv, he]
    · rw [pk_us]
      refine fun _ _ => ⟨fun y => absurd y (by (try dsimp only); decide), fun _ => ?_⟩
      show ((0 : Int32) = 0 ∨ (0 : Int32) = 1) → _
      have e1 : nI 2 + 16 * nI b1 = nI (flt 2 (adv L)) := h1.fltZ 2
      rw [e1]
      refine fun _ => bad _ ?_ _ _ _ _ _ _ _ _ _ F1.rf (u2 _ _) F1.rf F1.rf
      rw [hp]; simp [tN, tX, tW, sq0, sq1, bnd, pAdv, he]
    · rw [pk_us, e1']
      refine fun _ _ => ⟨fun _ => ?_, fun y => absurd (nI_pos' (n := j) (by omega)) y⟩
      -- behind the cell, which has no input yet
      have k98 : ¬ j ∈ g.2.2.1.map (fun y => y.1) → kl_X8_readsInput_98 (nI ts.length) t ce cnn Φ (nI q1) (nI b1) T1 w1 td1 wr ip (upd ic (2 + g.2.2.1.length) (nI j)) il im (nI (2 + g.2.2.1.length)) := by
        intro hnj
        unfold kl_X8_readsInput_98
        rw [hip, e1', nI_clamp (n := 2 + g.2.2.1.length) (by omega)]
        refine sq8_next hT h1 (fun q3 b3 T3 w3 td3 h3 => ?_)
        have dj : decide (j ∈ g.2.2.1.map (fun y => y.1)) = false := decide_eq_false hnj
        refine sq8_needsNumber (lo := 0) (hi := 9999) (by decide) (by decide) h3 (fun e he => ⟨fun z => absurd rfl z, fun _ => bad e ?_ _ _ _ _ _ _ _ _ _ F1.rf (u2 _ _) F1.rf F1.rf⟩) (fun n4 hn4 htd4 _ _ hb4 => ⟨fun _ _ => ?_, fun z => absurd z (by (try dsimp only); decide)⟩)
        · rw [hp]; simp only [tN, tX, tW, sq0, sq1, bnd, pAdv, hj, pIf, dj, he, Bool.false_eq_true, if_false, if_true] <;> rfl
        refine sq8_next hT h3 (fun q5 b5 T5 w5 td5 h5 => fun _ => ?_)
        rw [pk_us, htd4]
        refine sq8_needsNumber (lo := n4) (hi := 9999) (by omega) (by decide) h5 (fun e he => ⟨fun z => absurd rfl z, fun _ => bad e ?_ _ _ _ _ _ _ _ _ _ F1.rf (u2 _ _) (u2 _ _) F1.rf⟩) (fun n6 hn6 htd6 hle _ hb6 => ⟨fun _ _ _ => ?_, fun z => absurd z (by (try dsimp only); decide)⟩)
        · rw [hp]; simp only [tN, tX, tW, sq0, sq1, bnd, pAdv, hj, pIf, dj, hn4, he, Bool.false_eq_true, if_false, if_true] <;> rfl
        -- whether it is too many
        have k201 : kl_X8_readsInput_201 (nI ts.length) t ce cnn Φ (nI q5) (nI b5) T5 w5 td5 wr ip (upd ic (2 + g.2.2.1.length) (nI j)) (upd il (2 + g.2.2.1.length) (nI n4)) (upd im (2 + g.2.2.1.length) (nI n6)) (nI (many g.2.2.1)) (nI (n6 - n4 + 1)) := by
          unfold kl_X8_readsInput_201
          have hb : (n6 - n4 + 1) * many g.2.2.1 ≤ 10000 * 64 := Nat.mul_le_mul (by omega) hm
          have e64 : nI (n6 - n4 + 1) * nI (many g.2.2.1) ≤ 64 ↔ (n6 - n4 + 1) * many g.2.2.1 ≤ 64 := by
            rw [pk_mul]
            exact nI_leI (b := 64) (by omega) (by decide)
          rw [e64, hip, nI_1]
          refine ⟨fun y64 => ?_, fun n64 => ?_⟩
          · have d64 : decide (64 < (n6 - n4 + 1) * many g.2.2.1) = false := decide_eq_false (by omega)
            refine sq8_next hT h5 (fun q8 b8 T8 w8 td8 h8 => ?_)
            have fi : F1 1 ip (upd ip 1 (nI (g.2.2.1.length + 1))) := F1.up (by omega) (by omega)
            refine sq8_ends hT h8 (fun e he => fun _ => bad e ?_ _ _ _ _ _ _ _ _ _ fi (u2 _ _) (u2 _ _) (u2 _ _)) (fun s9 q9 b9 T9 w9 td9 h9 => fun _ => good (g.1, g.2.1, g.2.2.1 ++ [(j, n4, n6)], g.2.2.2) (adv (adv (adv (adv (adv L))))) ?_ rfl rfl rfl _ _ _ _ _ _ _ _ _ h9 fi (u2 _ _) (u2 _ _) (u2 _ _) ⟨?_, fun i y hi => ?_⟩)
            · rw [hp]; simp only [tN, tX, tW, sq0, sq1, bnd, pAdv, hj, pIf, dj, hn4, hn6, d64, Bool.false_eq_true, if_false]; simp [he]
            · rw [hp]; simp only [tN, tX, tW, sq0, sq1, bnd, pAdv, hj, pIf, dj, hn4, hn6, d64, Bool.false_eq_true, if_false]; simp [s9]
            · show upd ip 1 _ 1 = nI (g.2.2.1 ++ [_]).length
              rw [pk_us, List.length_append]; rfl
            · rcases app_get hi with g9 | ⟨e, e2⟩
              · have := get_lt g9
                rw [pk_un (by omega), pk_un (by omega), pk_un (by omega)]
                exact hii i y g9
              · rw [e, show 2 * 1 + g.2.2.1.length = 2 + g.2.2.1.length by omega, pk_us, pk_us, pk_us, e2]
                exact ⟨rfl, rfl, rfl⟩
          · have d64 : decide (64 < (n6 - n4 + 1) * many g.2.2.1) = true := decide_eq_true (by omega)
            show ((0 : Int32) = 0 ∨ (0 : Int32) = 1) → _
            have e1 : (5 : Int32) + 16 * nI b5 = nI (flt 5 (adv (adv (adv L)))) := h5.fltZ 5
            rw [e1]
            refine fun _ => bad _ ?_ _ _ _ _ _ _ _ _ _ F1.rf (u2 _ _) (u2 _ _) (u2 _ _)
            rw [hp]; simp only [tN, tX, tW, sq0, sq1, bnd, pAdv, hj, pIf, dj, hn4, hn6, d64, Bool.false_eq_true, if_false, if_true] <;> rfl
        rw [htd6, pk_sub hle, nI_1]
        refine ⟨fun n1 => ?_, fun y1 => ?_⟩
        · have e0 : g.2.2.1 = [] := List.eq_nil_of_length_eq_zero (by omega)
          have em : many g.2.2.1 = 1 := by rw [e0]; rfl
          rw [em] at k201
          rw [htd6] at k201
          exact k201
        · obtain ⟨z, ez⟩ : ∃ z, g.2.2.1 = [z] := by
            match hgl : g.2.2.1, y1 with
            | [z], _ => exact ⟨z, rfl⟩
          have em : many g.2.2.1 = z.2.2 - z.2.1 + 1 := by rw [ez]; show 1 * _ = _; rw [Nat.one_mul]
          have hz := hii 0 z (by rw [ez]; rfl)
          have hzb := hg z (by rw [ez]; exact List.mem_singleton.mpr rfl)
          rw [pk_un (show 2 ≠ 2 + g.2.2.1.length by omega), pk_un (show 2 ≠ 2 + g.2.2.1.length by omega)]
          have i0 : il 2 = nI z.2.1 := hz.2.1
          have i1 : im 2 = nI z.2.2 := hz.2.2
          rw [i0, i1, pk_sub hzb.2.1, nI_1, ← em]
          rw [htd6] at k201
          exact k201
      refine ⟨fun n1 => k98 ?_, fun y1 => fun _ => ?_⟩
      · have e0 : g.2.2.1 = [] := List.eq_nil_of_length_eq_zero (by omega)
        rw [e0]
        intro hm
        cases hm
      · obtain ⟨z, ez⟩ : ∃ z, g.2.2.1 = [z] := by
          match hgl : g.2.2.1, y1 with
          | [z], _ => exact ⟨z, rfl⟩
        have hz := hii 0 z (by rw [ez]; rfl)
        have hzb := hg z (by rw [ez]; exact List.mem_singleton.mpr rfl)
        rw [pk_un (show 2 ≠ 2 + g.2.2.1.length by omega)]
        have i0 : ic 2 = nI z.1 := hz.1
        have ij : nI z.1 = nI j ↔ z.1 = j := nI_eq (by omega) (by omega)
        have em : (j ∈ g.2.2.1.map (fun y => y.1)) ↔ z.1 = j := by
          rw [ez]
          exact ⟨fun hm => (List.mem_singleton.mp hm).symm, fun e => List.mem_singleton.mpr e.symm⟩
        rw [i0, ij]
        refine ⟨fun n => k98 (fun hm => n (em.mp hm)), fun y => ?_⟩
        show ((0 : Int32) = 0 ∨ (0 : Int32) = 1) → _
        have e1 : (3 : Int32) + 16 * nI b1 = nI (flt 3 (adv L)) := h1.fltZ 3
        rw [e1]
        refine fun _ => bad _ ?_ _ _ _ _ _ _ _ _ _ F1.rf (u2 _ _) F1.rf F1.rf
        have dj : decide (j ∈ g.2.2.1.map (fun y => y.1)) = true := decide_eq_true (em.mpr y)
        rw [hp]; simp only [tN, tX, tW, sq0, sq1, bnd, pAdv, hj, pIf, dj, Bool.false_eq_true, if_false, if_true] <;> rfl
  · have hp : pInput g L = .inl (flt 5 L) := if_pos (by omega)
    show ((0 : Int32) = 0 ∨ (0 : Int32) = 1) → _
    have e1 : (5 : Int32) + 16 * nI b = nI (flt 5 L) := h.fltZ 5
    rw [e1]
    exact fun _ => bad _ (by rw [hp]; rfl) _ _ _ _ _ _ _ _ _ F1.rf F1.rf F1.rf F1.rf
theorem sq8_needsCell {ce aC : Nat → Int32} {cnn : Nat → Int64} {cn : List (List Nat)} {l : Nat} {Φ : Int32 → Int32 → Int32 → Int32 → Int64 → Int32 → Int32 → (Nat → Int32) → Prop} (hl : l < 96) (hT : TL ts t) (h : RR ts L q b T w td) (hc : NB cn cnn) (hce : ce 1 = nI cn.length) (bad : ∀ e, pTold cn L = .inl e → ∀ aC', (∀ j, j ≠ l → aC' j = aC j) → Φ 0 (nI q) (nI b) T w td (nI e) aC') (good : ∀ j, pTold cn L = .inr (j, L) → j < cn.length → ∀ (q' b' : Nat) (T' : Int32) (w' : Int64) (td' : Int32), RR ts (adv L) q' b' T' w' td' → Φ 1 (nI q') (nI b') T' w' td' wr (upd aC l (nI j))) : wl_X8_needsCell (nI ts.length) t ce cnn (nI l) (nI q) (nI b) T w td wr aC Φ := by
  have h6 := hc.1
  unfold wl_X8_needsCell
  rw [nI_clamp (n := l) (by omega)]
  refine sq8_told h hc hce (fun he => ?_) (fun he => ?_) (fun j hj hjl => ?_)
  · show ((0 : Int32) = 0 ∨ (0 : Int32) = 1) → _
    have e1 : (1 : Int32) + 16 * nI b = nI (flt 1 L) := h.fltZ 1
    rw [e1]
    exact fun _ => bad _ he _ (fun _ _ => rfl)
  · rw [pk_us]
    refine fun _ _ => ⟨fun y => absurd y (by (try dsimp only); decide), fun _ => ?_⟩
    show ((0 : Int32) = 0 ∨ (0 : Int32) = 1) → _
    have e1 : (2 : Int32) + 16 * nI b = nI (flt 2 L) := h.fltZ 2
    rw [e1]
    exact fun _ => bad _ he _ (fun j hj => pk_un hj)
  · rw [pk_us]
    exact fun _ _ => ⟨fun _ => sq8_next hT h (fun q' b' T' w' td' h' => good j hj hjl q' b' T' w' td' h'), fun y => absurd (nI_pos' (n := j) (by omega)) y⟩
/-- nothing is changed but at k -/
def KO (k : Nat) (a a' : Nat → Int32) : Prop := ∀ j, j ≠ k → a' j = a j
def KO2 (k : Nat) (a a' : Nat → Int32) : Prop := ∀ j, j ≠ 2 * k → j ≠ 2 * k + 1 → a' j = a j
/-- codes: nothing is changed below c, nor from 2000 on -/
def KC (c : Nat) (cd cd' : Nat → Int32) : Prop := ∀ j, j < c ∨ 2000 ≤ j → cd' j = cd j
theorem CW.kc {c : Nat} {i : List Nat} {cd cd' : Nat → Int32} (h : CW c i cd cd') : KC c cd cd' := fun j hj => hj.elim (h.1 j) (h.2.2 j)
/-- the codes of an expression of the line l, read from c on -/
def EL9 (k c : Nat) (i : List Nat) (lf lt cd : Nat → Int32) : Prop := lf k = nI c ∧ lt k = nI (c + i.length) ∧ ∀ j x, i[j]? = some x → cd (c + j) = nI x
abbrev PA8 : Type := Int32 → Int32 → Int32 → Int32 → Int64 → Int32 → Int32 → Int32 → (Nat → Int32) → (Nat → Int32) → (Nat → Int32) → (Nat → Int32) → (Nat → Int32) → (Nat → Int32) → (Nat → Int32) → Prop
theorem act_of {Φ : Int32 → Prop} (h : RR ts L q b T w td) (h1 : ∀ a, a ≤ 6 → ix (hdt L) = 20 + a → Φ (nI a)) (h0 : ¬ (20 ≤ ix (hdt L) ∧ ix (hdt L) ≤ 26) → Φ (-1)) : wl_X8_actAt T w Φ := by
  refine sq8_word 8 (by decide) rfl h (fun e => ⟨fun z => absurd z (by (try dsimp only); decide), fun _ => h1 0 (by decide) e⟩) (fun n0 => ⟨fun _ => ?_, fun z => absurd rfl z⟩)
  refine sq8_word 9 (by decide) rfl h (fun e => ⟨fun z => absurd z (by (try dsimp only); decide), fun _ => h1 1 (by decide) e⟩) (fun n1 => ⟨fun _ => ?_, fun z => absurd rfl z⟩)
  refine sq8_word 10 (by decide) rfl h (fun e => ⟨fun z => absurd z (by (try dsimp only); decide), fun _ => h1 2 (by decide) e⟩) (fun n2 => ⟨fun _ => ?_, fun z => absurd rfl z⟩)
  refine sq8_word 11 (by decide) rfl h (fun e => ⟨fun z => absurd z (by (try dsimp only); decide), fun _ => h1 3 (by decide) e⟩) (fun n3 => ⟨fun _ => ?_, fun z => absurd rfl z⟩)
  refine sq8_word 12 (by decide) rfl h (fun e => ⟨fun z => absurd z (by (try dsimp only); decide), fun _ => h1 4 (by decide) e⟩) (fun n4 => ⟨fun _ => ?_, fun z => absurd rfl z⟩)
  refine sq8_word 13 (by decide) rfl h (fun e => ⟨fun z => absurd z (by (try dsimp only); decide), fun _ => h1 5 (by decide) e⟩) (fun n5 => ⟨fun _ => ?_, fun z => absurd rfl z⟩)
  exact sq8_word 14 (by decide) rfl h (fun e => ⟨fun z => absurd z (by (try dsimp only); decide), fun _ => h1 6 (by decide) e⟩) (fun n6 => ⟨fun _ => h0 (by omega), fun z => absurd rfl z⟩)
/-- what readsAct leaves where the line is well told: cell, expressions -/
def AG8 (cn : List (List Nat)) (l c a : Nat) (y : Nat × EC × EC) (c' : Nat) (ac' aC' lf' lt' cd' : Nat → Int32) : Prop := ac' l = nI a ∧ ((a = 0 ∨ a = 4) → aC' l = nI y.1) ∧ (a ≠ 6 → EL9 (2 * l) c y.2.1.1 lf' lt' cd') ∧ ((a = 3 ∨ a = 5) → EL9 (2 * l + 1) (c + y.2.1.1.length) y.2.2.1 lf' lt' cd') ∧ c' = c + y.2.1.1.length + y.2.2.1.length
theorem sq8_readsAct {ce : Nat → Int32} {cnn : Nat → Int64} {cn : List (List Nat)} {l c : Nat} {ac aC lf lt cd op cm : Nat → Int32} {Φ : PA8} (hT : TL ts t) (h : RR ts L q b T w td) (hW : WT L) (hc : NB cn cnn) (hce : ce 1 = nI cn.length) (hl : l < 96) (hc1 : 1000 ≤ c) (hc2 : c + L.length ≤ 2000)
    (bad : ∀ e, tA (.inr ((), L) : PRs Unit) cn = .inl e → ∀ (q' b' T' : Int32) (w' : Int64) (td' c' : Int32) (ac' aC' lf' lt' cd' op' cm' : Nat → Int32), KO l ac ac' → KO l aC aC' → KO2 l lf lf' → KO2 l lt lt' → KC c cd cd' → Φ 0 q' b' T' w' td' (nI e) c' ac' aC' lf' lt' cd' op' cm')
    (good : ∀ y L', tA (.inr ((), L) : PRs Unit) cn = .inr (((), ix (hdt L) - 20, y), L') → 20 ≤ ix (hdt L) → ix (hdt L) ≤ 26 → ∀ (q' b' : Nat) (T' : Int32) (w' : Int64) (td' : Int32) (c' : Nat) (ac' aC' lf' lt' cd' op' cm' : Nat → Int32), RR ts L' q' b' T' w' td' → WT L' → c' + L'.length ≤ c + L.length → KO l ac ac' → KO l aC aC' → KO2 l lf lf' → KO2 l lt lt' → KC c cd cd' → AG8 cn l c (ix (hdt L) - 20) y c' ac' aC' lf' lt' cd' → Φ 1 (nI q') (nI b') T' w' td' wr (nI c') ac' aC' lf' lt' cd' op' cm') : wl_X8_readsAct (nI ts.length) t ce cnn (nI l) (nI q) (nI b) T w td wr (nI c) ac aC lf lt cd op cm Φ := by
  unfold wl_X8_readsAct
  have e2l : (2 : Int32) * nI l = nI (2 * l) := by rw [show (2 : Int32) = nI 2 from rfl, pk_mul]
  rw [e2l, nI_1, nI_clamp (n := l) (by omega), nI_clamp (n := 2 * l) (by omega), nI_clamp (n := 2 * l + 1) (by omega)]
  refine act_of h (fun a ha hx => ⟨fun _ _ _ _ _ _ _ => ?_, fun y => absurd (nI_pos' (n := a) (by omega)) y⟩) (fun hno => ⟨fun y => absurd y (by (try dsimp only); decide), fun _ => ?_⟩)
  · have ea : ix (hdt L) - 20 = a := by omega
    have hq : tA (.inr ((), L) : PRs Unit) cn = bnd (pAct cn a (.inr ((), adv L) : PRs Unit)) fun y => .inr (((), a, y.1.2), y.2) := by
      have : tA (.inr ((), L) : PRs Unit) cn = bnd (pAct cn (ix (hdt L) - 20) (.inr ((), adv L) : PRs Unit)) fun y => .inr (((), ix (hdt L) - 20, y.1.2), y.2) := if_pos ⟨by dsimp only; omega, by dsimp only; omega⟩
      rw [ea] at this
      exact this
    have good := fun y L' e => good y L' e (by omega) (by omega)
    rw [ea] at good
    have hne : ¬ (hdt L).1 = 0 := fun z => by rw [ix_0.mpr z] at hx; omega
    have hlen := hW.advZ.2.2 hne
    have hWa := hW.advZ.1
    have k2 : ∀ (f : Nat → Int32) (x : Int32), KO2 l f (upd (upd f (2 * l) x) (2 * l + 1) x) := fun f x j h1 h2 => by rw [pk_un h2, pk_un h1]
    have k1 : ∀ (f : Nat → Int32) (x : Int32), KO l f (upd f l x) := fun f x j h1 => pk_un h1
    have aI : ∀ j : Nat, j < 100 → (nI a = nI j ↔ a = j) := fun j hj => nI_eq (by omega) (by omega)
    have a0 : nI a = 0 ↔ a = 0 := aI 0 (by decide)
    have a3 : nI a = 3 ↔ a = 3 := aI 3 (by decide)
    have a4 : nI a = 4 ↔ a = 4 := aI 4 (by decide)
    have a5 : nI a = 5 ↔ a = 5 := aI 5 (by decide)
    have a6 : nI a = 6 ↔ a = 6 := aI 6 (by decide)
    refine sq8_next hT h (fun q1 b1 T1 w1 td1 h1 => ⟨fun n6 => ?_, fun y6 => ?_⟩)
    · rw [a6] at n6
      -- from the first expression on, at the tokens M, with the cell x already told (act 0)
      have k107 : ∀ (M : List Tok) (x : Nat) (aC1 : Nat → Int32) (q2 b2 : Nat) (T2 : Int32) (w2 : Int64) (td2 : Int32), RR ts M q2 b2 T2 w2 td2 → WT M → M.length ≤ (adv L).length → KO l aC aC1 → (a = 0 → aC1 l = nI x) →
          pAct cn a (.inr ((), adv L) : PRs Unit) = bnd ((pEP cn 40).1 0 0 M) (fun e => if a = 3 ∨ a = 5 then bnd (tE (tX (.inr (((), e.1), e.2) : PRs (Unit × EC)) (if a = 3 then 22 else 19)) cn) fun y => .inr ((y.1.1.1, 0, y.1.1.2, y.1.2), y.2) else if a = 4 then bnd (tO (tX (.inr (((), e.1), e.2) : PRs (Unit × EC)) 18) cn) fun y => .inr ((y.1.1.1, y.1.2, y.1.1.2, ([], [])), y.2) else .inr (((), (if a = 0 then x else 0), e.1, ([], [])), e.2)) →
          kl_X8_readsAct_107 (nI ts.length) t ce cnn (nI l) Φ (nI q2) (nI b2) T2 w2 td2 wr (nI c) (upd ac l (nI a)) aC1 (upd (upd lf (2 * l) (nI c)) (2 * l + 1) (nI c)) (upd (upd lt (2 * l) (nI c)) (2 * l + 1) (nI c)) cd op cm (nI a) := by
        intro M x aC1 q2 b2 T2 w2 td2 h2 hWM hML hkC haC hpa
        unfold kl_X8_readsAct_107
        rw [e2l, nI_1]
        refine sq8_readsE (cn := cn) hT hc hce (by omega) h2 hWM hc1 (by omega) (fun e he => ?_) (fun i p L3 he hil hW3 q3 b3 T3 w3 td3 cd3 op3 cm3 h3 hw3 => ?_)
        · refine fun q' b' T' w' td' c' cd' op' cm' hf => ⟨fun z => absurd rfl z, fun _ => ?_⟩
          refine bad e ?_ _ _ _ _ _ _ _ _ _ _ _ _ _ (k1 _ _) hkC (fun j h1 h2 => by rw [pk_un h1]; exact k2 _ _ j h1 h2) (k2 _ _) hf
          rw [hq, hpa, he]
          rfl
        · have hlf : KO2 l lf (upd (upd (upd lf (2 * l) (nI c)) (2 * l + 1) (nI c)) (2 * l) (nI c)) := fun j h1 h2 => by rw [pk_un h1]; exact k2 _ _ j h1 h2
          have hlt : KO2 l lt (upd (upd (upd lt (2 * l) (nI c)) (2 * l + 1) (nI c)) (2 * l) (nI (c + i.length))) := fun j h1 h2 => by rw [pk_un h1]; exact k2 _ _ j h1 h2
          have el1 : ∀ (cd' : Nat → Int32), (∀ j, j < c + i.length → cd' j = cd3 j) → ∀ (u v : Nat → Int32), u (2 * l) = nI c → v (2 * l) = nI (c + i.length) → EL9 (2 * l) c i u v cd' := fun cd' hcd u v hu hv => ⟨hu, hv, fun j x hj => by rw [hcd _ (by have := get_lt hj; omega)]; exact hw3.2.1 j x hj⟩
          refine ⟨fun _ => ⟨fun n3 => ⟨fun n5 => ⟨fun n4 => ?_, fun y4 => ?_⟩, fun y5 => ?_⟩, fun y3 => ?_⟩, fun z => absurd z (by (try dsimp only); decide)⟩
          · rw [a3] at n3
            rw [a5] at n5
            rw [a4] at n4
            have hf : pAct cn a (.inr ((), adv L) : PRs Unit) = .inr (((), (if a = 0 then x else 0), (i, p), ([], [])), L3) := by rw [hpa, he, bnd_r, if_neg (by omega), if_neg n4]
            refine good _ L3 (by rw [hq, hf]; rfl) _ _ _ _ _ _ _ _ _ _ _ _ _ h3 hW3 (by omega) (k1 _ _) hkC hlf hlt hw3.kc ⟨pk_us, fun z => ?_, fun _ => el1 _ (fun _ _ => rfl) _ _ pk_us pk_us, fun z => by omega, rfl⟩
            have z0 : a = 0 := by omega
            show aC1 l = nI (if a = 0 then x else 0)
            rw [if_pos z0]
            exact haC z0
          · rw [a4] at y4
            have hgd4 := fun z L4 (e : tO (tX (.inr (((), (i, p)), L3) : PRs (Unit × EC)) 18) cn = .inr (z, L4)) => (show pAct cn a (.inr ((), adv L) : PRs Unit) = .inr ((z.1.1, z.2, z.1.2, ([], [])), L4) from by rw [hpa, he, bnd_r, if_neg (by omega), if_pos y4, e]; rfl)
            have hbd4 := fun e2 (e : tO (tX (.inr (((), (i, p)), L3) : PRs (Unit × EC)) 18) cn = .inl e2) => (show pAct cn a (.inr ((), adv L) : PRs Unit) = .inl e2 from by rw [hpa, he, bnd_r, if_neg (by omega), if_pos y4, e]; rfl)
            have fb : ∀ e, pAct cn a (.inr ((), adv L) : PRs Unit) = .inl e → ∀ (q' b' T' : Int32) (w' : Int64) (td' : Int32) (aC2 : Nat → Int32), KO l aC aC2 → Φ 0 q' b' T' w' td' (nI e) (nI (c + i.length)) (upd ac l (nI a)) aC2 _ _ cd3 op3 cm3 := fun e hpe q' b' T' w' td' aC2 hk2 => bad e (by rw [hq, hpe]; rfl) _ _ _ _ _ _ _ _ _ _ _ _ _ (k1 _ _) hk2 hlf hlt hw3.kc
            refine sq8_needsWord 6 (by decide) rfl hT h3 (fun e hs => ⟨fun _ => fb e (hbd4 e ?_) _ _ _ _ _ _ hkC, fun z => absurd rfl z⟩) (fun s4 q4 b4 T4 w4 td4 h4 => ⟨fun z => absurd z (by (try dsimp only); decide), fun _ => ?_⟩)
            · simp [tO, tX, sq0, sq1, bnd, pAdv, hs]
            refine sq8_needsCell hl hT h4 hc hce (fun e hs aC2 hk2 => ⟨fun _ => fb e (hbd4 e ?_) _ _ _ _ _ _ (fun j hj => (hk2 j hj).trans (hkC j hj)), fun z => absurd rfl z⟩) (fun j hj hjl q5 b5 T5 w5 td5 h5 => ⟨fun z => absurd z (by (try dsimp only); decide), fun _ => ?_⟩)
            · simp [tO, tX, sq0, sq1, bnd, pAdv, s4, hs]
            have hW4 := hW3.advZ.1
            have l4 := adv_le L3
            have l5 := adv_le (adv L3)
            have hf := hgd4 (((), (i, p)), j) (adv (adv L3)) (by simp [tO, tX, sq0, sq1, bnd, pAdv, s4, hj])
            refine good _ _ (by rw [hq, hf]; rfl) _ _ _ _ _ _ _ _ _ _ _ _ _ h5 hW4.advZ.1 (by omega) (k1 _ _) (fun j' hj' => (pk_un hj').trans (hkC j' hj')) hlf hlt hw3.kc ⟨pk_us, fun _ => pk_us, fun _ => el1 _ (fun _ _ => rfl) _ _ pk_us pk_us, fun z => by omega, rfl⟩
          · rw [a5] at y5
            have n3' : ¬ a = 3 := by omega
            have hgd5 := fun z L4 (e : tE (tX (.inr (((), (i, p)), L3) : PRs (Unit × EC)) 19) cn = .inr (z, L4)) => (show pAct cn a (.inr ((), adv L) : PRs Unit) = .inr ((z.1.1, 0, z.1.2, z.2), L4) from by rw [hpa, he, bnd_r, if_pos (Or.inr y5), if_neg n3', e]; rfl)
            have hbd5 := fun e2 (e : tE (tX (.inr (((), (i, p)), L3) : PRs (Unit × EC)) 19) cn = .inl e2) => (show pAct cn a (.inr ((), adv L) : PRs Unit) = .inl e2 from by rw [hpa, he, bnd_r, if_pos (Or.inr y5), if_neg n3', e]; rfl)
            refine sq8_needsWord 7 (by decide) rfl hT h3 (fun e hs => ⟨fun _ => bad e (by rw [hq, hbd5 e (by simp [tE, tX, sq0, sq1, bnd, pAdv, hs])]; rfl) _ _ _ _ _ _ _ _ _ _ _ _ _ (k1 _ _) hkC hlf hlt hw3.kc, fun z => absurd rfl z⟩) (fun s4 q4 b4 T4 w4 td4 h4 => ⟨fun z => absurd z (by (try dsimp only); decide), fun _ => ?_⟩)
            have hW4 := hW3.advZ.1
            have l4 := adv_le L3
            refine sq8_readsE (cn := cn) hT hc hce (by omega) h4 hW4 (by omega) (by omega) (fun e he5 => ?_) (fun i5 p5 L5 he5 hil5 hW5 q5 b5 T5 w5 td5 cd5 op5 cm5 h5 hw5 => ?_)
            · refine fun q' b' T' w' td' c' cd' op' cm' hf => ⟨fun _ => ?_, fun z => absurd rfl z⟩
              exact bad e (by rw [hq, hbd5 e (by simp [tE, tX, sq0, sq1, bnd, pAdv, s4, he5])]; rfl) _ _ _ _ _ _ _ _ _ _ _ _ _ (k1 _ _) hkC (fun j h1 h2 => by rw [pk_un h2]; exact hlf j h1 h2) hlt (fun j hj => (hf j (by omega)).trans (hw3.kc j hj))
            · refine ⟨fun z => absurd z (by (try dsimp only); decide), fun _ => ?_⟩
              have hf := hgd5 (((), (i, p)), (i5, p5)) L5 (by simp [tE, tX, sq0, sq1, bnd, pAdv, s4, he5])
              refine good _ _ (by rw [hq, hf]; rfl) _ _ _ _ _ _ _ _ _ _ _ _ _ h5 hW5 (by omega) (k1 _ _) hkC (fun j h1 h2 => by rw [pk_un h2]; exact hlf j h1 h2) (fun j h1 h2 => by rw [pk_un h2]; exact hlt j h1 h2) (fun j hj => (hw5.kc j (by omega)).trans (hw3.kc j hj)) ⟨pk_us, fun z => by omega, fun _ => el1 _ (fun j hj => hw5.1 j hj) _ _ ?_ ?_, fun _ => ⟨pk_us, pk_us, fun j x hj => hw5.2.1 j x hj⟩, rfl⟩
              all_goals (rw [pk_un (by omega)]; exact pk_us)
          · rw [a3] at y3
            have hgd5 := fun z L4 (e : tE (tX (.inr (((), (i, p)), L3) : PRs (Unit × EC)) 22) cn = .inr (z, L4)) => (show pAct cn a (.inr ((), adv L) : PRs Unit) = .inr ((z.1.1, 0, z.1.2, z.2), L4) from by rw [hpa, he, bnd_r, if_pos (Or.inl y3), if_pos y3, e]; rfl)
            have hbd5 := fun e2 (e : tE (tX (.inr (((), (i, p)), L3) : PRs (Unit × EC)) 22) cn = .inl e2) => (show pAct cn a (.inr ((), adv L) : PRs Unit) = .inl e2 from by rw [hpa, he, bnd_r, if_pos (Or.inl y3), if_pos y3, e]; rfl)
            refine sq8_needsWord 10 (by decide) rfl hT h3 (fun e hs => ⟨fun _ => bad e (by rw [hq, hbd5 e (by simp [tE, tX, sq0, sq1, bnd, pAdv, hs])]; rfl) _ _ _ _ _ _ _ _ _ _ _ _ _ (k1 _ _) hkC hlf hlt hw3.kc, fun z => absurd rfl z⟩) (fun s4 q4 b4 T4 w4 td4 h4 => ⟨fun z => absurd z (by (try dsimp only); decide), fun _ => ?_⟩)
            have hW4 := hW3.advZ.1
            have l4 := adv_le L3
            refine sq8_readsE (cn := cn) hT hc hce (by omega) h4 hW4 (by omega) (by omega) (fun e he5 => ?_) (fun i5 p5 L5 he5 hil5 hW5 q5 b5 T5 w5 td5 cd5 op5 cm5 h5 hw5 => ?_)
            · refine fun q' b' T' w' td' c' cd' op' cm' hf => ⟨fun _ => ?_, fun z => absurd rfl z⟩
              exact bad e (by rw [hq, hbd5 e (by simp [tE, tX, sq0, sq1, bnd, pAdv, s4, he5])]; rfl) _ _ _ _ _ _ _ _ _ _ _ _ _ (k1 _ _) hkC (fun j h1 h2 => by rw [pk_un h2]; exact hlf j h1 h2) hlt (fun j hj => (hf j (by omega)).trans (hw3.kc j hj))
            · refine ⟨fun z => absurd z (by (try dsimp only); decide), fun _ => ?_⟩
              have hf := hgd5 (((), (i, p)), (i5, p5)) L5 (by simp [tE, tX, sq0, sq1, bnd, pAdv, s4, he5])
              refine good _ _ (by rw [hq, hf]; rfl) _ _ _ _ _ _ _ _ _ _ _ _ _ h5 hW5 (by omega) (k1 _ _) hkC (fun j h1 h2 => by rw [pk_un h2]; exact hlf j h1 h2) (fun j h1 h2 => by rw [pk_un h2]; exact hlt j h1 h2) (fun j hj => (hw5.kc j (by omega)).trans (hw3.kc j hj)) ⟨pk_us, fun z => by omega, fun _ => el1 _ (fun j hj => hw5.1 j hj) _ _ ?_ ?_, fun _ => ⟨pk_us, pk_us, fun j x hj => hw5.2.1 j x hj⟩, rfl⟩
              all_goals (rw [pk_un (by omega)]; exact pk_us)
      refine ⟨fun n0 => ?_, fun y0 => ?_⟩
      · rw [a0] at n0
        refine k107 (adv L) 0 _ q1 b1 T1 w1 td1 h1 hWa (Nat.le_refl _) (k1 _ _) (fun z => absurd z n0) ?_
        unfold pAct
        rw [if_neg n0]
        by_cases h35 : a = 3 ∨ a = 5
        · simp only [if_pos h35]
          show bnd (tE (tX (tE (.inr ((), adv L)) cn) (if a = 3 then 22 else 19)) cn) _ = _
          have : tE (.inr ((), adv L) : PRs Unit) cn = bnd ((pEP cn 40).1 0 0 (adv L)) fun z => .inr (((), z.1), z.2) := rfl
          rw [this]
          cases (pEP cn 40).1 0 0 (adv L) with
          | inl e => rfl
          | inr e => rfl
        · simp only [if_neg h35]
          have : tE (.inr ((), adv L) : PRs Unit) cn = bnd ((pEP cn 40).1 0 0 (adv L)) fun z => .inr (((), z.1), z.2) := rfl
          rw [this]
          by_cases h4 : a = 4
          · simp only [if_pos h4]
            cases (pEP cn 40).1 0 0 (adv L) with
            | inl e => rfl
            | inr e => rfl
          · simp only [if_neg h4, if_neg n6, if_neg n0]
            cases (pEP cn 40).1 0 0 (adv L) with
            | inl e => rfl
            | inr e => rfl
      · rw [a0] at y0
        have hp0 : pAct cn a (.inr ((), adv L) : PRs Unit) = bnd (tE (tO (.inr ((), adv L) : PRs Unit) cn) cn) fun y => .inr (((), y.1.1.2, y.1.2, ([], [])), y.2) := by
          unfold pAct
          rw [if_pos y0]
        refine sq8_needsCell hl hT h1 hc hce (fun e hs aC2 hk2 => ⟨fun z => absurd rfl z, fun _ => ?_⟩) (fun j hj hjl q5 b5 T5 w5 td5 h5 => ⟨fun _ => ?_, fun z => absurd z (by (try dsimp only); decide)⟩)
        · refine bad e ?_ _ _ _ _ _ _ _ _ _ _ _ _ _ (k1 _ _) (fun j hj => (hk2 j hj).trans (k1 _ _ j hj)) (k2 _ _) (k2 _ _) (fun _ _ => rfl)
          rw [hq, hp0]
          simp [tE, tO, sq0, sq1, bnd, pAdv, hs]
        · have l5 := adv_le (adv L)
          refine k107 (adv (adv L)) j _ q5 b5 T5 w5 td5 h5 hWa.advZ.1 l5 (fun j' hj' => (pk_un hj').trans (k1 _ _ j' hj')) (fun _ => pk_us) ?_
          have h35 : ¬ (a = 3 ∨ a = 5) := by omega
          have h4 : ¬ a = 4 := by omega
          simp only [if_neg h35, if_neg h4, if_pos y0]
          rw [hp0]
          have : tO (.inr ((), adv L) : PRs Unit) cn = .inr (((), j), adv (adv L)) := by simp [tO, sq0, sq1, bnd, pAdv, hj]
          rw [this]
          show bnd (bnd ((pEP cn 40).1 0 0 (adv (adv L))) fun z => .inr ((((), j), z.1), z.2)) _ = _
          cases (pEP cn 40).1 0 0 (adv (adv L)) with
          | inl e => rfl
          | inr e => rfl
    · rw [a6] at y6
      have hpa : pAct cn a (.inr ((), adv L) : PRs Unit) = .inr (((), 0, ([], []), ([], [])), adv L) := by
        unfold pAct
        rw [if_neg (by omega), if_neg (by omega), if_neg (by omega), if_pos y6]
        rfl
      exact good _ _ (by rw [hq, hpa]; rfl) _ _ _ _ _ _ _ _ _ _ _ _ _ h1 hWa (by omega) (k1 _ _) (k1 _ _) (k2 _ _) (k2 _ _) (fun _ _ => rfl) ⟨pk_us, fun z => by omega, fun z => absurd y6 z, fun z => by omega, rfl⟩
  · show ((0 : Int32) = 0 ∨ (0 : Int32) = 1) → _
    have e1 : (1 : Int32) + 16 * nI b = nI (flt 1 L) := h.fltZ 1
    rw [e1]
    exact fun _ => bad _ (if_neg hno) _ _ _ _ _ _ _ _ _ _ _ _ _ (fun _ _ => rfl) (fun _ _ => rfl) (fun _ _ _ => rfl) (fun _ _ _ => rfl) (fun _ _ => rfl)
end RL8
