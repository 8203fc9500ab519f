section RM8
variable {ts : List Nat} {t : Nat → Int32} {L : List Tok} {q b : Nat} {T td wr : Int32} {w : Int64} {g : PGr}
theorem F1.of {s l : Nat} {a a' : Nat → Int32} (h : KO l a a') (h1 : s ≤ l) (h2 : l < 2 * s) : F1 s a a' := fun j hj => h j (by omega)
theorem F1.of2 {l : Nat} {a a' : Nat → Int32} (h : KO2 l a a') (h1 : 16 ≤ l) (h2 : l < 32) : F1 32 a a' := fun j hj => h j (by omega) (by omega)
theorem F1.kc {c : Nat} {a a' : Nat → Int32} (h : KC c a a') (h1 : 1000 ≤ c) : F1 1000 a a' := fun j hj => h j (by omega)
theorem ER9.keep {p k : Nat} {i : List Nat} {lf lt cd lf' lt' cd' : Nat → Int32} {c : Nat} (h : ER9 p k i lf lt cd) (hb : ∀ o, lf (32 * p + k) = nI (1000 * p + o) → o + i.length ≤ 1000 → 1000 * p + o + i.length ≤ c) (h1 : lf' (32 * p + k) = lf (32 * p + k)) (h2 : lt' (32 * p + k) = lt (32 * p + k)) (h3 : ∀ j, j < c → cd' j = cd j) : ER9 p k i lf' lt' cd' := by
  obtain ⟨o, a1, a2, a3, a4⟩ := h
  refine ⟨o, h1.trans a1, h2.trans a2, a3, fun j x hj => ?_⟩
  have := hb o a1 a3
  have := get_lt hj
  rw [h3 _ (by omega)]
  exact a4 j x hj
/-- the lines' codes of the reference lie below c -/
def LC8 (l : List LN9) (c : Nat) (lf : Nat → Int32) : Prop := ∀ (i : Nat) (y : LN9), l[i]? = some y → (y.1 ≠ 6 → ∀ o, lf (32 + 2 * i) = nI (1000 + o) → o + y.2.2.2.1.1.length ≤ 1000 → 1000 + o + y.2.2.2.1.1.length ≤ c) ∧ ((y.1 = 3 ∨ y.1 = 5) → ∀ o, lf (32 + (2 * i + 1)) = nI (1000 + o) → o + y.2.2.2.2.1.length ≤ 1000 → 1000 + o + y.2.2.2.2.1.length ≤ c)
abbrev PL8 : Type := Int32 → Int32 → Int32 → Int32 → Int64 → Int32 → Int32 → Int32 → (Nat → Int32) → (Nat → Int32) → (Nat → Int32) → (Nat → Int32) → (Nat → Int32) → (Nat → Int32) → (Nat → Int32) → (Nat → Int32) → (Nat → Int32) → (Nat → Int32) → Prop
theorem sq8_readsLine {st ce ln ac aC ls tw lf lt cd op cm : Nat → Int32} {sn cnn : Nat → Int64} {c : Nat} {Φ : PL8} (hT : TL ts t) (h : RR ts L q b T w td) (hW : WT L) (hne : ¬ (hdt L).1 = 0) (hs : NB (snm g) sn) (hc : NB (cnm g) cnn) (hst : st 1 = nI (snm g).length) (hce : ce 1 = nI (cnm g).length) (hL : LBd 1 g.2.2.2 ln ac aC lf lt cd) (hY : TB 1 g.2.2.2 ls tw) (h16 : g.2.2.2.length ≤ 16) (hc1 : 1000 ≤ c) (hc2 : c + L.length ≤ 2001) (hlc : LC8 g.2.2.2 c lf)
    (bad : ∀ e, tX (pLine g L) 6 = .inl e → ∀ (q' b' T' : Int32) (w' : Int64) (td' c' : Int32) (ln' ac' aC' ls' tw' lf' lt' cd' op' cm' : Nat → Int32), F1 1 ln ln' → F1 16 ac ac' → F1 16 aC aC' → F1 16 ls ls' → F1 16 tw tw' → F1 32 lf lf' → F1 32 lt lt' → F1 1000 cd cd' → Φ 0 q' b' T' w' td' (nI e) c' ln' ac' aC' ls' tw' lf' lt' cd' op' cm')
    (good : ∀ g' L', tX (pLine g L) 6 = .inr (g', L') → g'.1 = g.1 → g'.2.1 = g.2.1 → g'.2.2.1 = g.2.2.1 → ∀ (q' b' : Nat) (T' : Int32) (w' : Int64) (td' : Int32) (c' : Nat) (ln' ac' aC' ls' tw' lf' lt' cd' op' cm' : Nat → Int32), RR ts L' q' b' T' w' td' → WT L' → 1000 ≤ c' → c' + L'.length ≤ 2000 → L'.length < L.length → F1 1 ln ln' → F1 16 ac ac' → F1 16 aC aC' → F1 16 ls ls' → F1 16 tw tw' → F1 32 lf lf' → F1 32 lt lt' → F1 1000 cd cd' → LBd 1 g'.2.2.2 ln' ac' aC' lf' lt' cd' → TB 1 g'.2.2.2 ls' tw' → LC8 g'.2.2.2 c' lf' → g'.2.2.2.length ≤ 16 → Φ 1 (nI q') (nI b') T' w' td' wr (nI c') ln' ac' aC' ls' tw' lf' lt' cd' op' cm') : wl_X8_readsLine (nI ts.length) t st ce sn cnn (nI q) (nI b) T w td wr (nI c) ln ac aC ls tw lf lt cd op cm Φ := by
  obtain ⟨hln, hli⟩ := hL
  have e16 : nI g.2.2.2.length = 16 ↔ g.2.2.2.length = 16 := nI_eq (a := g.2.2.2.length) (b := 16) (by omega) (by decide)
  unfold wl_X8_readsLine
  rw [hln, e16, show (16 : Int32) = nI 16 from rfl, nI_add, nI_clamp (n := 16 + g.2.2.2.length) (by omega)]
  refine ⟨fun n16 => ?_, fun y16 => ?_⟩
  · have hp : pLine g L = bnd (tA (tO (.inr ((), adv L)) (snm g)) (cnm g)) fun y => .inr ((g.1, g.2.1, g.2.2.1, g.2.2.2 ++ [(y.1.2.1, y.1.1.2, y.1.2.2)]), y.2) := if_neg (by omega)
    have hlen := hW.advZ.2.2 hne
    have hWa := hW.advZ.1
    refine sq8_next hT h (fun q1 b1 T1 w1 td1 h1 => ?_)
    refine sq8_toldS h1 hs hst (fun he => ?_) (fun he => ?_) (fun j hj hjl => ?_)
    · show ((0 : Int32) = 0 ∨ (0 : Int32) = 1) → _
      have e1 : (1 : Int32) + 16 * nI b1 = nI (flt 1 (adv L)) := h1.fltZ 1
      rw [e1]
      refine fun _ => bad _ ?_ _ _ _ _ _ _ _ _ _ _ _ _ _ _ _ _ F1.rf F1.rf F1.rf F1.rf F1.rf F1.rf F1.rf F1.rf
      rw [hp]; simp [tA, tO, tX, sq0, sq1, bnd, pAdv, he]
    · rw [pk_us]
      refine fun _ _ _ => ⟨fun y => absurd y (by (try dsimp only); decide), fun _ => ?_⟩
      show ((0 : Int32) = 0 ∨ (0 : Int32) = 1) → _
      have e1 : (2 : Int32) + 16 * nI b1 = nI (flt 2 (adv L)) := h1.fltZ 2
      rw [e1]
      refine fun _ => bad _ ?_ _ _ _ _ _ _ _ _ _ _ _ _ _ _ _ _ F1.rf F1.rf F1.rf (F1.up (by omega) (by omega)) (F1.up (by omega) (by omega)) F1.rf F1.rf F1.rf
      rw [hp]; simp [tA, tO, tX, sq0, sq1, bnd, pAdv, he]
    · rw [pk_us]
      have hs6 := hs.1
      refine fun _ _ _ => ⟨fun _ => ?_, fun y => absurd (nI_pos' (n := j) (by omega)) y⟩
      have hto : tO (.inr ((), adv L) : PRs Unit) (snm g) = .inr (((), j), adv (adv L)) := by simp [tO, sq0, sq1, bnd, pAdv, hj]
      have hWb := hWa.advZ.1
      have lb := adv_le (adv L)
      -- the act, told of the payload that it stands behind
      have tAu : tA (tO (.inr ((), adv L) : PRs Unit) (snm g)) (cnm g) = bnd (tA (.inr ((), adv (adv L)) : PRs Unit) (cnm g)) fun y => .inr ((((), j), y.1.2), y.2) := by
        rw [hto]
        unfold tA
        rw [bnd_r, bnd_r]
        by_cases hx : 20 ≤ ix (hdt (adv (adv L))) ∧ ix (hdt (adv (adv L))) ≤ 26
        · simp only [if_pos hx]
          cases pAct (cnm g) (ix (hdt (adv (adv L))) - 20) (.inr ((), adv (adv (adv L))) : PRs Unit) with
          | inl e => rfl
          | inr y => rfl
        · simp only [if_neg hx]
          rfl
      have hl96 : 16 + g.2.2.2.length < 96 := by omega
      refine sq8_next hT h1 (fun q2 b2 T2 w2 td2 h2 => ?_)
      refine sq8_readsAct hT h2 hWb hc hce hl96 hc1 (by omega) (fun e he q' b' T' w' td' c' ac' aC' lf' lt' cd' op' cm' f1 f2 f3 f4 f5 => ⟨fun z => absurd rfl z, fun _ => ?_⟩) (fun y L3 he hx1 hx2 q3 b3 T3 w3 td3 c3 ac3 aC3 lf3 lt3 cd3 op3 cm3 h3 hW3 hc3 f1 f2 f3 f4 f5 hag => ⟨fun _ => ?_, fun z => absurd z (by (try dsimp only); decide)⟩)
      · refine bad e ?_ _ _ _ _ _ _ _ _ _ _ _ _ _ _ _ _ F1.rf (F1.of f1 (by omega) (by omega)) (F1.of f2 (by omega) (by omega)) (F1.up (by omega) (by omega)) (F1.up (by omega) (by omega)) (F1.of2 f3 (by omega) (by omega)) (F1.of2 f4 (by omega) (by omega)) (F1.kc f5 hc1)
        rw [hp, tAu, he]
        rfl
      · obtain ⟨g1, g2, g3, g4, g5⟩ := hag
        have hpl : pLine g L = .inr ((g.1, g.2.1, g.2.2.1, g.2.2.2 ++ [(ix (hdt (adv (adv L))) - 20, j, y)]), L3) := by
          rw [hp, tAu, he]
          rfl
        have fln : F1 1 ln (upd ln 1 (nI g.2.2.2.length + 1)) := F1.up (by omega) (by omega)
        have fls : F1 16 ls (upd ls (16 + g.2.2.2.length) (nI j)) := F1.up (by omega) (by omega)
        have ftw : F1 16 tw (upd tw (16 + g.2.2.2.length) 1) := F1.up (by omega) (by omega)
        have hL3 : 1 ≤ L3.length := lpos hW3.ne
        have l4 := adv_le L3
        refine sq8_ends hT h3 (fun e hs5 => fun _ => bad e ?_ _ _ _ _ _ _ _ _ _ _ _ _ _ _ _ _ fln (F1.of f1 (by omega) (by omega)) (F1.of f2 (by omega) (by omega)) fls ftw (F1.of2 f3 (by omega) (by omega)) (F1.of2 f4 (by omega) (by omega)) (F1.kc f5 hc1)) (fun s5 q5 b5 T5 w5 td5 h5 => fun _ => good (g.1, g.2.1, g.2.2.1, g.2.2.2 ++ [(ix (hdt (adv (adv L))) - 20, j, y)]) (adv L3) ?_ rfl rfl rfl _ _ _ _ _ c3 _ _ _ _ _ _ _ _ _ _ h5 hW3.advZ.1 (by omega) (by omega) (by omega) fln (F1.of f1 (by omega) (by omega)) (F1.of f2 (by omega) (by omega)) fls ftw (F1.of2 f3 (by omega) (by omega)) (F1.of2 f4 (by omega) (by omega)) (F1.kc f5 hc1) ⟨?_, fun i y2 hi => ?_⟩ (fun i y2 hi => ?_) (fun i y2 hi => ?_) ?_)
        · rw [hpl]; simp [tX, sq0, bnd, hs5]
        · rw [hpl]; simp [tX, sq0, bnd, pAdv, s5]
        · show upd ln 1 _ 1 = nI (g.2.2.2 ++ [_]).length
          rw [pk_us, nI_1, List.length_append]; rfl
        · rcases app_get hi with i9 | ⟨ei, ey⟩
          · have hlt := get_lt i9
            obtain ⟨b1', b2', b3', b4'⟩ := hli i y2 i9
            have hlci := hlc i y2 i9
            refine ⟨(f1 _ (by omega)).trans b1', fun z => (f2 _ (by omega)).trans (b2' z), fun z => (b3' z).keep (c := c) (fun o ho hol => by rw [show 32 * 1 + 2 * i = 32 + 2 * i by omega, show 1000 * 1 + o = 1000 + o by omega] at ho; have := hlci.1 z o ho hol; omega) (f3 _ (by omega) (by omega)) (f4 _ (by omega) (by omega)) (fun jj hj2 => f5 jj (Or.inl hj2)), fun z => (b4' z).keep (c := c) (fun o ho hol => by rw [show 32 * 1 + (2 * i + 1) = 32 + (2 * i + 1) by omega, show 1000 * 1 + o = 1000 + o by omega] at ho; have := hlci.2 z o ho hol; omega) (f3 _ (by omega) (by omega)) (f4 _ (by omega) (by omega)) (fun jj hj2 => f5 jj (Or.inl hj2))⟩
          · subst ei
            rw [ey]
            refine ⟨by rw [show 16 * 1 + g.2.2.2.length = 16 + g.2.2.2.length by omega]; exact g1, fun z => by rw [show 16 * 1 + g.2.2.2.length = 16 + g.2.2.2.length by omega]; exact g2 z, fun z => ?_, fun z => ?_⟩
            · obtain ⟨k1, k2, k3⟩ := g3 z
              rw [show 2 * (16 + g.2.2.2.length) = 32 * 1 + 2 * g.2.2.2.length by omega] at k1 k2
              refine ⟨c - 1000, by rw [k1]; exact congrArg nI (by omega), by rw [k2]; exact congrArg nI (by show _ = 1000 * 1 + (c - 1000) + y.2.1.1.length; omega), by show c - 1000 + y.2.1.1.length ≤ 1000; omega, fun jj x hj2 => ?_⟩
              rw [show 1000 * 1 + (c - 1000) + jj = c + jj by omega]
              exact k3 jj x hj2
            · obtain ⟨k1, k2, k3⟩ := g4 z
              rw [show 2 * (16 + g.2.2.2.length) + 1 = 32 * 1 + (2 * g.2.2.2.length + 1) by omega] at k1 k2
              refine ⟨c + y.2.1.1.length - 1000, by rw [k1]; exact congrArg nI (by omega), by rw [k2]; exact congrArg nI (by show _ = 1000 * 1 + (c + y.2.1.1.length - 1000) + y.2.2.1.length; omega), by show c + y.2.1.1.length - 1000 + y.2.2.1.length ≤ 1000; omega, fun jj x hj2 => ?_⟩
              rw [show 1000 * 1 + (c + y.2.1.1.length - 1000) + jj = c + y.2.1.1.length + jj by omega]
              exact k3 jj x hj2
        · rcases app_get hi with i9 | ⟨ei, ey⟩
          · have hlt := get_lt i9
            rw [pk_un (by omega), pk_un (by omega)]
            exact hY i y2 i9
          · rw [ei, ey, show 16 * 1 + g.2.2.2.length = 16 + g.2.2.2.length by omega, pk_us, pk_us]
            exact ⟨rfl, rfl⟩
        · rcases app_get hi with i9 | ⟨ei, ey⟩
          · have hlt := get_lt i9
            have hlci := hlc i y2 i9
            refine ⟨fun z o ho hol => ?_, fun z o ho hol => ?_⟩
            · rw [f3 _ (by omega) (by omega)] at ho
              have := hlci.1 z o ho hol
              omega
            · rw [f3 _ (by omega) (by omega)] at ho
              have := hlci.2 z o ho hol
              omega
          · subst ei
            rw [ey]
            refine ⟨fun z o ho hol => ?_, fun z o ho hol => ?_⟩
            · obtain ⟨k1, k2, k3⟩ := g3 z
              rw [show 32 + 2 * g.2.2.2.length = 2 * (16 + g.2.2.2.length) by omega, k1] at ho
              have := (nI_eq (by omega) (by omega)).mp ho
              show 1000 + o + y.2.1.1.length ≤ c3
              omega
            · obtain ⟨k1, k2, k3⟩ := g4 z
              rw [show 32 + (2 * g.2.2.2.length + 1) = 2 * (16 + g.2.2.2.length) + 1 by omega, k1] at ho
              have := (nI_eq (by omega) (by omega)).mp ho
              show 1000 + o + y.2.2.1.length ≤ c3
              omega
        · show (g.2.2.2 ++ [_]).length ≤ 16
          rw [List.length_append]
          show g.2.2.2.length + 1 ≤ 16
          omega
  · have hp : pLine g L = .inl (flt 5 L) := if_pos (by omega)
    show ((0 : Int32) = 0 ∨ (0 : Int32) = 1) → _
    have e1 : (5 : Int32) + 16 * nI b = nI (flt 5 L) := h.fltZ 5
    rw [e1]
    exact fun _ => bad _ (by rw [hp]; rfl) _ _ _ _ _ _ _ _ _ _ _ _ _ _ _ _ F1.rf F1.rf F1.rf F1.rf F1.rf F1.rf F1.rf F1.rf
end RM8
