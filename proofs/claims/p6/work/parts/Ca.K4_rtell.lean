/-- nothing outside of the first section changed -/
def F1 (s : Nat) (a a' : Nat → Int32) : Prop := ∀ j, j < s ∨ 2 * s ≤ j → a' j = a j
theorem F1.rf {s : Nat} {a : Nat → Int32} : F1 s a a := fun _ _ => rfl
theorem F1.tr {s : Nat} {a b c : Nat → Int32} (h : F1 s a b) (h2 : F1 s b c) : F1 s a c := fun j hj => (h2 j hj).trans (h j hj)
theorem F1.up {s k : Nat} {a : Nat → Int32} {x : Int32} (h1 : s ≤ k) (h2 : k < 2 * s) : F1 s a (upd a k x) := fun j hj => pk_un (by omega)
def SB (p : Nat) (l : List (List Nat × Nat × Nat)) (st be co : Nat → Int32) : Prop := st p = nI l.length ∧ ∀ (i : Nat) (y : List Nat × Nat × Nat), l[i]? = some y → be (4 * p + i) = nI y.2.1 ∧ co (4 * p + i) = nI y.2.2
def CB (p : Nat) (l : List (List Nat × Nat)) (ce ca : Nat → Int32) : Prop := ce p = nI l.length ∧ ∀ (i : Nat) (y : List Nat × Nat), l[i]? = some y → ca (6 * p + i) = nI y.2
def IB (p : Nat) (l : List (Nat × Nat × Nat)) (ip ic il im : Nat → Int32) : Prop := ip p = nI l.length ∧ ∀ (i : Nat) (y : Nat × Nat × Nat), l[i]? = some y → ic (2 * p + i) = nI y.1 ∧ il (2 * p + i) = nI y.2.1 ∧ im (2 * p + i) = nI y.2.2
/-- the codes of an expression, the reference's -/
def ER9 (p k : Nat) (i : List Nat) (lf lt cd : Nat → Int32) : Prop := ∃ o : Nat, lf (32 * p + k) = nI (1000 * p + o) ∧ lt (32 * p + k) = nI (1000 * p + o + i.length) ∧ o + i.length ≤ 1000 ∧ ∀ j c, i[j]? = some c → cd (1000 * p + o + j) = nI c
def LB1 (p i : Nat) (y : LN9) (ac aC lf lt cd : Nat → Int32) : Prop := ac (16 * p + i) = nI y.1 ∧ ((y.1 = 0 ∨ y.1 = 4) → aC (16 * p + i) = nI y.2.2.1) ∧ (y.1 ≠ 6 → ER9 p (2 * i) y.2.2.2.1.1 lf lt cd) ∧ ((y.1 = 3 ∨ y.1 = 5) → ER9 p (2 * i + 1) y.2.2.2.2.1 lf lt cd)
def LBd (p : Nat) (l : List LN9) (ln ac aC lf lt cd : Nat → Int32) : Prop := ln p = nI l.length ∧ ∀ i y, l[i]? = some y → LB1 p i y ac aC lf lt cd
/-- laid as told -/
def TB (p : Nat) (l : List LN9) (ls tw : Nat → Int32) : Prop := ∀ (i : Nat) (y : LN9), l[i]? = some y → ls (16 * p + i) = nI y.2.1 ∧ tw (16 * p + i) = 1
theorem NB.push {ns : List (List Nat)} {an : Nat → Int64} {w : List Nat} {r : Int64} (h : NB ns an) (hn : ns.length < 6) (hw : WD w) (hr : r = eW w) : NB (ns ++ [w]) (vp_updL an ns.length r) := by
  refine ⟨by rw [List.length_append]; exact hn, fun z hz => ?_, fun i z hi => ?_⟩
  · rcases List.mem_append.mp hz with hz | hz
    · exact h.2.1 z hz
    · rw [List.mem_singleton.mp hz]; exact hw
  · rcases app_get hi with h9 | ⟨e, e2⟩
    · have := get_lt h9
      rw [pk_uLn (by omega)]
      exact h.2.2 i z h9
    · rw [e, pk_uLs, e2]
      exact hr
section RT8
variable {ts : List Nat} {t : Nat → Int32} {L : List Tok} {q b : Nat} {T td wr : Int32} {w : Int64} {g : PGr}
theorem within_in {v lo hi : Nat} {Φ : Int32 → Prop} (hv : v < 100000) (hl : lo < 100000) (hh : hi < 100000) (h1 : lo ≤ v ∧ v ≤ hi → Φ 1) (h0 : ¬ (lo ≤ v ∧ v ≤ hi) → Φ 0) : wl_X8_within (nI v) (nI lo) (nI hi) Φ := by
  unfold wl_X8_within
  rw [nI_ltI (by omega) (by omega), nI_ltI (by omega) (by omega)]
  exact ⟨fun z => h0 (by omega), fun z => ⟨fun y => h0 (by omega), fun y => h1 (by omega)⟩⟩
theorem sq8_ends {Φ : Int32 → Int32 → Int32 → Int32 → Int64 → Int32 → Int32 → Prop} (hT : TL ts t) (h : RR ts L q b T w td) (bad : ∀ e, pSay 6 L = .inl e → Φ 0 (nI q) (nI b) T w td (nI e)) (good : pSay 6 L = .inr L → ∀ (q' b' : Nat) (T' : Int32) (w' : Int64) (td' : Int32), RR ts (adv L) q' b' T' w' td' → Φ 1 (nI q') (nI b') T' w' td' wr) : wl_X8_ends (nI ts.length) t (nI q) (nI b) T w td wr Φ := by
  refine sq8_sign 59 (by decide) (by decide) hT h (fun e => ⟨fun _ => sq8_next hT h (good (if_pos e)), fun z => absurd z (by (try dsimp only); decide)⟩) (fun e => ⟨fun z => absurd rfl z, fun _ => ?_⟩)
  show ((0 : Int32) = 0 ∨ (0 : Int32) = 1) → _
  have e1 : (1 : Int32) + 16 * nI b = nI (flt 1 L) := h.fltZ 1
  rw [e1]
  exact fun _ => bad _ (if_neg e)
theorem sq8_needsWord {Φ : Int32 → Int32 → Int32 → Int32 → Int64 → Int32 → Int32 → Prop} (i : Nat) {x : Int64} (hi : i < 19) (hx : kwT.getD i 0 = x) (hT : TL ts t) (h : RR ts L q b T w td) (bad : ∀ e, pSay (12 + i) L = .inl e → Φ 0 (nI q) (nI b) T w td (nI e)) (good : pSay (12 + i) L = .inr L → ∀ (q' b' : Nat) (T' : Int32) (w' : Int64) (td' : Int32), RR ts (adv L) q' b' T' w' td' → Φ 1 (nI q') (nI b') T' w' td' wr) : wl_X8_needsWord (nI ts.length) t x (nI q) (nI b) T w td wr Φ := by
  refine sq8_word i hi hx h (fun e => ⟨fun _ => sq8_next hT h (good (if_pos e)), fun z => absurd z (by (try dsimp only); decide)⟩) (fun e => ⟨fun z => absurd rfl z, fun _ => ?_⟩)
  show ((0 : Int32) = 0 ∨ (0 : Int32) = 1) → _
  have e1 : (1 : Int32) + 16 * nI b = nI (flt 1 L) := h.fltZ 1
  rw [e1]
  exact fun _ => bad _ (if_neg e)
theorem RR.n2 (h : RR ts L q b T w td) (e : T = 2) : ix (hdt L) = 2 ∧ td = nI (num (hdt L)) ∧ num (hdt L) ≤ 9999 := by
  have k2 := (h.tT 2 (by decide)).mp e
  have hn := h.VTZ.numZ k2
  refine ⟨?_, (h.CRZ.2.2.2.2.2.2.2.2.1 k2).trans hn.1, hn.2.2⟩
  unfold ix
  rw [if_neg (by omega), if_neg (by omega), if_pos k2]
theorem sq8_needsNumber {lo hi : Nat} {Φ : Int32 → Int32 → Prop} (hl : lo < 100000) (hh : hi < 100000) (h : RR ts L q b T w td) (bad : ∀ e, pNum lo hi L = .inl e → Φ 0 (nI e)) (good : ∀ n, pNum lo hi L = .inr (n, L) → td = nI n → lo ≤ n → n ≤ hi → n ≤ 9999 → Φ 1 wr) : wl_X8_needsNumber (nI b) T td (nI lo) (nI hi) wr Φ := by
  unfold wl_X8_needsNumber
  refine ⟨fun e => ?_, fun e => ?_⟩
  · obtain ⟨i2, e2, e9⟩ := h.n2 e
    rw [e2]
    refine within_in (by omega) hl hh (fun y => ⟨fun _ => good _ ?_ e2 y.1 y.2 e9, fun z => absurd z (by (try dsimp only); decide)⟩) (fun y => ⟨fun z => absurd rfl z, fun _ => ?_⟩)
    · unfold pNum
      rw [if_pos i2, if_pos y]
    · refine ⟨fun _ => ?_, fun z => absurd rfl z⟩
      have e1 : (4 : Int32) + 16 * nI b = nI (flt 4 L) := h.fltZ 4
      rw [e1]
      refine bad _ ?_
      unfold pNum
      rw [if_pos i2, if_neg y]
  · show ((0 : Int32) = 0 ∨ (0 : Int32) = 1) → _
    have e1 : (1 : Int32) + 16 * nI b = nI (flt 1 L) := h.fltZ 1
    rw [e1]
    refine fun _ => bad _ ?_
    unfold pNum
    rw [if_neg (fun z => e ((h.tT 2 (by decide)).mpr (ix_2 z)))]
theorem sq8_needsNew {sn cn : List (List Nat)} {st ce : Nat → Int32} {as ac : Nat → Int64} {Φ : Int32 → Int32 → Prop} (h : RR ts L q b T w td) (hs : NB sn as) (hst : st 1 = nI sn.length) (hc : NB cn ac) (hce : ce 1 = nI cn.length) (bad : ∀ e, pNew sn cn L = .inl e → Φ 0 (nI e)) (good : ∀ z, pNew sn cn L = .inr (z, L) → w = eW z → WD z → Φ 1 wr) : wl_X8_needsNew (nI b) T w st ce as ac wr Φ := by
  unfold wl_X8_needsNew
  refine sq8_kept h (fun n3 => ⟨fun z => absurd z (by (try dsimp only); decide), fun _ => ?_⟩) (fun e3 => ⟨fun _ => ?_, fun z => absurd rfl z⟩)
  · show ((0 : Int32) = 0 ∨ (0 : Int32) = 1) → _
    have e1 : (1 : Int32) + 16 * nI b = nI (flt 1 L) := h.fltZ 1
    rw [e1]
    refine fun _ => bad _ ?_
    unfold pNew
    rw [if_neg n3]
  · obtain ⟨w1, w2, w3⟩ := h.ix1 (ix_3 e3).1
    have e1 : (3 : Int32) + 16 * nI b = nI (flt 3 L) := h.fltZ 3
    have b3 : (hdt L).2.2 ∈ sn ∨ (hdt L).2.2 ∈ cn → Φ 0 (3 + 16 * nI b) := fun hm => by
      rw [e1]
      refine bad _ ?_
      unfold pNew
      rw [if_pos e3, if_pos hm]
    have g3 : ¬ ((hdt L).2.2 ∈ sn ∨ (hdt L).2.2 ∈ cn) → Φ 1 wr := fun hm => good _ (by unfold pNew; rw [if_pos e3, if_neg hm]) w2 w3
    have hs6 := hs.1
    have hc6 := hc.1
    have mem : ∀ {ns : List (List Nat)} {z : List Nat} {j : Nat}, fnd ns z = some j → z ∈ ns := fun {ns z j} hj => Classical.byContradiction (fun hm => by rw [fnd_none.mpr hm] at hj; cases hj)
    rw [w2]
    refine sq8_stuffOf hs hst w3 (fun z => ⟨fun y => absurd y (by (try dsimp only); decide), fun _ => ?_⟩) (fun j hj => ⟨fun _ => ⟨fun _ => b3 (Or.inl (mem hj)), fun z => absurd rfl z⟩, fun y => absurd (nI_pos' (n := j) (by have := fnd_lt hj; omega)) y⟩)
    refine sq8_cellOf hc hce w3 (fun z2 => ⟨fun _ => g3 (fun hm => hm.elim (fnd_none.mp z) (fnd_none.mp z2)), fun y => absurd (by decide) y⟩) (fun j hj => ⟨fun y => absurd y (nI_pos (n := j) (by have := fnd_lt hj; omega)), fun _ => ⟨fun _ => b3 (Or.inr (mem hj)), fun z => absurd rfl z⟩⟩)
/-- a name that is told: kept, then looked up -/
theorem sq8_told {ns : List (List Nat)} {cs : Nat → Int32} {an : Nat → Int64} {Φ : Int32 → Prop} {A : Prop} (h : RR ts L q b T w td) (hN : NB ns an) (hk : cs 1 = nI ns.length) (h1 : pTold ns L = .inl (flt 1 L) → A) (h2 : pTold ns L = .inl (flt 2 L) → Φ (-1)) (h3 : ∀ j, pTold ns L = .inr (j, L) → j < ns.length → Φ (nI j)) : wl_X8_isKept T w (fun r => (r = 0 → wl_X8_cellOf w cs an Φ) ∧ (¬ r = 0 → A)) := by
  refine sq8_kept h (fun n3 => ⟨fun z => absurd z (by (try dsimp only); decide), fun _ => h1 ?_⟩) (fun e3 => ⟨fun _ => ?_, fun z => absurd rfl z⟩)
  · unfold pTold
    rw [if_neg n3]
  · obtain ⟨w1, w2, w3⟩ := h.ix1 (ix_3 e3).1
    have hto : pTold ns L = match fnd ns (hdt L).2.2 with | none => .inl (flt 2 L) | some c => .inr (c, L) := if_pos e3
    rw [w2]
    exact sq8_cellOf hN hk w3 (fun z => h2 (by rw [hto, z])) (fun j hj => h3 j (by rw [hto, hj]) (fnd_lt hj))
theorem sq8_toldS {ns : List (List Nat)} {cs : Nat → Int32} {an : Nat → Int64} {Φ : Int32 → Prop} {A : Prop} (h : RR ts L q b T w td) (hN : NB ns an) (hk : cs 1 = nI ns.length) (h1 : pTold ns L = .inl (flt 1 L) → A) (h2 : pTold ns L = .inl (flt 2 L) → Φ (-1)) (h3 : ∀ j, pTold ns L = .inr (j, L) → j < ns.length → Φ (nI j)) : wl_X8_isKept T w (fun r => (r = 0 → wl_X8_stuffOf w cs an Φ) ∧ (¬ r = 0 → A)) := by
  refine sq8_kept h (fun n3 => ⟨fun z => absurd z (by (try dsimp only); decide), fun _ => h1 ?_⟩) (fun e3 => ⟨fun _ => ?_, fun z => absurd rfl z⟩)
  · unfold pTold
    rw [if_neg n3]
  · obtain ⟨w1, w2, w3⟩ := h.ix1 (ix_3 e3).1
    have hto : pTold ns L = match fnd ns (hdt L).2.2 with | none => .inl (flt 2 L) | some c => .inr (c, L) := if_pos e3
    rw [w2]
    exact sq8_stuffOf hN hk w3 (fun z => h2 (by rw [hto, z])) (fun j hj => h3 j (by rw [hto, hj]) (fnd_lt hj))
theorem sq8_readsStuff {st ce be co : Nat → Int32} {sn cnn : Nat → Int64} {Φ : Int32 → Int32 → Int32 → Int32 → Int64 → Int32 → Int32 → (Nat → Int32) → (Nat → Int64) → (Nat → Int32) → (Nat → Int32) → Prop} (hT : TL ts t) (h : RR ts L q b T w td) (hs : NB (snm g) sn) (hc : NB (cnm g) cnn) (hS : SB 1 g.1 st be co) (h4 : g.1.length ≤ 4) (hce : ce 1 = nI (cnm g).length)
    (bad : ∀ e, tX (pStuff g L) 6 = .inl e → ∀ (q' b' T' : Int32) (w' : Int64) (td' : Int32) (st' : Nat → Int32) (sn' : Nat → Int64) (be' co' : Nat → Int32), F1 1 st st' → F1 4 be be' → F1 4 co co' → Φ 0 q' b' T' w' td' (nI e) st' sn' be' co')
    (good : ∀ g' L', tX (pStuff g L) 6 = .inr (g', L') → g'.2 = g.2 → ∀ (q' b' : Nat) (T' : Int32) (w' : Int64) (td' : Int32) (st' : Nat → Int32) (sn' : Nat → Int64) (be' co' : Nat → Int32), RR ts L' q' b' T' w' td' → F1 1 st st' → F1 4 be be' → F1 4 co co' → NB (snm g') sn' → SB 1 g'.1 st' be' co' → Φ 1 (nI q') (nI b') T' w' td' wr st' sn' be' co') : wl_X8_readsStuff (nI ts.length) t ce cnn (nI q) (nI b) T w td wr st sn be co Φ := by
  obtain ⟨hst, hbc⟩ := hS
  have hlen : (snm g).length = g.1.length := List.length_map _
  have hst1 : st 1 = nI (snm g).length := by rw [hlen]; exact hst
  have e4 : nI g.1.length = 4 ↔ g.1.length = 4 := nI_eq (a := g.1.length) (b := 4) (by omega) (by decide)
  unfold wl_X8_readsStuff
  rw [hst, e4, nI_clamp (n := g.1.length) (by omega), show (4 : Int32) = nI 4 from rfl, nI_add, nI_clamp (n := 4 + g.1.length) (by omega)]
  refine ⟨fun n4 => ?_, fun y4 => ?_⟩
  · have hp : pStuff g L = bnd (tN (tX (tN (tX (tW (.inr ((), adv L)) (snm g) (cnm g)) 13) (fun _ => 1) (fun _ => 9999)) 14) (fun _ => 0) (fun _ => 999)) fun y => .inr ((g.1 ++ [(y.1.1.1.2, y.1.1.2, y.1.2)], g.2), y.2) := if_neg (by omega)
    refine sq8_next hT h (fun q1 b1 T1 w1 td1 h1 => ?_)
    refine sq8_needsNew h1 hs hst1 hc hce (fun e he => ⟨fun z => absurd rfl z, fun _ => bad e ?_ _ _ _ _ _ _ _ _ _ F1.rf F1.rf F1.rf⟩) (fun z hz hw hwd => ⟨fun _ _ => ?_, fun z => absurd z (by (try dsimp only); decide)⟩)
    · rw [hp]; simp [tN, tX, tW, sq0, sq1, bnd, pAdv, he]
    refine sq8_next hT h1 (fun q2 b2 T2 w2 td2 h2 => ?_)
    refine sq8_needsWord 1 (by decide) rfl hT h2 (fun e he => ⟨fun _ => bad e ?_ _ _ _ _ _ _ _ _ _ F1.rf F1.rf F1.rf, fun z => absurd rfl z⟩) (fun s3 q3 b3 T3 w3 td3 h3 => ⟨fun z => absurd z (by (try dsimp only); decide), fun _ => ?_⟩)
    · rw [hp]; simp [tN, tX, tW, sq0, sq1, bnd, pAdv, hz, he]
    refine sq8_needsNumber (lo := 1) (hi := 9999) (by decide) (by decide) h3 (fun e he => ⟨fun z => absurd rfl z, fun _ => bad e ?_ _ _ _ _ _ _ _ _ _ F1.rf F1.rf F1.rf⟩) (fun n4' hn4 htd4 _ _ _ => ⟨fun _ _ => ?_, fun z => absurd z (by (try dsimp only); decide)⟩)
    · rw [hp]; simp [tN, tX, tW, sq0, sq1, bnd, pAdv, hz, s3, he]
    refine sq8_next hT h3 (fun q5 b5 T5 w5 td5 h5 => ?_)
    have fb : ∀ x, F1 4 be (upd be (4 + g.1.length) x) := fun x => F1.up (by omega) (by omega)
    have fc : ∀ x, F1 4 co (upd co (4 + g.1.length) x) := fun x => F1.up (by omega) (by omega)
    refine sq8_needsWord 2 (by decide) rfl hT h5 (fun e he => ⟨fun _ => bad e ?_ _ _ _ _ _ _ _ _ _ F1.rf (fb _) F1.rf, fun z => absurd rfl z⟩) (fun s6 q6 b6 T6 w6 td6 h6 => ⟨fun z => absurd z (by (try dsimp only); decide), fun _ => ?_⟩)
    · rw [hp]; simp [tN, tX, tW, sq0, sq1, bnd, pAdv, hz, s3, hn4, he]
    refine sq8_needsNumber (lo := 0) (hi := 999) (by decide) (by decide) h6 (fun e he => ⟨fun z => absurd rfl z, fun _ => bad e ?_ _ _ _ _ _ _ _ _ _ F1.rf (fb _) F1.rf⟩) (fun n7 hn7 htd7 _ _ _ => ⟨fun _ _ => ?_, fun z => absurd z (by (try dsimp only); decide)⟩)
    · rw [hp]; simp [tN, tX, tW, sq0, sq1, bnd, pAdv, hz, s3, hn4, s6, he]
    refine sq8_next hT h6 (fun q8 b8 T8 w8 td8 h8 => ?_)
    have fs : F1 1 st (upd st 1 (nI g.1.length + 1)) := F1.up (by omega) (by omega)
    refine sq8_ends hT h8 (fun e he => fun _ => bad e ?_ _ _ _ _ _ _ _ _ _ fs (fb _) (fc _)) (fun s9 q9 b9 T9 w9 td9 h9 => fun _ => good (g.1 ++ [(z, n4', n7)], g.2) _ ?_ rfl _ _ _ _ _ _ _ _ _ h9 fs (fb _) (fc _) ?_ ⟨?_, fun i y hi => ?_⟩)
    · rw [hp]; simp [tN, tX, tW, sq0, sq1, bnd, pAdv, hz, s3, hn4, s6, hn7, he]
    · rw [hp]; simp [tN, tX, tW, sq0, sq1, bnd, pAdv, hz, s3, hn4, s6, hn7, s9]
    · have em : snm (g.1 ++ [(z, n4', n7)], g.2) = snm g ++ [z] := by unfold snm; rw [List.map_append]; rfl
      rw [em, ← hlen]
      exact hs.push (by omega) hwd hw
    · rw [pk_us, nI_1, List.length_append]; rfl
    · rcases app_get hi with g9 | ⟨e, e2⟩
      · have := get_lt g9
        rw [pk_un (by omega), pk_un (by omega)]
        exact hbc i y g9
      · rw [e, show 4 * 1 + g.1.length = 4 + g.1.length by omega, pk_us, pk_us, e2]
        exact ⟨htd4, htd7⟩
  · have hp : pStuff g L = .inl (flt 5 L) := if_pos (by omega)
    show ((0 : Int32) = 0 ∨ (0 : Int32) = 1) → _
    have e1 : (5 : Int32) + 16 * nI b = nI (flt 5 L) := h.fltZ 5
    rw [e1]
    exact fun _ => bad _ (by rw [hp]; rfl) _ _ _ _ _ _ _ _ _ F1.rf F1.rf F1.rf
theorem sq8_readsCell {st ce ca : Nat → Int32} {sn cnn : Nat → Int64} {Φ : Int32 → Int32 → Int32 → Int32 → Int64 → Int32 → Int32 → (Nat → Int32) → (Nat → Int64) → (Nat → Int32) → Prop} (hT : TL ts t) (h : RR ts L q b T w td) (hs : NB (snm g) sn) (hc : NB (cnm g) cnn) (hC : CB 1 g.2.1 ce ca) (hst : st 1 = nI (snm g).length)
    (bad : ∀ e, tX (pCell g L) 6 = .inl e → ∀ (q' b' T' : Int32) (w' : Int64) (td' : Int32) (ce' : Nat → Int32) (cn' : Nat → Int64) (ca' : Nat → Int32), F1 1 ce ce' → F1 6 ca ca' → Φ 0 q' b' T' w' td' (nI e) ce' cn' ca')
    (good : ∀ g' L', tX (pCell g L) 6 = .inr (g', L') → g'.1 = g.1 → g'.2.2 = g.2.2 → ∀ (q' b' : Nat) (T' : Int32) (w' : Int64) (td' : Int32) (ce' : Nat → Int32) (cn' : Nat → Int64) (ca' : Nat → Int32), RR ts L' q' b' T' w' td' → F1 1 ce ce' → F1 6 ca ca' → NB (cnm g') cn' → CB 1 g'.2.1 ce' ca' → Φ 1 (nI q') (nI b') T' w' td' wr ce' cn' ca') : wl_X8_readsCell (nI ts.length) t st sn (nI q) (nI b) T w td wr ce cnn ca Φ := by
  obtain ⟨hce, hca⟩ := hC
  have h6 := hc.1
  have hlen : (cnm g).length = g.2.1.length := List.length_map _
  have hce1 : ce 1 = nI (cnm g).length := by rw [hlen]; exact hce
  have e6 : nI g.2.1.length = 6 ↔ g.2.1.length = 6 := nI_eq (a := g.2.1.length) (b := 6) (by omega) (by decide)
  unfold wl_X8_readsCell
  rw [hce, e6, nI_clamp (n := g.2.1.length) (by omega), show (6 : Int32) = nI 6 from rfl, nI_add, nI_clamp (n := 6 + g.2.1.length) (by omega)]
  refine ⟨fun n6 => ?_, fun y6 => ?_⟩
  · have hp : pCell g L = bnd (tN (tW (.inr ((), adv L)) (snm g) (cnm g)) (fun _ => 0) (fun _ => 9999)) fun y => .inr ((g.1, g.2.1 ++ [(y.1.1.2, y.1.2)], g.2.2), y.2) := if_neg (by omega)
    refine sq8_next hT h (fun q1 b1 T1 w1 td1 h1 => ?_)
    refine sq8_needsNew h1 hs hst hc hce1 (fun e he => ⟨fun z => absurd rfl z, fun _ => bad e ?_ _ _ _ _ _ _ _ _ F1.rf F1.rf⟩) (fun z hz hw hwd => ⟨fun _ _ => ?_, fun z => absurd z (by (try dsimp only); decide)⟩)
    · rw [hp]; simp [tN, tX, tW, sq0, sq1, bnd, pAdv, he]
    refine sq8_next hT h1 (fun q2 b2 T2 w2 td2 h2 => ?_)
    refine sq8_needsNumber (lo := 0) (hi := 9999) (by decide) (by decide) h2 (fun e he => ⟨fun z => absurd rfl z, fun _ => bad e ?_ _ _ _ _ _ _ _ _ F1.rf F1.rf⟩) (fun n4 hn4 htd4 _ _ _ => ⟨fun _ _ => ?_, fun z => absurd z (by (try dsimp only); decide)⟩)
    · rw [hp]; simp [tN, tX, tW, sq0, sq1, bnd, pAdv, hz, he]
    refine sq8_next hT h2 (fun q8 b8 T8 w8 td8 h8 => ?_)
    have fs : F1 1 ce (upd ce 1 (nI g.2.1.length + 1)) := F1.up (by omega) (by omega)
    have fc : ∀ x, F1 6 ca (upd ca (6 + g.2.1.length) x) := fun x => F1.up (by omega) (by omega)
    refine sq8_ends hT h8 (fun e he => fun _ => bad e ?_ _ _ _ _ _ _ _ _ fs (fc _)) (fun s9 q9 b9 T9 w9 td9 h9 => fun _ => good (g.1, g.2.1 ++ [(z, n4)], g.2.2) _ ?_ rfl rfl _ _ _ _ _ _ _ _ h9 fs (fc _) ?_ ⟨?_, fun i y hi => ?_⟩)
    · rw [hp]; simp [tN, tX, tW, sq0, sq1, bnd, pAdv, hz, hn4, he]
    · rw [hp]; simp [tN, tX, tW, sq0, sq1, bnd, pAdv, hz, hn4, s9]
    · have em : cnm (g.1, g.2.1 ++ [(z, n4)], g.2.2) = cnm g ++ [z] := by unfold cnm; rw [List.map_append]; rfl
      rw [em, ← hlen]
      exact hc.push (by omega) hwd hw
    · rw [pk_us, nI_1, List.length_append]; rfl
    · rcases app_get hi with g9 | ⟨e, e2⟩
      · have := get_lt g9
        rw [pk_un (by omega)]
        exact hca i y g9
      · rw [e, show 6 * 1 + g.2.1.length = 6 + g.2.1.length by omega, pk_us, e2]
        exact htd4
  · have hp : pCell g L = .inl (flt 5 L) := if_pos (by omega)
    show ((0 : Int32) = 0 ∨ (0 : Int32) = 1) → _
    have e1 : (5 : Int32) + 16 * nI b = nI (flt 5 L) := h.fltZ 5
    rw [e1]
    exact fun _ => bad _ (by rw [hp]; rfl) _ _ _ _ _ _ _ _ F1.rf F1.rf
end RT8
