section
/-- the class's programme and names as g says -/
def PC9 (g : PGr) (sn cn : Nat → Int64) (st ce gi ln : Int32) (be co to gc le gr ac sq tg fr mi en : Nat → Int32) : Prop := NA (snm g) sn ∧ (snm g).length ≤ 4 ∧ NA (cnm g) cn ∧ st = nI (snm g).length ∧ ce = nI (cnm g).length ∧ gi = nI g.2.2.1.length ∧ ln = nI g.2.2.2.length ∧ g.2.2.2.length ≤ 16 ∧ SA9 g.1 be co ∧ CA9 g.2.1 to ∧ GA9 g.2.2.1 gc le gr ∧ LA9 g.2.2.2 ac sq tg fr mi en
/-- the class's programme as g says -/
def PQ9 (g : PGr) (st ce gi ln : Int32) (be co to gc le gr ac sq tg fr mi en : Nat → Int32) (cl : Nat) (cd : Nat → Int32) : Prop := g.1.length ≤ 4 ∧ g.2.1.length ≤ 6 ∧ g.2.2.2.length ≤ 16 ∧ st = nI g.1.length ∧ ce = nI g.2.1.length ∧ gi = nI g.2.2.1.length ∧ ln = nI g.2.2.2.length ∧ SA9 g.1 be co ∧ CA9 g.2.1 to ∧ GA9 g.2.2.1 gc le gr ∧ LA9 g.2.2.2 ac sq tg fr mi en ∧ cl = (cds g).length ∧ cl < 1000 ∧ ∀ i c, (cds g)[i]? = some c → cd i = nI c
/-- what is left of the tokens is no longer -/
def LE9 {α : Type} (n : Nat) (x : PRs α) : Prop := ∀ a L, x = .inr (a, L) → L.length ≤ n
section LE9S
variable {α β : Type} {x : PRs α} {n : Nat}
theorem LE9.sq0Z {g : α → List Tok → Nat ⊕ List Tok} (h : LE9 n x) (hg : ∀ a L L', g a L = .inr L' → L'.length ≤ L.length) : LE9 n (sq0 x g) := by
  cases x with
  | inl e => exact fun a L z => by cases z
  | inr y =>
    obtain ⟨a, L⟩ := y
    intro a' L' e
    rw [sq0_r] at e
    cases hq : g a L with
    | inl e2 => rw [hq] at e; cases e
    | inr M =>
      rw [hq] at e
      have e := (Prod.mk.inj (Sum.inr.inj e)).2
      have := hg _ _ _ hq
      have := h a L rfl
      rw [← e]
      omega
theorem LE9.sq1Z {g : α → List Tok → PRs β} (h : LE9 n x) (hg : ∀ a L b L', g a L = .inr (b, L') → L'.length ≤ L.length) : LE9 n (sq1 x g) := by
  cases x with
  | inl e => exact fun a L z => by cases z
  | inr y =>
    obtain ⟨a, L⟩ := y
    intro a' L' e
    rw [sq1_r] at e
    cases hq : g a L with
    | inl e2 => rw [hq] at e; cases e
    | inr M =>
      rw [hq] at e
      have e := (Prod.mk.inj (Sum.inr.inj e)).2
      have := hg _ _ _ _ hq
      have := h a L rfl
      rw [← e]
      omega
theorem LE9.advZ (h : LE9 n x) : LE9 n (sq0 x fun _ => pAdv) := h.sq0Z (fun _ L L' e => by
  have : adv L = L' := Sum.inr.inj e
  rw [← this]
  exact adv_le L)
theorem LE9.say {w : Nat} (h : LE9 n x) : LE9 n (sq0 x fun _ => pSay w) := h.sq0Z (fun _ L L' e => by
  unfold pSay at e
  split at e
  · rw [Sum.inr.inj e]; exact Nat.le_refl _
  · cases e)
theorem LE9.pif {c : α → Bool} {k : Nat} (h : LE9 n x) : LE9 n (sq0 x fun a => pIf (c a) k) := h.sq0Z (fun a L L' e => by
  unfold pIf at e
  split at e
  · cases e
  · rw [Sum.inr.inj e]; exact Nat.le_refl _)
theorem LE9.numZ {lo hi : α → Nat} (h : LE9 n x) : LE9 n (sq1 x fun a => pNum (lo a) (hi a)) := h.sq1Z (fun a L b L' e => by
  unfold pNum at e
  split at e
  · split at e
    · rw [(Prod.mk.inj (Sum.inr.inj e)).2]; exact Nat.le_refl _
    · cases e
  · cases e)
theorem LE9.new {sn cn : List (List Nat)} (h : LE9 n x) : LE9 n (sq1 x fun _ => pNew sn cn) := h.sq1Z (fun a L b L' e => by
  unfold pNew at e
  split at e
  · split at e
    · cases e
    · rw [(Prod.mk.inj (Sum.inr.inj e)).2]; exact Nat.le_refl _
  · cases e)
theorem LE9.told {ns : List (List Nat)} (h : LE9 n x) : LE9 n (sq1 x fun _ => pTold ns) := h.sq1Z (fun a L b L' e => by
  unfold pTold at e
  split at e
  · split at e
    · cases e
    · rw [(Prod.mk.inj (Sum.inr.inj e)).2]; exact Nat.le_refl _
  · cases e)
theorem LE9.map {k : α → β} (h : LE9 n x) : LE9 n (bnd x fun y => .inr (k y.1, y.2)) := by
  cases x with
  | inl e => exact fun a L z => by cases z
  | inr y =>
    intro a L e
    rw [← (Prod.mk.inj (Sum.inr.inj e)).2]
    exact h y.1 y.2 rfl
theorem LE9.now {a : α} {L : List Tok} : LE9 (adv L).length (.inr (a, adv L) : PRs α) := fun a' L' e => by
  rw [← (Prod.mk.inj (Sum.inr.inj e)).2]
  exact Nat.le_refl _
end LE9S
theorem pStuff_le {g : PGr} {L : List Tok} : LE9 (adv L).length (pStuff g L) := by
  unfold pStuff
  split
  · exact fun a L z => by cases z
  · exact LE9.map (k := fun a : ((Unit × List Nat) × Nat) × Nat => (g.1 ++ [(a.1.1.2, a.1.2, a.2)], g.2)) ((((((LE9.now (a := ())).new.advZ).say.advZ).numZ.advZ).say.advZ).numZ.advZ)
theorem pCell_le {g : PGr} {L : List Tok} : LE9 (adv L).length (pCell g L) := by
  unfold pCell
  split
  · exact fun a L z => by cases z
  · exact LE9.map (k := fun a : (Unit × List Nat) × Nat => (g.1, g.2.1 ++ [(a.1.2, a.2)], g.2.2)) (((LE9.now (a := ())).new.advZ).numZ.advZ)
theorem pInput_le {g : PGr} {L : List Tok} : LE9 (adv L).length (pInput g L) := by
  unfold pInput
  split
  · exact fun a L z => by cases z
  · exact LE9.map (k := fun a : ((Unit × Nat) × Nat) × Nat => (g.1, g.2.1, g.2.2.1 ++ [(a.1.1.2, a.1.2, a.2)], g.2.2.2)) ((((LE9.now (a := ())).told.pif.advZ).numZ.advZ).numZ.pif.advZ)
/-- how reading all ends: a fault, or a programme -/
def RF9 (z : Nat ⊕ PGr) (f : Int32) (st ce gi ln : Int32) (be co to gc le gr ac sq tg fr mi en : Nat → Int32) (cl : Nat) (cd : Nat → Int32) : Prop := match z with
  | .inl e => f = nI e ∧ 0 < e ∧ e < 100000
  | .inr g => f = 0 ∧ PQ9 g st ce gi ln be co to gc le gr ac sq tg fr mi en cl cd
section RD9
variable {P : List Tok} {tk : Nat → Nat} {pl : Nat → Int32} {vl : Nat → Int64} {pg : Nat}
theorem PC9.pq {g : PGr} {sn cn : Nat → Int64} {st ce gi ln d : Int32} {be co to gc le gr ac sq tg fr mi en code : Nat → Int32} (h : PC9 g sn cn st ce gi ln be co to gc le gr ac sq tg fr mi en) (hc : CC (cds g) d code) (hl : (cds g).length < 1000) : PQ9 g st ce gi ln be co to gc le gr ac sq tg fr mi en d.toNatClampNeg (va_cpy code (fun _ => 0) 0 0 d.toNatClampNeg) := by
  obtain ⟨h1, h2, h3, h4, h5, h6, h7, h8, h9, h10, h11, h12⟩ := h
  have e1 : (snm g).length = g.1.length := List.length_map _
  have e2 : (cnm g).length = g.2.1.length := List.length_map _
  have ed : d.toNatClampNeg = (cds g).length := by rw [hc.1, nI_clamp (by omega)]
  rw [ed]
  refine ⟨e1 ▸ h2, e2 ▸ h3.1, h8, e1 ▸ h4, e2 ▸ h5, h6, h7, h9, h10, h11, h12, rfl, hl, fun i c hi => ?_⟩
  have := get_lt hi
  rw [pk_cpy_in (Nat.zero_le _) (by omega), show 0 + (i - 0) = i by omega]
  exact hc.2 i c hi
abbrev PRD : Type := Nat → Int32 → Int32 → Nat → Int32 → Int64 → Int32 → (Nat → Int64) → (Nat → Int64) → (Nat → Int32) → Int32 → Int32 → (Nat → Nat) → (Nat → Int32) → (Nat → Int64) → Int32 → Int32 → Int32 → Int32 → (Nat → Int32) → (Nat → Int32) → (Nat → Int32) → (Nat → Int32) → (Nat → Int32) → (Nat → Int32) → (Nat → Int32) → (Nat → Int32) → (Nat → Int32) → (Nat → Int32) → (Nat → Int32) → (Nat → Int32) → Nat → (Nat → Int32) → Prop
theorem sq_read157 {z : Nat ⊕ PGr} {d t p f st ce gi ln : Int32} {tok : Nat} {v : Int64} {sn cn : Nat → Int64} {code be co to gc le gr ac sq tg fr mi en : Nat → Int32} {Φ : PRD} (hz : ∀ cl cd, RF9 z f st ce gi ln be co to gc le gr ac sq tg fr mi en cl cd → Φ pg d t tok p v f sn cn code 0 (nI P.length) tk pl vl st ce gi ln be co to gc le gr ac sq tg fr mi en cl cd) (h : match z with | .inl e => f = nI e ∧ 0 < e ∧ e < 100000 | .inr g => f = 0 ∧ PC9 g sn cn st ce gi ln be co to gc le gr ac sq tg fr mi en ∧ CC (cds g) d code ∧ (cds g).length ≤ 1000) : kl_X3_read_157 0 (nI P.length) tk pl vl pg Φ d t tok p v f sn cn code st ce gi ln be co to gc le gr ac sq tg fr mi en := by
  unfold kl_X3_read_157
  refine fun _ h9 => hz _ _ ?_
  cases z with
  | inl e => exact h
  | inr g =>
    rw [h.2.2.1.1, nI_clamp (by have := h.2.2.2; omega)] at h9
    exact ⟨h.1, h.2.1.pq h.2.2.1 h9⟩
theorem sq_read47 (hP : HP P tk pl vl) {Φ : PRD} : ∀ (n i : Nat) (y : PRs PGr) (d t : Int32) (tok : Nat) (p : Int32) (v : Int64) (f : Int32) (sn cn : Nat → Int64) (code : Nat → Int32) (st ce gi ln : Int32) (be co to gc le gr ac sq tg fr mi en : Nat → Int32), i ≤ 1000 → RX P y (fun g => PC9 g sn cn st ce gi ln be co to gc le gr ac sq tg fr mi en) t tok p v f → CX 1001 y cds d code → (∀ d t tok p v f sn cn code st ce gi ln be co to gc le gr ac sq tg fr mi en cl cd, RF9 (bnd y fun x => pAll (1000 - i) x.1 x.2) f st ce gi ln be co to gc le gr ac sq tg fr mi en cl cd → Φ pg d t tok p v f sn cn code 0 (nI P.length) tk pl vl st ce gi ln be co to gc le gr ac sq tg fr mi en cl cd) → ll_X3_read_47 0 (nI P.length) tk pl vl pg Φ n d t tok p v f sn cn code st ce gi ln be co to gc le gr ac sq tg fr mi en (nI i) := by
  intro n
  induction n with
  | zero => intros; trivial
  | succ n ih =>
    intro i y d t tok p v f sn cn code st ce gi ln be co to gc le gr ac sq tg fr mi en hi hR hC hΦ
    cases y with
    | inl e =>
      have out : kl_X3_read_157 0 (nI P.length) tk pl vl pg Φ d t tok p v f sn cn code st ce gi ln be co to gc le gr ac sq tg fr mi en := sq_read157 (z := .inl e) (fun cl cd h => hΦ _ _ _ _ _ _ _ _ _ _ _ _ _ _ _ _ _ _ _ _ _ _ _ _ _ _ _ h) hR
      exact ⟨fun _ => out, fun _ => ⟨fun _ => out, fun z => absurd z hR.ne⟩⟩
    | inr y =>
      obtain ⟨g, L⟩ := y
      obtain ⟨hf, hA, hV⟩ := id hR
      have hw := hA.wt hP
      obtain ⟨hc1, hc2⟩ := hC _ _ rfl
      have hix : tok = ix (hdt L) := hA.ixZ
      have hL1 : L.length ≥ 1 := lpos hw.ne
      have hV' : PC9 g sn cn st ce gi ln be co to gc le gr ac sq tg fr mi en := hV
      obtain ⟨v1, v2, v3, v4, v5, v6, v7, v8, v9, v10, v11, v12⟩ := hV'
      have out : pAll (1000 - i) g L = .inr g → kl_X3_read_157 0 (nI P.length) tk pl vl pg Φ d t tok p v f sn cn code st ce gi ln be co to gc le gr ac sq tg fr mi en := fun e => sq_read157 (z := .inr g) (fun cl cd h => hΦ _ _ _ _ _ _ _ _ _ _ _ _ _ _ _ _ _ _ _ _ _ _ _ _ _ _ _ (by rw [bnd_r]; show RF9 (pAll (1000 - i) g L) _ _ _ _ _ _ _ _ _ _ _ _ _ _ _ _ _ _ _; rw [e]; exact h)) ⟨hf, hV, hc1, by omega⟩
      have hR0 : RX P (.inr ((), L) : PRs Unit) (fun _ => True) t tok p v f := ⟨hf, hA, trivial⟩
      refine ⟨fun z => out ?_, fun z => ⟨fun q => absurd hf q, fun _ _ => ⟨fun q => out ?_, fun q => ?_⟩⟩⟩
      · rw [show (1000 : Int32) = nI 1000 from rfl, nI_leI (a := 1000) (b := i) (by decide) (by omega)] at z
        rw [show 1000 - i = 0 by omega]
        rfl
      · have e0 : ix (hdt L) = 0 := hix.symm.trans q
        cases 1000 - i with
        | zero => rfl
        | succ m => exact if_pos e0
      rw [show (1000 : Int32) = nI 1000 from rfl, nI_leI (a := 1000) (b := i) (by decide) (by omega)] at z
      have n0 : ¬ ix (hdt L) = 0 := fun e => q (hix.trans e)
      have hne : ¬ (hdt L).1 = 0 := fun e => n0 (ix_0.mpr e)
      have em : 1000 - i = (1000 - (i + 1)) + 1 := by omega
      have efin : (bnd (.inr (g, L) : PRs PGr) fun x => pAll (1000 - i) x.1 x.2) = bnd (tX (pTell g L) 6) fun x => pAll (1000 - (i + 1)) x.1 x.2 := by
        rw [bnd_r, em]
        exact if_neg n0
      rw [efin] at hΦ
      rw [nI_1]
      subst v4
      subst v5
      subst v6
      subst v7
      rw [hix] at q ⊢
      refine fun _ => ⟨fun n12 _ => ⟨fun n15 _ => ⟨fun n16 _ => ⟨fun n17 => ?_, fun e17 => ?_⟩, fun e16 => ?_⟩, fun e15 => ?_⟩, fun e12 => ?_⟩
      · have hp : pTell g L = .inl (flt 1 L) := by
          unfold pTell
          rw [if_neg n12, if_neg n15, if_neg n16, if_neg n17]
        refine bad0 (k := 1) (g := fun _ _ => .inl (flt 1 L)) (by decide) (by decide) hP hR0 (fun a L' e _ _ => by rw [(Prod.mk.inj (Sum.inr.inj e)).2]) (fun f2 h2 => ?_)
        have h2 : RX P (.inl (flt 1 L) : PRs PGr) (fun g => PC9 g sn cn (nI (snm g).length) (nI (cnm g).length) (nI g.2.2.1.length) (nI g.2.2.2.length) be co to gc le gr ac sq tg fr mi en) t tok p v f2 := h2
        rw [hix] at h2
        refine sq_expect (w := 6) hP h2 (fun t3 tok3 p3 v3 f3 h3 => ih (i + 1) (.inl (flt 1 L)) _ _ _ _ _ _ _ _ _ _ _ _ _ _ _ _ _ _ _ _ _ _ _ _ _ (by omega) h3 (fun a L z => by cases z) (fun d t tok p v f sn cn code st ce gi ln be co to gc le gr ac sq tg fr mi en cl cd h => hΦ _ _ _ _ _ _ _ _ _ _ _ _ _ _ _ _ _ _ _ _ _ _ _ _ _ _ _ (by rw [hp]; exact h)))
      · have hp : pTell g L = pLine g L := by
          unfold pTell
          rw [if_neg n12, if_neg n15, if_neg n16, if_pos e17]
        rw [hp] at hΦ
        refine sq_tellLine hP (hix ▸ hR0) v1 v2 v3 v12 v8 hc1 hc2 hne (fun d2 t2 tok2 p2 v2' f2 code2 ln2 ac2 sq2 tg2 fr2 mi2 en2 h2 c2 => ?_)
        refine sq_expect (w := 6) hP h2 (fun t3 tok3 p3 v3' f3 h3 => ih (i + 1) _ _ _ _ _ _ _ _ _ _ _ _ _ _ _ _ _ _ _ _ _ _ _ _ _ _ (by omega) (h3.imp (fun g' hg => ?_)) (fun a L' e => ?_) hΦ)
        · obtain ⟨g1, g2, g3, g4, g5, g6⟩ := hg
          have es : snm g' = snm g := by unfold snm; rw [g1]
          have ec : cnm g' = cnm g := by unfold cnm; rw [g2]
          unfold PC9
          rw [es, ec, g3, g1, g2]
          exact ⟨v1, v2, v3, rfl, rfl, rfl, g4, g5, v9, v10, v11, g6⟩
        · have := c2.tXZ (w := 6) a L' e
          exact ⟨this.1, by omega⟩
      · have hp : pTell g L = pInput g L := by
          unfold pTell
          rw [if_neg n12, if_neg n15, if_pos e16]
        rw [hp] at hΦ
        refine sq_tellInput hP (hix ▸ hR0) v3 v11 (fun t2 tok2 p2 v2' f2 gi2 gc2 le2 gr2 h2 => ?_)
        refine sq_expect (w := 6) hP h2 (fun t3 tok3 p3 v3' f3 h3 => ih (i + 1) _ _ _ _ _ _ _ _ _ _ _ _ _ _ _ _ _ _ _ _ _ _ _ _ _ _ (by omega) (h3.imp (fun g' hg => ?_)) (fun a L' e => ?_) hΦ)
        · obtain ⟨g1, g2, g3, g4, g5⟩ := hg
          have es : snm g' = snm g := by unfold snm; rw [g1]
          have ec : cnm g' = cnm g := by unfold cnm; rw [g2]
          unfold PC9
          rw [es, ec, g3, g1, g2]
          exact ⟨v1, v2, v3, rfl, rfl, g4, rfl, v8, v9, v10, g5, v12⟩
        · have hl := ((pInput_le (g := g) (L := L)).say (w := 6)).advZ a L' e
          rw [e] at h3
          have eg : cds a = cds g := by unfold cds; rw [h3.2.2.2.2.1]
          rw [eg]
          have := adv_le L
          exact ⟨hc1, by omega⟩
      · have hp : pTell g L = pCell g L := by
          unfold pTell
          rw [if_neg n12, if_pos e15]
        rw [hp] at hΦ
        refine sq_tellCell hP (hix ▸ hR0) v1 v2 v3 v10 (fun t2 tok2 p2 v2' f2 cn2 ce2 to2 h2 => ?_)
        refine sq_expect (w := 6) hP h2 (fun t3 tok3 p3 v3' f3 h3 => ih (i + 1) _ _ _ _ _ _ _ _ _ _ _ _ _ _ _ _ _ _ _ _ _ _ _ _ _ _ (by omega) (h3.imp (fun g' hg => ?_)) (fun a L' e => ?_) hΦ)
        · obtain ⟨g1, g2, g3, g4, g5⟩ := hg
          have es : snm g' = snm g := by unfold snm; rw [g1]
          unfold PC9
          rw [es, g2, g1]
          exact ⟨v1, v2, g3, rfl, g4, rfl, rfl, v8, v9, g5, v11, v12⟩
        · have hl := ((pCell_le (g := g) (L := L)).say (w := 6)).advZ a L' e
          rw [e] at h3
          have eg : cds a = cds g := by unfold cds; rw [h3.2.2.2.1]
          rw [eg]
          have := adv_le L
          exact ⟨hc1, by omega⟩
      · have hp : pTell g L = pStuff g L := by
          unfold pTell
          rw [if_pos e12]
        rw [hp] at hΦ
        refine sq_tellStuff hP (hix ▸ hR0) v1 v2 v3 v9 (fun t2 tok2 p2 v2' f2 sn2 st2 be2 co2 h2 => ?_)
        refine sq_expect (w := 6) hP h2 (fun t3 tok3 p3 v3' f3 h3 => ih (i + 1) _ _ _ _ _ _ _ _ _ _ _ _ _ _ _ _ _ _ _ _ _ _ _ _ _ _ (by omega) (h3.imp (fun g' hg => ?_)) (fun a L' e => ?_) hΦ)
        · obtain ⟨g1, g2, g3, g4, g5⟩ := hg
          have ec : cnm g' = cnm g := by unfold cnm; rw [g1]
          unfold PC9
          rw [ec, g1]
          exact ⟨g2, g3, v3, g4, rfl, rfl, rfl, v8, g5, v10, v11, v12⟩
        · have hl := ((pStuff_le (g := g) (L := L)).say (w := 6)).advZ a L' e
          rw [e] at h3
          have eg : cds a = cds g := by unfold cds; rw [h3.2.2.1]
          rw [eg]
          have := adv_le L
          exact ⟨hc1, by omega⟩
end RD9
theorem sq_X3_read {ts : List Nat} {sg code : Nat → Int32} {a b p f C : Int32} {tok : Nat} {v : Int64} {sn cn : Nat → Int64} {tk : Nat → Nat} {pl : Nat → Int32} {vl : Nat → Int64} {Φ : PRD} (hT : TL ts sg) (hΦ : ∀ pg d t tok p v f sn cn code c tk pl vl st ce gi ln be co to gc le gr ac sq tg fr mi en cl cd, RF9 (parse ts) f st ce gi ln be co to gc le gr ac sq tg fr mi en cl cd → Φ pg d t tok p v f sn cn code 0 c tk pl vl st ce gi ln be co to gc le gr ac sq tg fr mi en cl cd) : wl_X3_read sg a b tok p v f sn cn code (nI ts.length) C tk pl vl Φ := by
  unfold wl_X3_read
  have hn := hT.1
  refine iw_X5_split (fun _ _ _ _ u => u) (sq_X5_split hT (fun tk pl vl hA => ?_))
  have hP : HP (tokL ts 0) tk pl vl := ⟨hA, by have := tokL_len (ts := ts) ts.length 0 (by omega) (by omega); omega, tokL_VT hn ts.length 0 (by omega) (by omega), tokL_WT ts.length 0 (by omega)⟩
  have hpos : 0 < (tokL ts 0).length := lpos hP.2.2.2.ne
  intro pg
  have h1 := hP.2.1
  refine ⟨fun z => absurd z (nI_ge (a := 0) hpos (by omega)), fun _ _ _ _ _ => ?_⟩
  have e0 : (0 : Int32).toNatClampNeg = 0 := rfl
  rw [e0]
  intro n_
  have hA0 : AT9 (tokL ts 0) (tokL ts 0) (nI (0 + 1)) (tk 0) (pl 0) (vl 0) := ⟨0, rfl, hpos, rfl, hA _ _ (hdt_get hpos)⟩
  have hno : ∀ {α : Type} {Q : Prop} {i : Nat} {w : α}, ([] : List α)[i]? = some w → Q := fun h => by rw [List.getElem?_nil] at h; cases h
  have hnm : ∀ {α : Type} {Q : Prop} {w : α}, w ∈ ([] : List α) → Q := fun h => (List.not_mem_nil h).elim
  have hNA : ∀ an, NA [] an := fun an => ⟨by decide, fun w hw => hnm hw, fun i w h => hno h⟩
  have hSA : ∀ be co, SA9 [] be co := fun be co i y h => hno h
  have hCA : ∀ to, CA9 [] to := fun to i y h => hno h
  have hIA : ∀ le gr, IA [] le gr := fun le gr => ⟨by decide, fun y hy => hnm hy, fun i y h => hno h⟩
  have hGA : ∀ gc le gr, GA9 [] gc le gr := fun gc le gr => ⟨hIA _ _, by decide, fun y hy => hnm hy, fun i y h => hno h⟩
  have hLA : ∀ ac sq tg fr mi en, LA9 [] ac sq tg fr mi en := fun ac sq tg fr mi en i y h => hno h
  refine sq_read47 hP n_ 0 (.inr (([], [], [], []), tokL ts 0)) _ _ _ _ _ _ _ _ _ _ _ _ _ _ _ _ _ _ _ _ _ _ _ _ _ (by decide) ⟨rfl, hA0, hNA _, Nat.zero_le _, hNA _, rfl, rfl, rfl, rfl, Nat.zero_le _, hSA _ _, hCA _, hGA _ _ _, hLA _ _ _ _ _ _⟩ (fun a L e => ?_) (fun d t tok p v f sn cn code st ce gi ln be co to gc le gr ac sq tg fr mi en cl cd h => hΦ _ _ _ _ _ _ _ _ _ _ _ _ _ _ _ _ _ _ _ _ _ _ _ _ _ _ _ _ _ _ _ _ h)
  have e := Prod.mk.inj (Sum.inr.inj e)
  rw [← e.1, ← e.2]
  exact ⟨⟨rfl, fun i c h => by simp [cds, cdl] at h⟩, by show 0 + _ ≤ 1001; omega⟩
theorem sq_fill {rl : Nat} {x : Int32} {Φ : (Nat → Int32) → Prop} {r : Nat → Int32} (hr : rl < 2 ^ 31) (h : ∀ r', (∀ j, j < rl → r' j = x) → (∀ j, rl ≤ j → r' j = r j) → Φ r') : wl_J7_fill_53178 rl x r Φ := by
  have key : ∀ (n i : Nat) (r' : Nat → Int32), i ≤ rl → (∀ j, j < i → r' j = x) → (∀ j, i ≤ j → r' j = r j) → ll_J7_fill_53178_5 rl x Φ n r' (nI i) (nI rl) := by
    intro n
    induction n with
    | zero => intros; trivial
    | succ n ih =>
      intro i r' hi h1 h2
      refine ⟨fun z => h r' (fun j hj => h1 j ?_) (fun j hj => h2 j (by omega)), fun z _ => ?_⟩
      · rw [nI_leI (by omega) (by omega)] at z; omega
      · rw [nI_leI (by omega) (by omega)] at z
        rw [nI_1, nI_clamp (n := i) (by omega)]
        refine ih (i + 1) _ (by omega) (fun j hj => ?_) (fun j hj => ?_)
        · by_cases e : j = i
          · rw [e, pk_us]
          · rw [pk_un e]; exact h1 j (by omega)
        · rw [pk_un (by omega)]; exact h2 j (by omega)
  exact fun n => key n 0 r (Nat.zero_le _) (fun j hj => absurd hj (Nat.not_lt_zero _)) (fun j _ => rfl)
end
section
theorem sq7_programme {ts : List Nat} {sg code hst htw hwo : Nat → Int32} {a b p f C hs hn ha hb : Int32} {tok hp : Nat} {v : Int64} {sn cn : Nat → Int64} {tk : Nat → Nat} {pl : Nat → Int32} {vl : Nat → Int64} {Φ : PCpr} (hT : TL ts sg)
    (bad : ∀ e, parse ts = .inl e → 0 < e → e < 100000 → ∀ pg d t tok p v sn cn code c tk pl vl st ce gi ln be co to gc le gr ac sq tg fr mi en cl cd, Φ (nI e) pg d t tok p v (nI e) sn cn code 0 c tk pl vl st ce gi ln be co to gc le gr ac sq tg fr mi en cl cd hp hs hn ha hb hst htw hwo)
    (good : ∀ g, parse ts = .inr g → ∀ pg d t tok p v sn cn code c tk pl vl st ce gi ln be co to gc le gr ac sq tg fr mi en cl cd, PQ9 g st ce gi ln be co to gc le gr ac sq tg fr mi en cl cd → ∀ hst' htw' hwo' : Nat → Int32, (∀ j, j < 16 → hst' j = sq j) → (∀ j, j < 16 → htw' j = 1) → (∀ j, j < 16 → hwo' j = 0) → Φ 0 pg d t tok p v 0 sn cn code 0 c tk pl vl st ce gi ln be co to gc le gr ac sq tg fr mi en cl cd pg 0 0 0 0 hst' htw' hwo') : wl_X7_programme sg a b tok p v f sn cn code (nI ts.length) C tk pl vl hp hs hn ha hb hst htw hwo Φ := by
  unfold wl_X7_programme
  refine sq_X3_read hT (fun pg d t tok p v f sn cn code c tk pl vl st ce gi ln be co to gc le gr ac sq tg fr mi en cl cd h => ?_)
  cases hx : parse ts with
  | inl e =>
    rw [hx] at h
    have h : f = nI e ∧ 0 < e ∧ e < 100000 := h
    obtain ⟨h1, h2, h3⟩ := h
    subst h1
    exact ⟨fun _ => bad e hx h2 h3 _ _ _ _ _ _ _ _ _ _ _ _ _ _ _ _ _ _ _ _ _ _ _ _ _ _ _ _ _ _ _, fun z => absurd z (nI_ne0 h2 (by omega))⟩
  | inr g =>
    rw [hx] at h
    have h : f = 0 ∧ PQ9 g st ce gi ln be co to gc le gr ac sq tg fr mi en cl cd := h
    obtain ⟨h1, h2⟩ := h
    subst h1
    refine ⟨fun z => absurd rfl z, fun _ => ?_⟩
    unfold wl_X1_takeAsTold
    refine sq_fill (rl := 16) (by decide) (fun t1 h3 _ => ?_)
    refine sq_fill (rl := 16) (by decide) (fun t2 h4 _ => ?_)
    refine good g hx _ _ _ _ _ _ _ _ _ _ _ _ _ _ _ _ _ _ _ _ _ _ _ _ _ _ _ _ _ _ _ h2 _ t1 t2 (fun j hj => ?_) h3 h4
    rw [pk_cpy_in (Nat.zero_le _) (by omega), show 0 + (j - 0) = j by omega]
end
section
/-- the reference reads the token list L -/
def RR (ts : List Nat) (L : List Tok) (q b : Nat) (T : Int32) (w : Int64) (td : Int32) : Prop := ∃ k r, L = k :: r ∧ CR ts q b T w td k ∧ (¬ k.1 = 0 → r = tokL ts q) ∧ (k.1 = 0 → r = []) ∧ VT k
section RRS
variable {ts : List Nat} {t : Nat → Int32} {L : List Tok} {q b : Nat} {T td : Int32} {w : Int64}
theorem RR.VTZ (h : RR ts L q b T w td) : VT (hdt L) := by
  obtain ⟨k, r, e, _, _, _, hV⟩ := h
  rw [e]
  exact hV
theorem RR.CRZ (h : RR ts L q b T w td) : CR ts q b T w td (hdt L) := by
  obtain ⟨k, r, e, hC, _⟩ := h
  rw [e]
  exact hC
theorem RR.advZ (hT : TL ts t) (h : RR ts L q b T w td) {B2 T2 d2 : Int32} {w2 : Int64} {Φ : Int32 → Int32 → Int32 → Int64 → Int32 → Prop} (hΦ : ∀ q' b' T' w' td', RR ts (adv L) q' b' T' w' td' → Φ (nI q') (nI b') T' w' td') : wp_X8_nextToken (nI ts.length) t (nI q) B2 T2 w2 d2 Φ := by
  obtain ⟨k, r, e, hC, h1, h2, hV⟩ := h
  refine sq_X8_nextToken hT hC.2.2.2.1 (fun k' r' q' b' T' w' d' e' g1 g2 hC' => hΦ q' b' T' w' d' ?_)
  have hq := hC.2.2.2.1
  have hk' : VT k' := tokL_VT hT.1 (ts.length - q) q (Nat.le_refl _) hq k' (by rw [e']; exact List.mem_cons_self)
  by_cases e0 : k.1 = 0
  · have hz := hC.2.2.2.2.2.1 e0
    rw [tokL_end (by omega)] at e'
    rw [h2 e0] at e
    have e3 : (0, q, []) = k' ∧ [] = r' := List.cons.inj e'
    refine ⟨k', r', ?_, hC', g1, g2, hk'⟩
    rw [e, ← e3.2, ← e3.1]
    show [k] = [(0, q, [])]
    have : k = (0, q, []) := by
      have a1 := hC.1
      obtain ⟨k1, k2, k3⟩ := k
      have b1 : k1 = 0 := e0
      have b2 : k2 = b := a1
      have b3 : k3 = [] := hC.2.2.2.2.2.2.2.2.2.2 e0
      rw [b1, b2, b3, hz.2]
    rw [this]
  · refine ⟨k', r', ?_, hC', g1, g2, hk'⟩
    rw [e, h1 e0, e']
    rfl
end RRS
/-- the word that the reference makes of each kept word -/
def kwT : List Int64 := [10506516, 1162531, 1903978, 63030, 5070782, 243140, 220309, 79, 14006, 12584543, 204, 249, 60114, 259906, 158537, 464144, 10631, 1111, 423]
theorem KW_19 : ∀ i : Fin 19, KW.getD i.val [] ∈ KW ∧ kwI (KW.getD i.val []) = 12 + i.val ∧ eW (KW.getD i.val []) = kwT.getD i.val 0 := by decide +kernel
theorem sgI_127 : ∀ c s : Fin 127, 4 ≤ sgI s.val → sgI c.val = sgI s.val → c.val = s.val := by decide +kernel
theorem sgI_r (c : Nat) : sgI c = 1 ∨ (4 ≤ sgI c ∧ sgI c ≤ 11) := by
  unfold sgI
  repeat' split
  all_goals omega
theorem kwI_r (w : List Nat) : kwI w = 3 ∨ (12 ≤ kwI w ∧ kwI w ≤ 30 ∧ w ∈ KW ∧ kwI w = 12 + KW.idxOf w) := by
  unfold kwI
  by_cases h : w ∈ KW
  · rw [if_pos h]
    have : KW.idxOf w < KW.length := List.idxOf_lt_length_of_mem h
    have e : KW.length = 19 := rfl
    exact Or.inr ⟨by omega, by omega, h, rfl⟩
  · rw [if_neg h]
    exact Or.inl rfl
theorem kw_inj {w z : List Nat} (hw : w ∈ KW) (hz : z ∈ KW) (h : kwI w = kwI z) : w = z := by
  unfold kwI at h
  rw [if_pos hw, if_pos hz] at h
  have e : KW.idxOf w = KW.idxOf z := by omega
  have h1 : KW[KW.idxOf w]? = some w := (List.getElem?_eq_getElem (List.idxOf_lt_length_of_mem hw)).trans (congrArg some (List.getElem_idxOf (List.idxOf_lt_length_of_mem hw)))
  have h2 : KW[KW.idxOf z]? = some z := (List.getElem?_eq_getElem (List.idxOf_lt_length_of_mem hz)).trans (congrArg some (List.getElem_idxOf (List.idxOf_lt_length_of_mem hz)))
  rw [e, h2] at h1
  exact (Option.some.inj h1).symm
section RQ8
variable {ts : List Nat} {t : Nat → Int32} {L : List Tok} {q b : Nat} {T td wr : Int32} {w : Int64}
theorem RR.tT (h : RR ts L q b T w td) (j : Nat) (hj : j ≤ 4) : T = nI j ↔ (hdt L).1 = j := by
  have := h.CRZ
  rw [this.2.1]
  have h4 := this.2.2.1
  exact nI_eq (by omega) (by omega)
theorem RR.le (h : RR ts L q b T w td) : b ≤ q ∧ q ≤ ts.length := ⟨h.CRZ.2.2.2.2.1, h.CRZ.2.2.2.1⟩
theorem RR.pl (h : RR ts L q b T w td) : (hdt L).2.1 = b := h.CRZ.1
theorem RR.ix3 (h : RR ts L q b T w td) : (hdt L).1 = 3 → ix (hdt L) = sgI (sgn ts b) ∧ b < ts.length := by
  intro e
  have hC := h.CRZ
  refine ⟨?_, hC.2.2.2.2.2.2.1 (by omega)⟩
  unfold ix
  rw [if_neg (by omega), if_neg (by omega), if_neg (by omega), if_pos e, hC.2.2.2.2.2.2.2.2.2.1 e]
  rfl
theorem RR.ix1 (h : RR ts L q b T w td) : (hdt L).1 = 1 → ix (hdt L) = kwI (hdt L).2.2 ∧ w = eW (hdt L).2.2 ∧ WD (hdt L).2.2 := by
  intro e
  refine ⟨?_, h.CRZ.2.2.2.2.2.2.2.1 e, (h.VTZ.2.2.1 e).1⟩
  unfold ix
  rw [if_neg (by omega), if_pos e]
theorem ix_k (k : Tok) : (k.1 = 0 ∧ ix k = 0) ∨ (k.1 = 1 ∧ ix k = kwI k.2.2) ∨ (k.1 = 2 ∧ ix k = 2) ∨ (k.1 = 3 ∧ ix k = sgI (k.2.2.headD 0)) ∨ ix k = 1 := by
  unfold ix
  by_cases e0 : k.1 = 0
  · exact Or.inl ⟨e0, if_pos e0⟩
  rw [if_neg e0]
  by_cases e1 : k.1 = 1
  · exact Or.inr (Or.inl ⟨e1, if_pos e1⟩)
  rw [if_neg e1]
  by_cases e2 : k.1 = 2
  · exact Or.inr (Or.inr (Or.inl ⟨e2, if_pos e2⟩))
  rw [if_neg e2]
  by_cases e3 : k.1 = 3
  · exact Or.inr (Or.inr (Or.inr (Or.inl ⟨e3, if_pos e3⟩)))
  · exact Or.inr (Or.inr (Or.inr (Or.inr (if_neg e3))))
theorem ix_sg {k : Tok} (h : 4 ≤ ix k) (h2 : ix k ≤ 11) : k.1 = 3 := by
  rcases ix_k k with ⟨_, e⟩ | ⟨_, e⟩ | ⟨_, e⟩ | ⟨e, _⟩ | e
  · omega
  · rcases kwI_r k.2.2 with g | g <;> omega
  · omega
  · exact e
  · omega
theorem ix_kw {k : Tok} (h : 12 ≤ ix k) : k.1 = 1 ∧ k.2.2 ∈ KW := by
  rcases ix_k k with ⟨_, e⟩ | ⟨e1, e⟩ | ⟨_, e⟩ | ⟨_, e⟩ | e
  · omega
  · rcases kwI_r k.2.2 with g | g
    · omega
    · exact ⟨e1, g.2.2.1⟩
  · omega
  · rcases sgI_r (k.2.2.headD 0) with g | g <;> omega
  · omega
theorem sq8_next {B2 T2 d2 : Int32} {w2 : Int64} {Φ : Int32 → Int32 → Int32 → Int64 → Int32 → Prop} (hT : TL ts t) (h : RR ts L q b T w td) (hΦ : ∀ q' b' T' w' td', RR ts (adv L) q' b' T' w' td' → Φ (nI q') (nI b') T' w' td') : wl_X8_nextToken (nI ts.length) t (nI q) B2 T2 w2 d2 Φ := iw_X8_nextToken (fun _ _ _ _ _ u => u) (h.advZ hT hΦ)
theorem sq8_sign {Φ : Int32 → Prop} (s : Nat) (hs : s < 127) (h4 : 4 ≤ sgI s) (hT : TL ts t) (h : RR ts L q b T w td) (h1 : ix (hdt L) = sgI s → Φ 1) (h0 : ¬ ix (hdt L) = sgI s → Φ 0) : wl_X8_isSign (nI b) T t (nI s) Φ := by
  have hr := sgI_r s
  have hb := h.le
  have hn := hT.1
  have e3 : T = 3 ↔ (hdt L).1 = 3 := h.tT 3 (by decide)
  unfold wl_X8_isSign
  refine ⟨fun z => h0 (fun e => z (e3.mpr (ix_sg (by omega) (by omega)))), fun z _ => ?_⟩
  obtain ⟨g1, g2⟩ := h.ix3 (e3.mp z)
  have hc := hT.lt b
  rw [nI_clamp (by omega), hT.at g2]
  have hi : (nI (sgn ts b) = nI s) ↔ sgn ts b = s := nI_eq (by omega) (by omega)
  rw [hi]
  exact ⟨fun y => h0 (fun e => y (sgI_127 ⟨_, hc⟩ ⟨s, hs⟩ h4 (g1.symm.trans e))), fun y => h1 (by rw [g1, y])⟩
theorem sq8_word {Φ : Int32 → Prop} (i : Nat) {x : Int64} (hi : i < 19) (hx : kwT.getD i 0 = x) (h : RR ts L q b T w td) (h1 : ix (hdt L) = 12 + i → Φ 1) (h0 : ¬ ix (hdt L) = 12 + i → Φ 0) : wl_X8_isWord T w x Φ := by
  have e1 : T = 1 ↔ (hdt L).1 = 1 := h.tT 1 (by decide)
  obtain ⟨k1, k2, k3⟩ := KW_19 ⟨i, hi⟩
  simp only at k1 k2 k3
  unfold wl_X8_isWord
  refine ⟨fun z => h0 (fun e => z (e1.mpr (ix_kw (by omega)).1)), fun z => ?_⟩
  obtain ⟨g1, g2, g3⟩ := h.ix1 (e1.mp z)
  rw [lg_cmp_eq, g2, ← hx, ← k3, eW_inj g3 (KW_wd _ k1)]
  refine ⟨fun y => h0 (fun e => y ?_), fun y => h1 ?_⟩
  · have hm := (ix_kw (k := hdt L) (by omega)).2
    exact kw_inj hm k1 (by rw [← g1, e, k2])
  · rw [g1, y, k2]
theorem sq8_kept {Φ : Int32 → Prop} (h : RR ts L q b T w td) (h1 : ¬ ix (hdt L) = 3 → Φ 1) (h0 : ix (hdt L) = 3 → Φ 0) : wl_X8_isKept T w Φ := by
  have e1 : T = 1 ↔ (hdt L).1 = 1 := h.tT 1 (by decide)
  unfold wl_X8_isKept
  refine ⟨fun z => ?_, fun z => h1 (fun e => z (e1.mpr (ix_3 e).1))⟩
  obtain ⟨g1, g2, g3⟩ := h.ix1 (e1.mp z)
  have hw : ∀ i : Nat, i < 19 → w = kwT.getD i 0 → ¬ ix (hdt L) = 3 := by
    intro i hi e
    obtain ⟨k1, k2, k3⟩ := KW_19 ⟨i, hi⟩
    simp only at k1 k2 k3
    have : (hdt L).2.2 = KW.getD i [] := (eW_inj g3 (KW_wd _ k1)).mp (g2.symm.trans (e.trans k3.symm))
    rw [g1, this, k2]
    omega
  simp only [lg_cmp_eq]
  have last : (¬ ∃ i, i < 19 ∧ w = kwT.getD i 0) → Φ 0 := by
    intro hno
    apply h0
    rcases kwI_r (hdt L).2.2 with g | ⟨g4, g5, g6, g7⟩
    · rw [g1]; exact g
    · exfalso
      obtain ⟨k1, k2, k3⟩ := KW_19 ⟨kwI (hdt L).2.2 - 12, by omega⟩
      simp only at k1 k2 k3
      have : (hdt L).2.2 = KW.getD (kwI (hdt L).2.2 - 12) [] := kw_inj g6 k1 (by rw [k2]; omega)
      exact hno ⟨kwI (hdt L).2.2 - 12, by omega, by rw [g2]; rw [← this] at k3; exact k3⟩
  refine ⟨fun y => h1 (hw 0 (by decide) y), fun y0 => ⟨fun y => h1 (hw 1 (by decide) y), fun y1 => ⟨fun y => h1 (hw 2 (by decide) y), fun y2 => ⟨fun y => h1 (hw 3 (by decide) y), fun y3 => ⟨fun y => h1 (hw 4 (by decide) y), fun y4 => ⟨fun y => h1 (hw 5 (by decide) y), fun y5 => ⟨fun y => h1 (hw 8 (by decide) y), fun y6 => ⟨fun y => h1 (hw 9 (by decide) y), fun y7 => ⟨fun y => h1 (hw 10 (by decide) y), fun y8 => ⟨fun y => h1 (hw 11 (by decide) y), fun y9 => ⟨fun y => h1 (hw 12 (by decide) y), fun y10 => ⟨fun y => h1 (hw 6 (by decide) y), fun y11 => ⟨fun y => h1 (hw 13 (by decide) y), fun y12 => ⟨fun y => h1 (hw 7 (by decide) y), fun y13 => ⟨fun y => h1 (hw 14 (by decide) y), fun y14 => ⟨fun y => h1 (hw 15 (by decide) y), fun y15 => ⟨fun y => h1 (hw 16 (by decide) y), fun y16 => ⟨fun y => h1 (hw 17 (by decide) y), fun y17 => ⟨fun y18 => last ?_, fun y => h1 (hw 18 (by decide) y)⟩⟩⟩⟩⟩⟩⟩⟩⟩⟩⟩⟩⟩⟩⟩⟩⟩⟩⟩
  rintro ⟨i, hi, e⟩
  match i, hi, e with
  | 0, _, e => exact y0 e
  | 1, _, e => exact y1 e
  | 2, _, e => exact y2 e
  | 3, _, e => exact y3 e
  | 4, _, e => exact y4 e
  | 5, _, e => exact y5 e
  | 6, _, e => exact y11 e
  | 7, _, e => exact y13 e
  | 8, _, e => exact y6 e
  | 9, _, e => exact y7 e
  | 10, _, e => exact y8 e
  | 11, _, e => exact y9 e
  | 12, _, e => exact y10 e
  | 13, _, e => exact y12 e
  | 14, _, e => exact y14 e
  | 15, _, e => exact y15 e
  | 16, _, e => exact y16 e
  | 17, _, e => exact y17 e
  | 18, _, e => exact y18 e
  | n + 19, h, _ => exact absurd h (by omega)
/-- a row of names, the reference's -/
def NB (ns : List (List Nat)) (an : Nat → Int64) : Prop := ns.length ≤ 6 ∧ (∀ w ∈ ns, WD w) ∧ ∀ i w, ns[i]? = some w → an i = eW w
theorem sq8_cellOf {ns : List (List Nat)} {z : List Nat} {cs : Nat → Int32} {an : Nat → Int64} {Φ : Int32 → Prop} (hN : NB ns an) (hk : cs 1 = nI ns.length) (hz : WD z) (h0 : fnd ns z = none → Φ (-1)) (h1 : ∀ j, fnd ns z = some j → Φ (nI j)) : wl_X8_cellOf (eW z) cs an Φ := by
  have h6 := hN.1
  have key : ∀ (n i : Nat), i ≤ ns.length → fnd ns z = fndF (ns.drop i) z i → ll_X8_cellOf_2 (eW z) cs an Φ n (nI i) := by
    intro n
    induction n with
    | zero => intro i _ _; trivial
    | succ n ih =>
      intro i hi he
      show bl_X8_cellOf_2 _ _ _ _ _ _
      unfold bl_X8_cellOf_2
      rw [hk, nI_leI (by omega) (by omega)]
      refine ⟨fun y => h0 ?_, fun y _ => ?_⟩
      · rw [he, List.drop_eq_nil_of_le y]; rfl
      · have hlt : i < ns.length := by omega
        have ha : an i = eW ns[i] := hN.2.2 i _ (List.getElem?_eq_getElem hlt)
        have hwi : WD ns[i] := hN.2.1 _ (List.getElem_mem hlt)
        rw [List.drop_eq_getElem_cons hlt] at he
        have he : fnd ns z = if ns[i] = z then some i else fndF (ns.drop (i + 1)) z (i + 1) := he
        rw [nI_clamp (n := i) (by omega), ha, lg_cmp_eq, eW_inj hwi hz, nI_1]
        exact ⟨fun z3 => ih (i + 1) (by omega) (by rw [he, if_neg z3]), fun z3 => h1 i (by rw [he, if_pos z3])⟩
  exact fun n => key n 0 (Nat.zero_le _) rfl
theorem sq8_stuffOf {ns : List (List Nat)} {z : List Nat} {cs : Nat → Int32} {an : Nat → Int64} {Φ : Int32 → Prop} (hN : NB ns an) (hk : cs 1 = nI ns.length) (hz : WD z) (h0 : fnd ns z = none → Φ (-1)) (h1 : ∀ j, fnd ns z = some j → Φ (nI j)) : wl_X8_stuffOf (eW z) cs an Φ := by
  have h6 := hN.1
  have key : ∀ (n i : Nat), i ≤ ns.length → fnd ns z = fndF (ns.drop i) z i → ll_X8_stuffOf_2 (eW z) cs an Φ n (nI i) := by
    intro n
    induction n with
    | zero => intro i _ _; trivial
    | succ n ih =>
      intro i hi he
      show bl_X8_stuffOf_2 _ _ _ _ _ _
      unfold bl_X8_stuffOf_2
      rw [hk, nI_leI (by omega) (by omega)]
      refine ⟨fun y => h0 ?_, fun y _ => ?_⟩
      · rw [he, List.drop_eq_nil_of_le y]; rfl
      · have hlt : i < ns.length := by omega
        have ha : an i = eW ns[i] := hN.2.2 i _ (List.getElem?_eq_getElem hlt)
        have hwi : WD ns[i] := hN.2.1 _ (List.getElem_mem hlt)
        rw [List.drop_eq_getElem_cons hlt] at he
        have he : fnd ns z = if ns[i] = z then some i else fndF (ns.drop (i + 1)) z (i + 1) := he
        rw [nI_clamp (n := i) (by omega), ha, lg_cmp_eq, eW_inj hwi hz, nI_1]
        exact ⟨fun z3 => ih (i + 1) (by omega) (by rw [he, if_neg z3]), fun z3 => h1 i (by rw [he, if_pos z3])⟩
  exact fun n => key n 0 (Nat.zero_le _) rfl
theorem RR.fltZ (h : RR ts L q b T w td) (k : Nat) : nI k + 16 * nI b = nI (flt k L) := by
  rw [show (16 : Int32) = nI 16 from rfl, pk_mul, nI_add, ← h.pl]
  rfl
end RQ8
end
