/-- peak, by all inputs -/
def pkG (g : PGr) : Nat → Int32 := (svF (sgN 1000 g) (inN g)).2.2
theorem pkG_eq {g : PGr} : pkG g = (svF (sgN 1000 g) (inN g)).2.2 := rfl
def f_most (m : MS) (x y : Int32) : Int32 := match ixO x (nL m.1) with
  | none => -1
  | some l => if alG m.1 (inN m.1) = true then (if y = 0 then nI ((svF (sgN 1000 m.1) (inN m.1)).1 l) else if y = 1 then nI ((svF (sgN 1000 m.1) (inN m.1)).2.1 l) else if y = 2 then pkG m.1 l else -1) else -1
def nvG (of : Nat → Nat) : Nat → Int32
  | 0 => 0
  | l + 1 => if of l = 0 then nvG of l ||| ((1 : Int32) <<< (nI l &&& 31)) else nvG of l
def f_never (m : MS) : Int32 := if 0 < nL m.1 ∧ alG m.1 (inN m.1) = true then nvG (svF (sgN 1000 m.1) (inN m.1)).1 (nL m.1) else -1
/-- a room within which all can be laid so that it lasts -/
def lsO (g : PGr) (x : Int32) : Option Nat := match ixO x 65 with
  | none => none
  | some r => if ¬ r = 0 ∧ 0 < nL g ∧ alG g (inN g) = true ∧ leG g (pkG g) (nL g) r < 1000000 then some r else none
def f_lasting (m : MS) (x : Int32) : Int32 := match lsO m.1 x with
  | none => -1
  | some r => nI (leG m.1 (pkG m.1) (nL m.1) r)
def f_lasts (m : MS) (x y z : Int32) : Int32 := match lsO m.1 x, ixO y (nL m.1) with
  | some r, some l => if z = 0 then (amI (lsG m.1 (pkG m.1) r l).2).1 else if z = 1 then (amI (lsG m.1 (pkG m.1) r l).2).2 else -1
  | _, _ => -1
/-- what was surveyed and laid out is the programme's own -/
def SRg (g : PGr) (pg : Nat) (sn : Int32) (of by_ pk : Nat → Int32) (lp : Nat) (lk : Nat → Int32) (lr : Nat → Nat → Int32) : Prop := (sn = 0 ↔ alG g (inN g) = true) ∧ (sn = 0 → SVc g (inN g) of by_ pk ∧ lp = pg ∧ AGn (nL g) (pkG g) lk ∧ TB9 g (pkG g) lr 0)
abbrev KTy : Type := Option Nat → Int32 → (Nat → Int32) → (Nat → Int32) → (Nat → Int32) → Nat → (Nat → Int32) → (Nat → Nat → Int32) → Prop
/-- an invariant of the caches: of the programme at pg it says what is true of g -/
def KOK (K : KTy) (g : PGr) (pg : Nat) : Prop := ∀ sn of by_ pk lp lk lr, K (some pg) sn of by_ pk lp lk lr ↔ SRg g pg sn of by_ pk lp lk lr
section SC
variable {m : MS} {K : KTy} {cl pg wp lp : Nat} {pst pce pgi pln : Int32} {be co to gc le gr ac sq tg fr mi en cd : Nat → Int32} {st tw : Nat → Int32} {ww ws wn wa wb sn lu lt : Int32} {wst wtw wwo wce wke wsk so2 sb sp sv lk : Nat → Int32} {sf : Option Nat} {lr : Nat → Nat → Int32}
def CVq (K : KTy) (r : Int32) (Φ : PSv) : Prop := ∀ (wp : Nat) (ww ws wn wa wb : Int32) (wst wtw wwo wce wke wsk : Nat → Int32) (sf : Option Nat) (sn : Int32) (so2 sb sp sv : Nat → Int32) (lp : Nat) (lu lt : Int32) (lk : Nat → Int32) (lr : Nat → Nat → Int32), K sf sn so2 sb sp lp lk lr → Φ r wp ww ws wn wa wb wst wtw wwo wce wke wsk sf sn so2 sb sp sv lp lu lt lk lr
theorem sq7_surveyed {Φ : PSv} (hQ : PQ9 m.1 pst pce pgi pln be co to gc le gr ac sq tg fr mi en cl cd) (hO : MO9 m) (hc : CLs m.1 m.2.1 m.2.2.1 st tw) (hK : K sf sn so2 sb sp lp lk lr) (hKK : KOK K m.1 pg)
    (h0 : ¬ (0 < nL m.1 ∧ alG m.1 (inN m.1) = true) → CVq K 0 Φ)
    (h1 : 0 < nL m.1 → alG m.1 (inN m.1) = true → ∀ wp ww ws wn wa wb wst wtw wwo wce wke wsk sn so2 sb sp sv lp lu lt lk lr, K (some pg) sn so2 sb sp lp lk lr → SRg m.1 pg sn so2 sb sp lp lk lr → Φ 1 wp ww ws wn wa wb wst wtw wwo wce wke wsk (some pg) sn so2 sb sp sv lp lu lt lk lr) : wl_X7_surveyed st tw pst pce pgi pln be co to gc le gr ac tg fr mi en cd cl pg wp ww ws wn wa wb wst wtw wwo wce wke wsk sf sn so2 sb sp sv lp lu lt lk lr Φ := by
  have hQ' := hQ
  obtain ⟨q1, q2, q3, q4, q5, q6, q7, q8, q9, ⟨i1, i2, i3, i4⟩, q11, q12, q13, q14⟩ := hQ
  have h16 : nL m.1 ≤ 16 := q3
  have eln : pln = nI (nL m.1) := q7
  have est : pst = nI (nS m.1) := q4
  have h64 := inN_64 hO.1
  have qln : pln = 0 ↔ nL m.1 = 0 := by rw [eln]; exact nI_eq (b := 0) (by omega) (by decide)
  unfold wl_X7_surveyed
  rw [qln]
  refine ⟨fun z => ⟨fun esf => ?_, fun _ => ?_⟩, fun z => h0 (fun q => by omega) _ _ _ _ _ _ _ _ _ _ _ _ _ _ _ _ _ _ _ _ _ _ _ hK⟩
  · subst esf
    have hr := (hKK _ _ _ _ _ _ _).mp hK
    refine ⟨fun y => h0 (fun q => y (hr.1.mpr q.2)) _ _ _ _ _ _ _ _ _ _ _ _ _ _ _ _ _ _ _ _ _ _ _ hK, fun y => h1 (by omega) (hr.1.mp y) _ _ _ _ _ _ _ _ _ _ _ _ _ _ _ _ _ _ _ _ _ _ hK hr⟩
  · have hn : 0 < nL m.1 := by omega
    unfold wl_X4_open
    refine sq_fill (rl := 16) (by decide) (fun a1 z1 _ => sq_fill (rl := 16) (by decide) (fun a2 z2 _ => sq_fill (rl := 16) (by decide) (fun a3 z3 _ => ?_)))
    unfold wl_X1_layLike
    refine sq_fill (rl := 16) (by decide) (fun wo' hwo _ => ?_)
    have hc' := hc.cpy (os := wst) (ot := wtw) h16
    generalize va_cpy st wst 0 0 16 = st' at hc'
    generalize va_cpy tw wtw 0 0 16 = tw' at hc'
    -- all inputs are through
    have k103 : ∀ (ww ws wn wa wb : Int32) (wwo wce wke wsk : Nat → Int32) (sn : Int32) (so2 sb sp sv : Nat → Int32), (sn = 0 ↔ alG m.1 (inN m.1) = true) → (sn = 0 → SVc m.1 (inN m.1) so2 sb sp) → kl_X7_surveyed_103 st tw pst pce pgi pln be co to gc le gr ac tg fr mi en cd cl pg Φ pg ww ws wn wa wb st' tw' wwo wce wke wsk (some pg) sn so2 sb sp sv lp lu lt lk lr := by
      intro ww ws wn wa wb wwo wce wke wsk sn so2 sb sp sv e1 e2
      unfold kl_X7_surveyed_103
      rw [est, eln]
      refine sq0_make q8 hO.1 (fun u' v' lk' lr' hlk htb => ?_)
      have hsr : SRg m.1 pg sn so2 sb sp pg lk' lr' := by
        refine ⟨e1, fun z => ⟨e2 z, rfl, fun j hj => ?_, fun l a b r hr => ?_⟩⟩
        · rw [hlk j (by omega), (e2 z).2 j (by omega), pkG_eq]
        · rw [htb l a b r hr, leG_cong (pk' := pkG m.1) (fun j hj => by rw [(e2 z).2 j (by omega), pkG_eq]) _ (by omega)]
      have hk' := (hKK _ _ _ _ _ _ _).mpr hsr
      exact ⟨fun y => h0 (fun q => y (e1.mpr q.2)) _ _ _ _ _ _ _ _ _ _ _ _ _ _ _ _ _ _ _ _ _ _ _ hk', fun y => h1 hn (e1.mp y) _ _ _ _ _ _ _ _ _ _ _ _ _ _ _ _ _ _ _ _ _ _ hk' hsr⟩
    have key : ∀ (f i : Nat) (ww ws wn wa wb : Int32) (wwo wce wke wsk : Nat → Int32) (sn : Int32) (so2 sb sp sv : Nat → Int32), i ≤ inN m.1 → (sn = 0 ↔ alG m.1 i = true) → (sn = 0 → SVc m.1 i so2 sb sp) → ll_X7_surveyed_70 st tw pst pce pgi pln be co to gc le gr ac tg fr mi en cd cl pg Φ f pg ww ws wn wa wb st' tw' wwo wce wke wsk (some pg) sn so2 sb sp sv lp lu lt lk lr (nI (inN m.1)) (nI i) := by
      intro f
      induction f with
      | zero => intros; trivial
      | succ f ih =>
        intro i ww ws wn wa wb wwo wce wke wsk sn so2 sb sp sv hi e1 e2
        show bl_X7_surveyed_70 _ _ _ _ _ _ _ _ _ _ _ _ _ _ _ _ _ _ _ _ _ _ _ _ _ _ _ _ _ _ _ _ _ _ _ _ _ _ _ _ _ _ _ _ _ _ _
        unfold bl_X7_surveyed_70
        rw [nI_leI (by omega) (by omega), nI_1]
        refine ⟨fun y => ?_, fun y => ⟨fun y2 => ?_, fun y2 _ => ?_⟩⟩
        · have e : i = inN m.1 := by omega
          subst e
          exact k103 _ _ _ _ _ _ _ _ _ _ _ _ _ _ e1 e2
        · exact k103 _ _ _ _ _ _ _ _ _ _ _ _ _ _ ⟨fun q => absurd q y2, fun q => absurd (e1.mpr (alG_le hi q)) y2⟩ (fun q => absurd q y2)
        · refine sq4_add hQ' hO.1 hO.2.1 hc' hn (by omega) (e2 y2) (fun sn' so2' sb' sp' sv' ww' ws' wn' wa' wb' wwo' wce' wke' wsk' g1 g2 => ?_)
          refine ih (i + 1) _ _ _ _ _ _ _ _ _ _ _ _ _ _ (by omega) ?_ (fun _ => g2)
          rw [g1, alG_s]
          exact ⟨fun q => ⟨e1.mp y2, q⟩, fun q => q.2⟩
    rw [q6]
    refine sq2_icount i1 ?_
    rw [← q6]
    exact fun f => key f 0 _ _ _ _ _ _ _ _ _ _ _ _ _ _ (Nat.zero_le _) ⟨fun _ => rfl, fun _ => rfl⟩ (fun _ => ⟨fun l hl => ⟨z1 l (by omega), z2 l (by omega)⟩, fun l hl => z3 l hl⟩)
theorem sq7_most {x y : Int32} {Φ : PSv} (hQ : PQ9 m.1 pst pce pgi pln be co to gc le gr ac sq tg fr mi en cl cd) (hO : MO9 m) (hc : CLs m.1 m.2.1 m.2.2.1 st tw) (hK : K sf sn so2 sb sp lp lk lr) (hKK : KOK K m.1 pg) (h : CVq K (f_most m x y) Φ) : wl_X7_most st tw pst pce pgi pln be co to gc le gr ac tg fr mi en cd cl pg x y wp ww ws wn wa wb wst wtw wwo wce wke wsk sf sn so2 sb sp sv lp lu lt lk lr Φ := by
  have h16 : nL m.1 ≤ 16 := hQ.2.2.1
  have eln : pln = nI (nL m.1) := hQ.2.2.2.2.2.2.1
  unfold wl_X7_most
  unfold f_most at h
  rw [eln]
  refine sq7_wi (by omega) (fun e => ⟨fun _ => by rw [e] at h; exact h _ _ _ _ _ _ _ _ _ _ _ _ _ _ _ _ _ _ _ _ _ _ _ hK, fun z => absurd rfl z⟩) (fun l hl ex e => ⟨fun z => absurd z (by decide), fun _ => ?_⟩)
  rw [e] at h
  rw [← eln]
  refine sq7_surveyed hQ hO hc hK hKK (fun q => ?_) (fun _ ha wp ww ws wn wa wb wst wtw wwo wce wke wsk sn so2 sb sp sv lp lu lt lk lr hK' hS => ⟨fun _ => ?_, fun z => absurd z (by decide)⟩)
  · intro wp ww ws wn wa wb wst wtw wwo wce wke wsk sf sn so2 sb sp sv lp lu lt lk lr hK'
    have h : CVq K (if alG m.1 (inN m.1) = true then _ else -1) Φ := h
    rw [if_neg (fun z => q ⟨by omega, z⟩)] at h
    exact ⟨fun z => absurd rfl z, fun _ => h _ _ _ _ _ _ _ _ _ _ _ _ _ _ _ _ _ _ _ _ _ _ _ hK'⟩
  · have h : CVq K (if alG m.1 (inN m.1) = true then (if y = 0 then nI ((svF (sgN 1000 m.1) (inN m.1)).1 l) else if y = 1 then nI ((svF (sgN 1000 m.1) (inN m.1)).2.1 l) else if y = 2 then pkG m.1 l else -1) else -1) Φ := h
    rw [if_pos ha] at h
    obtain ⟨hsv, _⟩ := hS.2 (hS.1.mpr ha)
    obtain ⟨v1, v2⟩ := hsv.1 l hl
    rw [ex, nI_clamp (n := l) (by omega), v1, v2, hsv.2 l (by omega), ← pkG_eq]
    refine ⟨fun z _ => ?_, fun z _ => ?_, fun z _ => ?_, fun z => ?_⟩
    · rw [if_pos z] at h; exact h _ _ _ _ _ _ _ _ _ _ _ _ _ _ _ _ _ _ _ _ _ _ _ hK'
    · rw [if_neg (by rw [z]; decide), if_pos z] at h; exact h _ _ _ _ _ _ _ _ _ _ _ _ _ _ _ _ _ _ _ _ _ _ _ hK'
    · rw [if_neg (by rw [z]; decide), if_neg (by rw [z]; decide), if_pos z] at h; exact h _ _ _ _ _ _ _ _ _ _ _ _ _ _ _ _ _ _ _ _ _ _ _ hK'
    · have q := fun i hi => wh_ne (n := 2) z (j := i) hi (by decide)
      rw [if_neg (show ¬ y = 0 from q 0 (by decide)), if_neg (show ¬ y = 1 from q 1 (by decide)), if_neg (show ¬ y = 2 from q 2 (by decide))] at h
      exact h _ _ _ _ _ _ _ _ _ _ _ _ _ _ _ _ _ _ _ _ _ _ _ hK'
theorem sq7_never {Φ : PSv} (hQ : PQ9 m.1 pst pce pgi pln be co to gc le gr ac sq tg fr mi en cl cd) (hO : MO9 m) (hc : CLs m.1 m.2.1 m.2.2.1 st tw) (hK : K sf sn so2 sb sp lp lk lr) (hKK : KOK K m.1 pg) (h : CVq K (f_never m) Φ) : wl_X7_never st tw pst pce pgi pln be co to gc le gr ac tg fr mi en cd cl pg wp ww ws wn wa wb wst wtw wwo wce wke wsk sf sn so2 sb sp sv lp lu lt lk lr Φ := by
  have h16 : nL m.1 ≤ 16 := hQ.2.2.1
  have eln : pln = nI (nL m.1) := hQ.2.2.2.2.2.2.1
  unfold wl_X7_never
  unfold f_never at h
  refine sq7_surveyed hQ hO hc hK hKK (fun q => ?_) (fun hn ha wp ww ws wn wa wb wst wtw wwo wce wke wsk sn so2 sb sp sv lp lu lt lk lr hK' hS => ⟨fun _ => ?_, fun z => absurd z (by decide)⟩)
  · intro wp ww ws wn wa wb wst wtw wwo wce wke wsk sf sn so2 sb sp sv lp lu lt lk lr hK'
    rw [if_neg q] at h
    exact ⟨fun z => absurd rfl z, fun _ => h _ _ _ _ _ _ _ _ _ _ _ _ _ _ _ _ _ _ _ _ _ _ _ hK'⟩
  · rw [if_pos ⟨hn, ha⟩] at h
    obtain ⟨hsv, _⟩ := hS.2 (hS.1.mpr ha)
    have hg := fun l => (sv_gone (g := m.1) (inN m.1) l).1
    generalize hsf : (svF (sgN 1000 m.1) (inN m.1)).1 = ofn at h hg
    have hv : ∀ l, l < nL m.1 → so2 l = nI (ofn l) := fun l hl => by rw [← hsf]; exact (hsv.1 l hl).1
    have key : ∀ (f l : Nat), l ≤ nL m.1 → ll_X7_never_13 st tw pst pce pgi pln be co to gc le gr ac tg fr mi en cd cl pg Φ f wp ww ws wn wa wb wst wtw wwo wce wke wsk (some pg) sn so2 sb sp sv lp lu lt lk lr (nvG ofn l) (nI l) := by
      intro f
      induction f with
      | zero => intros; trivial
      | succ f ih =>
        intro l hl
        show bl_X7_never_13 _ _ _ _ _ _ _ _ _ _ _ _ _ _ _ _ _ _ _ _ _ _ _ _ _ _ _ _ _ _ _ _ _ _ _ _ _ _ _ _ _ _ _ _ _ _ _
        unfold bl_X7_never_13
        rw [eln, nI_leI (by omega) (by omega), ← eln, nI_clamp (n := l) (by omega), nI_1]
        refine ⟨fun z => ?_, fun z _ => ?_⟩
        · have e : l = nL m.1 := by omega
          subst e
          exact h _ _ _ _ _ _ _ _ _ _ _ _ _ _ _ _ _ _ _ _ _ _ _ hK'
        · have hl1 : l < nL m.1 := by omega
          have hgl := hg l
          have q0 : nI (ofn l) = 0 ↔ ofn l = 0 := nI_eq (b := 0) (by omega) (by decide)
          have es : nvG ofn (l + 1) = if ofn l = 0 then nvG ofn l ||| ((1 : Int32) <<< (nI l &&& 31)) else nvG ofn l := rfl
          have nx := ih (l + 1) (by omega)
          rw [hv l hl1, q0]
          refine ⟨fun y => ?_, fun y => ?_⟩
          · rw [es, if_neg y] at nx; exact nx
          · rw [es, if_pos y] at nx; exact nx
    exact fun f => key f 0 (Nat.zero_le _)
theorem sq7_canLast {x : Int32} {Φ : PSv} (hQ : PQ9 m.1 pst pce pgi pln be co to gc le gr ac sq tg fr mi en cl cd) (hO : MO9 m) (hc : CLs m.1 m.2.1 m.2.2.1 st tw) (hK : K sf sn so2 sb sp lp lk lr) (hKK : KOK K m.1 pg)
    (h0 : lsO m.1 x = none → CVq K 0 Φ)
    (h1 : ∀ r, lsO m.1 x = some r → x = nI r → r ≤ 64 → 0 < nL m.1 → leG m.1 (pkG m.1) (nL m.1) r < 1000000 → ∀ wp ww ws wn wa wb wst wtw wwo wce wke wsk sn so2 sb sp sv lp lu lt lk lr, K (some pg) sn so2 sb sp lp lk lr → lp = pg → AGn (nL m.1) (pkG m.1) lk → TB9 m.1 (pkG m.1) lr 0 → Φ 1 wp ww ws wn wa wb wst wtw wwo wce wke wsk (some pg) sn so2 sb sp sv lp lu lt lk lr) : wl_X7_canLast st tw pst pce pgi pln be co to gc le gr ac tg fr mi en cd cl pg x wp ww ws wn wa wb wst wtw wwo wce wke wsk sf sn so2 sb sp sv lp lu lt lk lr Φ := by
  unfold wl_X7_canLast
  refine ⟨fun z => h0 ?_ _ _ _ _ _ _ _ _ _ _ _ _ _ _ _ _ _ _ _ _ _ _ _ hK, fun z => ⟨fun z2 => h0 ?_ _ _ _ _ _ _ _ _ _ _ _ _ _ _ _ _ _ _ _ _ _ _ _ hK, fun z2 => ?_⟩⟩
  · unfold lsO
    cases e : ixO x 65 with
    | none => rfl
    | some r =>
      obtain ⟨h65, ex⟩ := ixO_some (by decide) e
      rw [ex] at z
      have : r < 1 := (nI_ltI (b := 1) (by omega) (by decide)).mp z
      exact if_neg (fun q => q.1 (by omega))
  · unfold lsO
    cases e : ixO x 65 with
    | none => rfl
    | some r =>
      obtain ⟨h65, ex⟩ := ixO_some (by decide) e
      rw [ex] at z2
      have : 64 < r := (nI_ltI (a := 64) (by decide) (by omega)).mp z2
      omega
  · obtain ⟨r, hr, ex⟩ := nI_of2 (M := 64) (n := 64) (by decide) (fun q3 => z (Int32.lt_of_lt_of_le q3 (by decide))) (Int32.not_lt.mp z2)
    have r0 : ¬ r = 0 := fun e => by rw [ex, e] at z; exact z (by decide)
    have e65 : ixO x 65 = some r := by rw [ex]; exact ixO_nI (by decide) (by omega)
    have el : lsO m.1 x = if ¬ r = 0 ∧ 0 < nL m.1 ∧ alG m.1 (inN m.1) = true ∧ leG m.1 (pkG m.1) (nL m.1) r < 1000000 then some r else none := by unfold lsO; rw [e65]
    refine sq7_surveyed hQ hO hc hK hKK (fun q => ?_) (fun hn ha wp ww ws wn wa wb wst wtw wwo wce wke wsk sn so2 sb sp sv lp lu lt lk lr hK' hS => ⟨fun z => absurd z (by decide), fun _ => ?_⟩)
    · intro wp ww ws wn wa wb wst wtw wwo wce wke wsk sf sn so2 sb sp sv lp lu lt lk lr hK'
      rw [if_neg (fun p => q ⟨p.2.1, p.2.2.1⟩)] at el
      exact ⟨fun _ => h0 el _ _ _ _ _ _ _ _ _ _ _ _ _ _ _ _ _ _ _ _ _ _ _ hK', fun z => absurd rfl z⟩
    · obtain ⟨_, hlp, hlk, htb⟩ := hS.2 (hS.1.mpr ha)
      rw [ex]
      refine sq0_leastCost hO.1 htb hr ?_
      by_cases hb : leG m.1 (pkG m.1) (nL m.1) r < 1000000
      · rw [if_pos ⟨r0, hn, ha, hb⟩] at el
        rw [if_pos hb]
        refine ⟨fun q => ?_, fun _ => h1 r el ex hr hn hb _ _ _ _ _ _ _ _ _ _ _ _ _ _ _ _ _ _ _ _ _ _ hK' hlp hlk htb⟩
        have h1' : (nI (leG m.1 (pkG m.1) (nL m.1) r)).toInt = (leG m.1 (pkG m.1) (nL m.1) r : Int) := nI_toInt (by omega)
        rw [q] at h1'
        have : ((-1 : Int32)).toInt = -1 := rfl
        omega
      · rw [if_neg (fun p => hb p.2.2.2)] at el
        rw [if_neg hb]
        exact ⟨fun _ => h0 el _ _ _ _ _ _ _ _ _ _ _ _ _ _ _ _ _ _ _ _ _ _ _ hK', fun q => absurd rfl q⟩
theorem sq7_lasting {x : Int32} {Φ : PSv} (hQ : PQ9 m.1 pst pce pgi pln be co to gc le gr ac sq tg fr mi en cl cd) (hO : MO9 m) (hc : CLs m.1 m.2.1 m.2.2.1 st tw) (hK : K sf sn so2 sb sp lp lk lr) (hKK : KOK K m.1 pg) (h : CVq K (f_lasting m x) Φ) : wl_X7_lasting st tw pst pce pgi pln be co to gc le gr ac tg fr mi en cd cl pg x wp ww ws wn wa wb wst wtw wwo wce wke wsk sf sn so2 sb sp sv lp lu lt lk lr Φ := by
  unfold wl_X7_lasting
  unfold f_lasting at h
  refine sq7_canLast hQ hO hc hK hKK (fun e => ?_) (fun r e ex hr hn hb wp ww ws wn wa wb wst wtw wwo wce wke wsk sn so2 sb sp sv lp lu lt lk lr hK' hlp hlk htb => ⟨fun z => absurd z (by decide), fun _ => ?_⟩)
  · intro wp ww ws wn wa wb wst wtw wwo wce wke wsk sf sn so2 sb sp sv lp lu lt lk lr hK'
    rw [e] at h
    exact ⟨fun _ => h _ _ _ _ _ _ _ _ _ _ _ _ _ _ _ _ _ _ _ _ _ _ _ hK', fun z => absurd rfl z⟩
  · rw [e] at h
    rw [ex]
    refine sq0_leastCost hO.1 htb hr ?_
    rw [if_pos hb]
    exact h _ _ _ _ _ _ _ _ _ _ _ _ _ _ _ _ _ _ _ _ _ _ _ hK'
theorem sq7_lasts {x y z : Int32} {Φ : PSv} (hQ : PQ9 m.1 pst pce pgi pln be co to gc le gr ac sq tg fr mi en cl cd) (hO : MO9 m) (hc : CLs m.1 m.2.1 m.2.2.1 st tw) (hK : K sf sn so2 sb sp lp lk lr) (hKK : KOK K m.1 pg) (h : CVq K (f_lasts m x y z) Φ) : wl_X7_lasts st tw pst pce pgi pln be co to gc le gr ac tg fr mi en cd cl pg x y z wp ww ws wn wa wb wst wtw wwo wce wke wsk sf sn so2 sb sp sv lp lu lt lk lr Φ := by
  have h16 : nL m.1 ≤ 16 := hQ.2.2.1
  have eln : pln = nI (nL m.1) := hQ.2.2.2.2.2.2.1
  have est : pst = nI (nS m.1) := hQ.2.2.2.1
  have hS : SA9 m.1.1 be co := hQ.2.2.2.2.2.2.2.1
  unfold wl_X7_lasts
  unfold f_lasts at h
  refine sq7_canLast hQ hO hc hK hKK (fun e => ?_) (fun r e ex hr hn hb wp ww ws wn wa wb wst wtw wwo wce wke wsk sn so2 sb sp sv lp lu lt lk lr hK' hlp hlk htb => ⟨fun z => absurd z (by decide), fun _ => ?_⟩)
  · intro wp ww ws wn wa wb wst wtw wwo wce wke wsk sf sn so2 sb sp sv lp lu lt lk lr hK'
    rw [e] at h
    exact ⟨fun _ => h _ _ _ _ _ _ _ _ _ _ _ _ _ _ _ _ _ _ _ _ _ _ _ hK', fun z => absurd rfl z⟩
  · rw [e] at h
    rw [eln]
    refine sq7_wi (by omega) (fun e2 => ⟨fun z => absurd rfl z, fun _ => by rw [e2] at h; exact h _ _ _ _ _ _ _ _ _ _ _ _ _ _ _ _ _ _ _ _ _ _ _ hK'⟩) (fun l hl ey e2 => ⟨fun _ elp => ?_, fun z => absurd z (by decide)⟩)
    rw [e2] at h
    have h : CVq K (if z = 0 then (amI (lsG m.1 (pkG m.1) r l).2).1 else if z = 1 then (amI (lsG m.1 (pkG m.1) r l).2).2 else -1) Φ := h
    rw [ex, ey, est]
    subst hlp
    refine sq0_choose hS hO.1 hlk htb hr hl hb ⟨fun q => ?_, fun q => ?_, fun q q2 => ?_⟩
    · rw [if_pos q] at h; exact h _ _ _ _ _ _ _ _ _ _ _ _ _ _ _ _ _ _ _ _ _ _ _ hK'
    · rw [if_neg (by rw [q]; decide), if_pos q] at h; exact h _ _ _ _ _ _ _ _ _ _ _ _ _ _ _ _ _ _ _ _ _ _ _ hK'
    · rw [if_neg q, if_neg q2] at h; exact h _ _ _ _ _ _ _ _ _ _ _ _ _ _ _ _ _ _ _ _ _ _ _ hK'
end SC
