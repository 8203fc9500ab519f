theorem cnt_le {r : Int32} {i : Nat} (hi : i < 2 ^ 31) (h : r.toNatClampNeg ≤ i) : r ≤ nI i := by
  by_cases z : r < 0
  · exact Int32.le_of_lt (Int32.lt_of_lt_of_le z (nI_pos' hi))
  · obtain ⟨j, hj, e⟩ := nI_of z
    rw [e] at h ⊢
    rw [nI_clamp hj] at h
    exact nI_le h hi
theorem cnt_lt (r : Int32) : r.toNatClampNeg < 2 ^ 31 := Int32.toNatClampNeg_lt r
/-- the counts of the hand -/
def HC (a b : Int32) : Prop := ∃ s u : Nat, a = nI s ∧ b = nI u ∧ u ≤ s ∧ s ≤ 1000000
theorem HC.zero : HC 0 0 := ⟨0, 0, rfl, rfl, Nat.le_refl _, by decide⟩
section F1
variable {s e g l cl pg : Nat} {hst htw hwo hce hke hsk be co to_ gc le gr ac tg fr mi en cd : Nat → Int32} {hw : Int32}
theorem sp_X7_stuff {x y : Int32} {Φ : Int32 → Prop} (hs : s ≤ 4) (h : ∀ r, Φ r) : wp_X7_stuff (nI s) be co x y Φ := by
  unfold wp_X7_stuff
  exact sp_X7_within ⟨fun z => absurd rfl z, fun _ => h _⟩ (fun a b => ⟨fun _ => ⟨fun _ => ⟨inO hs (by decide) a b, h _⟩, fun _ => ⟨inO hs (by decide) a b, h _⟩, fun _ _ => h _⟩, fun z => absurd z (by decide)⟩)
theorem sp_X7_line {x y : Int32} {Φ : Int32 → Prop} (hl : l ≤ 16) (hs : AS hst) (h : ∀ r, Φ r) : wp_X7_line hst htw hwo (nI l) be ac x y Φ := by
  unfold wp_X7_line
  exact sp_X7_within ⟨fun z => absurd rfl z, fun _ => h _⟩ (fun a b => ⟨fun _ => ⟨fun _ => ⟨inO hl (by decide) a b, h _⟩, fun _ => ⟨inO hl (by decide) a b, h _⟩, fun _ => ⟨inO hl (by decide) a b, h _⟩, fun _ => sp_X1_bearing (inO hl (by decide) a b) hs h, fun _ => ⟨inO hl (by decide) a b, h _⟩, fun _ => h _⟩, fun z => absurd z (by decide)⟩)
theorem sp_X7_lay {x y z : Int32} {Φ : Int32 → (Nat → Int32) → (Nat → Int32) → (Nat → Int32) → Prop} (hs4 : s ≤ 4) (hl : l ≤ 16) (hs : AS hst) (h : ∀ r st' tw' wo', AS st' → Φ r st' tw' wo') : wp_X7_lay (nI s) (nI l) x y z hst htw hwo Φ := by
  unfold wp_X7_lay
  have o := h 0 hst htw hwo hs
  refine sp_X7_within ⟨fun _ => o, fun z => absurd rfl z⟩ (fun a b => ⟨fun _ => o, fun _ => sp_X7_within ⟨fun _ => o, fun z => absurd rfl z⟩ (fun a2 b2 => ⟨fun _ => o, fun _ => ⟨fun _ => o, fun _ => ⟨fun _ => ?_, fun _ => o⟩⟩⟩)⟩)
  have i := inO hl (by decide) a b
  exact ⟨i, i, i, h _ _ _ _ (hs.up (inO hs4 (by decide) a2 b2))⟩
theorem sp_X7_cost {Φ : Int32 → Prop} (hl : l ≤ 16) (hs : AS hst) (h : ∀ r, Φ r) : wp_X7_cost hst htw (nI l) co Φ := by
  have key : ∀ (m i : Nat) (x : Int32), m = l - i → i ≤ l → lf_X7_cost_4 hst htw (nI l) co Φ (m + 1) x (nI i) := by
    intro m
    induction m with
    | zero =>
      intro i x hm hi
      show lb_X7_cost_4 _ _ _ _ _ _ _ _
      unfold lb_X7_cost_4
      exact ⟨fun _ => h _, fun z => absurd (nI_le (by omega) (by omega)) z⟩
    | succ m ih =>
      intro i x hm hi
      show lb_X7_cost_4 _ _ _ _ _ _ _ _
      unfold lb_X7_cost_4
      rw [nI_1]
      have ii : vp_in (nI i) 16 := pk_in i 16 (by omega)
      exact ⟨fun _ => h _, fun _ => ⟨ii, hs _ (vp_lt ii), ii, ih (i + 1) _ (by omega) (by omega)⟩⟩
  exact ⟨l - 0 + 1, key (l - 0) 0 0 rfl (by omega)⟩
theorem sp_X7_inputs {Φ : Int32 → Prop} (hg : g ≤ 2) (h : ∀ r, Φ r) : wp_X7_inputs (nI g) le gr Φ := sp_X2_inputCount hg h
theorem sp_X7_input {x y : Int32} {Φ : Int32 → Prop} (he : e ≤ 6) (hg : g ≤ 2) (h : ∀ r, Φ r) : wp_X7_input (nI e) (nI g) to_ gc le gr x y Φ := by
  unfold wp_X7_input
  exact sp_X2_inputCount hg (fun r => sp_X7_within ⟨fun _ => h _, fun z => absurd rfl z⟩ (fun _ _ => ⟨fun _ => h _, fun _ => sp_X7_within ⟨fun z => absurd rfl z, fun _ => h _⟩ (fun a b => ⟨fun _ => sp_X2_atFirst hg (inO he (by decide) a b) h, fun z => absurd z (by decide)⟩)⟩))
theorem sp_X7_begin {x s0 n a b : Int32} {Φ : Int32 → Int32 → Int32 → Int32 → Int32 → (Nat → Int32) → Prop} (he : e ≤ 6) (hg : g ≤ 2) (hH : HC a b) (h : ∀ r s0' n' a' b' ce', HC a' b' → Φ r s0' n' a' b' ce') : wp_X7_begin (nI e) (nI g) (nI l) to_ gc le gr x s0 n a b hce Φ := by
  unfold wp_X7_begin
  exact sp_X7_canWalk hg ⟨fun z => absurd rfl z, fun _ => h _ _ _ _ _ _ hH⟩ ⟨fun _ => sp_X1_start he hg (fun ce' => h _ _ _ _ _ _ HC.zero), fun z => absurd z (by decide)⟩
theorem sp_X7_run {x s0 n a b : Int32} {Φ : PSq} (hP : PJ e g l cl tg cd) (hs : AS hst) (hH : HC a b) (h : ∀ r s0' n' a' b' wo' ce' ke' sk', HC a' b' → Φ r s0' n' a' b' wo' ce' ke' sk') : wp_X7_run hw hst htw (nI l) be ac tg fr mi en cd cl x s0 n a b hwo hce hke hsk Φ := by
  unfold wp_X7_run
  have o := fun r => h r s0 n a b hwo hce hke hsk hH
  refine ⟨fun _ => o _, fun x0 => ⟨fun x1 => ?_, fun _ => o _⟩⟩
  obtain ⟨j, hj, ej⟩ := nI_of2 (M := 1000000) (n := 1000000) (by decide) x0 x1
  obtain ⟨s, u, ea, eb, hu, hs1⟩ := hH
  have em : (1000000 : Int32) - nI s = nI (1000000 - s) := pk_sub (a := 1000000) hs1
  rw [ej, ea, eb, em, if_min (by omega) hj]
  refine sp_X1_go (hP.mj (by decide) hs) (by omega) (by omega) (fun r s1 x1 s2 u2 wo2 ce2 ke2 sk2 h1 h2 h3 h4 => ?_)
  have hH2 : HC (nI s2) (nI u2) := ⟨s2, u2, rfl, rfl, by omega, by omega⟩
  exact ⟨fun _ => h _ _ _ _ _ _ _ _ _ hH2, fun _ => ⟨fun _ => h _ _ _ _ _ _ _ _ _ hH2, fun _ => h _ _ _ _ _ _ _ _ _ hH2⟩⟩
theorem sp_X7_state {x s0 n a b : Int32} {Φ : Int32 → Prop} (h : ∀ r, Φ r) : wp_X7_state s0 n a b x Φ := ⟨fun _ => h _, fun _ => ⟨fun _ => h _, fun _ => ⟨fun _ => h _, fun _ => h _⟩⟩, fun _ => h _, fun _ => h _, fun _ => h _⟩
theorem sp_X7_fresh {Φ : Int32 → (Nat → Int32) → Prop} (h : ∀ wo', Φ 1 wo') : wp_X7_fresh hwo Φ := sp_fill (by decide) (fun a => h a)
theorem sp_X7_count {x a b c d f : Int32} {Φ : Int32 → Prop} (h : ∀ r, Φ r) : wp_X7_count a b c d f x Φ := ⟨fun _ => h _, fun _ => h _, fun _ => h _, fun _ => h _, fun _ => h _, fun _ => h _⟩
abbrev PW1 : Type := Int32 → PWq
def AW (Φ : PW1) : Prop := ∀ (r : Int32) (wp : Nat) (ww ws wn wa wb : Int32) (wst wtw wwo wce wke wsk : Nat → Int32), Φ r wp ww ws wn wa wb wst wtw wwo wce wke wsk
theorem sp_X7_steps {x : Int32} {wp : Nat} {ww ws wn wa wb : Int32} {wst wtw wwo wce wke wsk : Nat → Int32} {Φ : PW1} (hP : PJ e g l cl tg cd) (hs : AS hst) (h : AW Φ) : wp_X7_steps hst htw (nI e) (nI g) (nI l) be to_ gc le gr ac tg fr mi en cd cl pg x wp ww ws wn wa wb wst wtw wwo wce wke wsk Φ := by
  unfold wp_X7_steps
  exact sp_X7_canWalk hP.2.1 ⟨fun z => absurd rfl z, fun _ => h _ _ _ _ _ _ _ _ _ _ _ _ _⟩ ⟨fun _ => sp_X7_walk hP (by decide) hs (fun _ _ _ _ _ _ _ _ _ _ => sp_X1_isEndless ⟨fun _ => h _ _ _ _ _ _ _ _ _ _ _ _ _, fun _ => h _ _ _ _ _ _ _ _ _ _ _ _ _⟩ ⟨fun _ => h _ _ _ _ _ _ _ _ _ _ _ _ _, fun _ => h _ _ _ _ _ _ _ _ _ _ _ _ _⟩), fun z => absurd z (by decide)⟩
theorem sp_X7_falls {x : Int32} {wp : Nat} {ww ws wn wa wb : Int32} {wst wtw wwo wce wke wsk : Nat → Int32} {Φ : PW1} (hP : PJ e g l cl tg cd) (hs : AS hst) (h : AW Φ) : wp_X7_falls hst htw (nI e) (nI g) (nI l) be to_ gc le gr ac tg fr mi en cd cl pg x wp ww ws wn wa wb wst wtw wwo wce wke wsk Φ := by
  unfold wp_X7_falls
  exact sp_X7_canWalk hP.2.1 ⟨fun z => absurd rfl z, fun _ => h _ _ _ _ _ _ _ _ _ _ _ _ _⟩ ⟨fun _ => sp_X7_walk hP (by decide) hs (fun _ _ _ _ _ _ _ _ _ _ => ⟨fun _ => h _ _ _ _ _ _ _ _ _ _ _ _ _, fun _ => h _ _ _ _ _ _ _ _ _ _ _ _ _⟩), fun z => absurd z (by decide)⟩
theorem sp_X7_firstToFall {wp : Nat} {ww ws wn wa wb : Int32} {wst wtw wwo wce wke wsk : Nat → Int32} {Φ : PW1} (hP : PJ e g l cl tg cd) (hs : AS hst) (h : AW Φ) : wp_X7_firstToFall hst htw (nI e) (nI g) (nI l) be to_ gc le gr ac tg fr mi en cd cl pg wp ww ws wn wa wb wst wtw wwo wce wke wsk Φ := by
  unfold wp_X7_firstToFall
  refine ⟨fun _ => sp_X2_inputCount hP.2.1 (fun r => ⟨r.toNatClampNeg - 0 + 1, ?_⟩), fun _ => h _ _ _ _ _ _ _ _ _ _ _ _ _⟩
  have key : ∀ (m i : Nat) (wp : Nat) (ww ws wn wa wb : Int32) (wst wtw wwo wce wke wsk : Nat → Int32) (x y : Int32), m = r.toNatClampNeg - i → i ≤ r.toNatClampNeg → lf_X7_firstToFall_33 hst htw (nI e) (nI g) (nI l) be to_ gc le gr ac tg fr mi en cd cl pg Φ (m + 1) wp ww ws wn wa wb wst wtw wwo wce wke wsk x y r (nI i) := by
    have hr := cnt_lt r
    intro m
    induction m with
    | zero =>
      intro i wp ww ws wn wa wb wst wtw wwo wce wke wsk x y hm hi
      show lb_X7_firstToFall_33 _ _ _ _ _ _ _ _ _ _ _ _ _ _ _ _ _ _ _ _ _ _ _ _ _ _ _ _ _ _ _ _ _ _ _ _
      unfold lb_X7_firstToFall_33
      exact ⟨fun _ => h _ _ _ _ _ _ _ _ _ _ _ _ _, fun z => absurd (cnt_le (by omega) (by omega)) z⟩
    | succ m ih =>
      intro i wp ww ws wn wa wb wst wtw wwo wce wke wsk x y hm hi
      show lb_X7_firstToFall_33 _ _ _ _ _ _ _ _ _ _ _ _ _ _ _ _ _ _ _ _ _ _ _ _ _ _ _ _ _ _ _ _ _ _ _ _
      unfold lb_X7_firstToFall_33
      rw [nI_1]
      exact ⟨fun _ => h _ _ _ _ _ _ _ _ _ _ _ _ _, fun _ => sp_X7_walk hP (by decide) hs (fun _ _ _ _ _ _ _ _ _ _ => ⟨fun _ => ih (i + 1) _ _ _ _ _ _ _ _ _ _ _ _ _ _ (by omega) (by omega), fun _ => ⟨fun _ => ih (i + 1) _ _ _ _ _ _ _ _ _ _ _ _ _ _ (by omega) (by omega), fun _ => ⟨fun _ => ih (i + 1) _ _ _ _ _ _ _ _ _ _ _ _ _ _ (by omega) (by omega), fun _ => ih (i + 1) _ _ _ _ _ _ _ _ _ _ _ _ _ _ (by omega) (by omega)⟩⟩⟩)⟩
  exact key (r.toNatClampNeg - 0) 0 _ _ _ _ _ _ _ _ _ _ _ _ _ _ rfl (by omega)
theorem sp_X7_first {x : Int32} {wp : Nat} {ww ws wn wa wb : Int32} {wst wtw wwo wce wke wsk : Nat → Int32} {Φ : PW1} (hP : PJ e g l cl tg cd) (hs : AS hst) (h : AW Φ) : wp_X7_first hst htw (nI e) (nI g) (nI l) be to_ gc le gr ac tg fr mi en cd cl pg x wp ww ws wn wa wb wst wtw wwo wce wke wsk Φ := by
  unfold wp_X7_first
  exact sp_X7_firstToFall hP hs (fun r _ _ _ _ _ _ _ _ _ _ _ _ => ⟨fun _ => sp_X7_walk hP (by decide) hs (fun _ _ _ _ _ _ _ _ _ _ => ⟨fun _ => h _ _ _ _ _ _ _ _ _ _ _ _ _, fun _ => h _ _ _ _ _ _ _ _ _ _ _ _ _, fun _ => h _ _ _ _ _ _ _ _ _ _ _ _ _, fun _ => h _ _ _ _ _ _ _ _ _ _ _ _ _⟩), fun _ => h _ _ _ _ _ _ _ _ _ _ _ _ _⟩)
theorem sp_X7_rounds {x : Int32} {wp : Nat} {ww ws wn wa wb : Int32} {wst wtw wwo wce wke wsk : Nat → Int32} {Φ : PW1} (hP : PJ e g l cl tg cd) (hs : AS hst) (h : AW Φ) : wp_X7_rounds hst htw (nI e) (nI g) (nI l) be to_ gc le gr ac tg fr mi en cd cl pg x wp ww ws wn wa wb wst wtw wwo wce wke wsk Φ := by
  unfold wp_X7_rounds
  refine sp_X7_canWalk hP.2.1 ⟨fun z => absurd rfl z, fun _ => h _ _ _ _ _ _ _ _ _ _ _ _ _⟩ ⟨fun _ => sp_X1_layLike hs (fun st' tw' wo' hs' => ⟨100 - 0 + 1, ?_⟩), fun z => absurd z (by decide)⟩
  have key : ∀ (m i : Nat) (ww ws wn wa wb : Int32) (wtw wwo wce wke wsk : Nat → Int32), m = 100 - i → i ≤ 100 → lf_X7_rounds_31 hst htw (nI e) (nI g) (nI l) be to_ gc le gr ac tg fr mi en cd cl pg x Φ (m + 1) pg ww ws wn wa wb st' wtw wwo wce wke wsk (nI i) := by
    intro m
    induction m with
    | zero =>
      intro i ww ws wn wa wb wtw wwo wce wke wsk hm hi
      have ei : i = 100 := by omega
      subst ei
      show lb_X7_rounds_31 _ _ _ _ _ _ _ _ _ _ _ _ _ _ _ _ _ _ _ _ _ _ _ _ _ _ _ _ _ _ _ _ _ _
      unfold lb_X7_rounds_31
      exact ⟨fun _ => h _ _ _ _ _ _ _ _ _ _ _ _ _, fun z => absurd (by decide) z⟩
    | succ m ih =>
      intro i ww ws wn wa wb wtw wwo wce wke wsk hm hi
      show lb_X7_rounds_31 _ _ _ _ _ _ _ _ _ _ _ _ _ _ _ _ _ _ _ _ _ _ _ _ _ _ _ _ _ _ _ _ _ _
      unfold lb_X7_rounds_31
      rw [nI_1]
      refine ⟨fun _ => h _ _ _ _ _ _ _ _ _ _ _ _ _, fun _ => ⟨rfl, sp_X1_start hP.1 hP.2.1 (fun ce' => ?_)⟩⟩
      refine sp_X1_go (M := 1000) (s := 0) (u := 0) (hP.mj (by decide) hs') (by decide) (by decide) (fun r s1 x1 s2 u2 wo2 ce2 ke2 sk2 _ _ _ _ => ?_)
      exact ⟨fun _ => ih (i + 1) _ _ _ _ _ _ _ _ _ _ (by omega) (by omega), fun _ => h _ _ _ _ _ _ _ _ _ _ _ _ _⟩
  exact key (100 - 0) 0 _ _ _ _ _ _ _ _ _ _ rfl (by omega)
theorem sp_X7_stepsIfMended {j : Nat} {s0 n a b : Int32} {wp : Nat} {ww ws wn wa wb : Int32} {wst wtw wwo wce wke wsk : Nat → Int32} {Φ : PW1} (hj : j < 16) (hP : PJ e g l cl tg cd) (hs : AS hst) (hH : HC a b) (h : AW Φ) : wp_X7_stepsIfMended hw s0 n a b hst htw hwo hce hke (nI l) be ac tg fr mi en cd cl pg (nI j) wp ww ws wn wa wb wst wtw wwo wce wke wsk Φ := by
  unfold wp_X7_stepsIfMended
  obtain ⟨s, u, ea, eb, hu, hs1⟩ := hH
  have em : (1000000 : Int32) - nI s = nI (1000000 - s) := pk_sub (a := 1000000) hs1
  rw [ea, eb, em, show (1000 : Int32) = nI 1000 from rfl, if_min (by omega) (by omega)]
  refine sp_X1_copy hs (by decide) (by decide) (fun st' tw' wo' ce' ke' hs' => ⟨pk_in j 16 hj, rfl, ?_⟩)
  exact sp_X1_go (hP.mj (by decide) hs') (by omega) (by omega) (fun r s1 x1 s2 u2 wo2 ce2 ke2 sk2 _ _ _ _ => h _ _ _ _ _ _ _ _ _ _ _ _ _)
theorem sp_X7_better {x s0 n a b : Int32} {wp : Nat} {ww ws wn wa wb : Int32} {wst wtw wwo wce wke wsk : Nat → Int32} {Φ : PW1} (hP : PJ e g l cl tg cd) (hs : AS hst) (hH : HC a b) (h : AW Φ) : wp_X7_better hw s0 n a b hst htw hwo hce hke (nI l) be ac tg fr mi en cd cl pg x wp ww ws wn wa wb wst wtw wwo wce wke wsk Φ := by
  unfold wp_X7_better
  have hl := hP.2.2.1
  have key : ∀ (m i : Nat) (wp : Nat) (ww ws wn wa wb : Int32) (wst wtw wwo wce wke wsk : Nat → Int32) (y z : Int32), m = l - i → i ≤ l → lf_X7_better_31 hw s0 n a b hst htw hwo hce hke (nI l) be ac tg fr mi en cd cl pg x Φ (m + 1) wp ww ws wn wa wb wst wtw wwo wce wke wsk y z (nI i) := by
    intro m
    induction m with
    | zero =>
      intro i wp ww ws wn wa wb wst wtw wwo wce wke wsk y z hm hi
      show lb_X7_better_31 _ _ _ _ _ _ _ _ _ _ _ _ _ _ _ _ _ _ _ _ _ _ _ _ _ _ _ _ _ _ _ _ _ _ _ _ _ _
      unfold lb_X7_better_31
      exact ⟨fun _ => ⟨fun _ => h _ _ _ _ _ _ _ _ _ _ _ _ _, fun _ => h _ _ _ _ _ _ _ _ _ _ _ _ _, fun _ _ => h _ _ _ _ _ _ _ _ _ _ _ _ _⟩, fun z => absurd (nI_le (by omega) (by omega)) z⟩
    | succ m ih =>
      intro i wp ww ws wn wa wb wst wtw wwo wce wke wsk y z hm hi
      show lb_X7_better_31 _ _ _ _ _ _ _ _ _ _ _ _ _ _ _ _ _ _ _ _ _ _ _ _ _ _ _ _ _ _ _ _ _ _ _ _ _ _
      unfold lb_X7_better_31
      rw [nI_1]
      exact ⟨fun _ => ⟨fun _ => h _ _ _ _ _ _ _ _ _ _ _ _ _, fun _ => h _ _ _ _ _ _ _ _ _ _ _ _ _, fun _ _ => h _ _ _ _ _ _ _ _ _ _ _ _ _⟩, fun _ => sp_X7_stepsIfMended (by omega) hP hs hH (fun r wp ww ws wn wa wb wst wtw wwo wce wke wsk => ⟨fun _ => ih (i + 1) _ _ _ _ _ _ _ _ _ _ _ _ _ _ (by omega) (by omega), fun _ => ih (i + 1) _ _ _ _ _ _ _ _ _ _ _ _ _ _ (by omega) (by omega)⟩)⟩
  have go : ∃ n_, lf_X7_better_31 hw s0 n a b hst htw hwo hce hke (nI l) be ac tg fr mi en cd cl pg x Φ n_ wp ww ws wn wa wb wst wtw wwo wce wke wsk (-1) (-1) 0 := ⟨l - 0 + 1, key (l - 0) 0 _ _ _ _ _ _ _ _ _ _ _ _ _ _ rfl (by omega)⟩
  exact ⟨fun _ => go, fun _ => ⟨fun _ => go, fun _ => h _ _ _ _ _ _ _ _ _ _ _ _ _⟩⟩
abbrev PW2 : Type := Int32 → Nat → Int32 → Int32 → Int32 → Int32 → Int32 → (Nat → Int32) → (Nat → Int32) → (Nat → Int32) → (Nat → Int32) → (Nat → Int32) → (Nat → Int32) → PWq
def AW2 (Φ : PW2) : Prop := ∀ (r : Int32) (wp : Nat) (ww ws wn wa wb : Int32) (wst wtw wwo wce wke wsk : Nat → Int32) (gp : Nat) (gw gs gn ga gb : Int32) (gst gtw gwo gce gke gsk : Nat → Int32), Φ r wp ww ws wn wa wb wst wtw wwo wce wke wsk gp gw gs gn ga gb gst gtw gwo gce gke gsk
theorem sp_X7_apart {wp : Nat} {ww ws wn wa wb : Int32} {wst wtw wwo wce wke wsk : Nat → Int32} {gp : Nat} {gw gs gn ga gb : Int32} {gst gtw gwo gce gke gsk : Nat → Int32} {Φ : PW2} (hP : PJ e g l cl tg cd) (hs : AS hst) (h : AW2 Φ) : wp_X7_apart hst htw (nI e) (nI g) (nI l) be to_ gc le gr ac tg fr mi en cd cl pg wp ww ws wn wa wb wst wtw wwo wce wke wsk gp gw gs gn ga gb gst gtw gwo gce gke gsk Φ := by
  unfold wp_X7_apart
  refine ⟨fun _ => sp_X2_inputCount hP.2.1 (fun r => ⟨r.toNatClampNeg - 0 + 1, ?_⟩), fun _ => h _ _ _ _ _ _ _ _ _ _ _ _ _ _ _ _ _ _ _ _ _ _ _ _ _⟩
  have key : ∀ (m i : Nat) (wp : Nat) (ww ws wn wa wb : Int32) (wst wtw wwo wce wke wsk : Nat → Int32) (gp : Nat) (gw gs gn ga gb : Int32) (gst gtw gwo gce gke gsk : Nat → Int32), m = r.toNatClampNeg - i → i ≤ r.toNatClampNeg → lf_X7_apart_28 hst htw (nI e) (nI g) (nI l) be to_ gc le gr ac tg fr mi en cd cl pg Φ (m + 1) wp ww ws wn wa wb wst wtw wwo wce wke wsk gp gw gs gn ga gb gst gtw gwo gce gke gsk r (nI i) := by
    have hr := cnt_lt r
    intro m
    induction m with
    | zero =>
      intro i wp ww ws wn wa wb wst wtw wwo wce wke wsk gp gw gs gn ga gb gst gtw gwo gce gke gsk hm hi
      show lb_X7_apart_28 _ _ _ _ _ _ _ _ _ _ _ _ _ _ _ _ _ _ _ _ _ _ _ _ _ _ _ _ _ _ _ _ _ _ _ _ _ _ _ _ _ _ _ _ _ _
      unfold lb_X7_apart_28
      exact ⟨fun _ => h _ _ _ _ _ _ _ _ _ _ _ _ _ _ _ _ _ _ _ _ _ _ _ _ _, fun z => absurd (cnt_le (by omega) (by omega)) z⟩
    | succ m ih =>
      intro i wp ww ws wn wa wb wst wtw wwo wce wke wsk gp gw gs gn ga gb gst gtw gwo gce gke gsk hm hi
      show lb_X7_apart_28 _ _ _ _ _ _ _ _ _ _ _ _ _ _ _ _ _ _ _ _ _ _ _ _ _ _ _ _ _ _ _ _ _ _ _ _ _ _ _ _ _ _ _ _ _ _
      unfold lb_X7_apart_28
      rw [nI_1]
      exact ⟨fun _ => h _ _ _ _ _ _ _ _ _ _ _ _ _ _ _ _ _ _ _ _ _ _ _ _ _, fun _ => sp_X7_walk hP (by decide) hs (fun _ _ _ _ _ _ _ _ _ _ => sp_X7_walk hP (by decide) hs (fun _ _ _ _ _ _ _ _ _ _ => sp_X1_wroteLike (by decide) ⟨fun z => absurd rfl z, fun _ => h _ _ _ _ _ _ _ _ _ _ _ _ _ _ _ _ _ _ _ _ _ _ _ _ _⟩ ⟨fun _ => ih (i + 1) _ _ _ _ _ _ _ _ _ _ _ _ _ _ _ _ _ _ _ _ _ _ _ _ (by omega) (by omega), fun z => absurd z (by decide)⟩))⟩
  exact key (r.toNatClampNeg - 0) 0 _ _ _ _ _ _ _ _ _ _ _ _ _ _ _ _ _ _ _ _ _ _ _ _ rfl (by omega)
end F1
