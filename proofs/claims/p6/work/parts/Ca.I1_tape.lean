/-- a sign that may stand on the tape -/
def OKc (c : Nat) : Prop := c = 10 ∨ (32 ≤ c ∧ c ≤ 126)
/-- the row t holds the signs ts -/
def TL (ts : List Nat) (t : Nat → Int32) : Prop := ts.length ≤ 1000 ∧ (∀ c ∈ ts, OKc c) ∧ ∀ (i c : Nat), ts[i]? = some c → t i = nI c
theorem TL.nil {t : Nat → Int32} : TL [] t := ⟨Nat.zero_le _, fun c h => (by cases h), fun i c h => by simp at h⟩
theorem fok_n {x : Int32} (hx : fok x) : ∃ j : Nat, OKc j ∧ x = nI j := by
  have hp : ¬ x < 0 := by
    rcases hx with e | ⟨a, b⟩
    · rw [e]; decide
    · intro z
      apply a
      rw [Int32.lt_iff_toInt_lt] at z ⊢
      have e0 : (0 : Int32).toInt = 0 := rfl
      have e1 : (32 : Int32).toInt = 32 := rfl
      omega
  obtain ⟨j, hj, e⟩ := nI_of hp
  refine ⟨j, ?_, e⟩
  subst e
  rcases hx with e | ⟨a, b⟩
  · exact Or.inl ((nI_eq (b := 10) hj (by decide)).mp e)
  · exact Or.inr ⟨Nat.le_of_not_lt (fun z => a ((nI_ltI (b := 32) hj (by decide)).mpr z)), Nat.le_of_not_lt (fun z => b ((nI_ltI (a := 126) (by decide) hj).mpr z))⟩
theorem OKc.lt {c : Nat} (h : OKc c) : c < 127 := by rcases h with h | h <;> omega
theorem TL.push {ts : List Nat} {t : Nat → Int32} {x : Int32} (h : TL ts t) (hn : ts.length < 1000) (hx : fok x) : TL (ts ++ [x.toNatClampNeg]) (upd t ts.length x) := by
  obtain ⟨j, hj, e⟩ := fok_n hx
  have hl := hj.lt
  subst e
  rw [nI_clamp (by omega)]
  refine ⟨by rw [List.length_append]; exact hn, fun c hc => ?_, fun i c hi => ?_⟩
  · rcases List.mem_append.mp hc with hc | hc
    · exact h.2.1 c hc
    · rw [List.mem_singleton.mp hc]; exact hj
  · by_cases e : i = ts.length
    · subst e
      rw [List.getElem?_append_right (Nat.le_refl _), Nat.sub_self] at hi
      rw [pk_us]
      exact congrArg nI (Option.some.inj hi)
    · rw [pk_un e]
      by_cases hlt : i < ts.length
      · rw [List.getElem?_append_left hlt] at hi
        exact h.2.2 i c hi
      · rw [List.getElem?_append_right (by omega)] at hi
        have : i - ts.length = (i - ts.length - 1) + 1 := by omega
        rw [this] at hi
        simp at hi
theorem nar_char1 : ∀ j : Fin 127, vp_nar .char (((nI j.val).toUInt32 % 65536).toInt32) = nI j.val := by decide
theorem nar_char {x : Int32} (hx : fok x) : vp_nar .char ((x.toUInt32 % 65536).toInt32) = x := by
  obtain ⟨j, hj, e⟩ := fok_n hx
  subst e
  exact nar_char1 ⟨j, hj.lt⟩
section FT
variable (xa xb xc : Int64)
/-- what lies on the tape behind the turns k .. k + m of feed -/
def fts : Nat → Nat → List Nat → List Nat
  | 0, _, ts => ts
  | m + 1, k, ts => fts m (k + 1) (if ts.length < 1000 ∧ fok (fby xa xb xc k) then ts ++ [(fby xa xb xc k).toNatClampNeg] else ts)
theorem fts_len : ∀ m k ts, (fts xa xb xc m k ts).length = fcn xa xb xc m k ts.length := by
  intro m
  induction m with
  | zero => intro k ts; rfl
  | succ m ih =>
    intro k ts
    show (fts xa xb xc m (k + 1) _).length = fcn xa xb xc m (k + 1) _
    rw [ih]
    by_cases e : ts.length < 1000 ∧ fok (fby xa xb xc k)
    · rw [if_pos e, if_pos e, List.length_append]; rfl
    · rw [if_neg e, if_neg e]
theorem fts_add : ∀ a b k ts, fts xa xb xc (a + b) k ts = fts xa xb xc b (k + a) (fts xa xb xc a k ts) := by
  intro a
  induction a with
  | zero => intro b k ts; rw [Nat.zero_add]; rfl
  | succ a ih =>
    intro b k ts
    rw [show a + 1 + b = (a + b) + 1 by omega]
    show fts xa xb xc (a + b) (k + 1) _ = fts xa xb xc b (k + (a + 1)) (fts xa xb xc a (k + 1) _)
    rw [ih, show k + 1 + a = k + (a + 1) by omega]
end FT
theorem sq_X8_feed {xa xb xc : Int64} {ts : List Nat} {F : Int32} {t : Nat → Int32} {Φ : Int32 → Int32 → Int32 → (Nat → Int32) → Prop} (hT : TL ts t) (hΦ : ∀ t', TL (fts xa xb xc 24 0 ts) t' → Φ (nI (fts xa xb xc 24 0 ts).length) 0 (nI (fts xa xb xc 24 0 ts).length) t') : wp_X8_feed xa xb xc F (nI ts.length) t Φ := by
  have key : ∀ (m k : Nat) (ts : List Nat) (t : Nat → Int32), m = 24 - k → k ≤ 24 → TL ts t → (∀ t', TL (fts xa xb xc m k ts) t' → Φ (nI (fts xa xb xc m k ts).length) 0 (nI (fts xa xb xc m k ts).length) t') → lf_X8_feed_8 xa xb xc Φ (m + 1) 0 (nI ts.length) t (nI k) := by
    intro m
    induction m with
    | zero =>
      intro k ts t hm hk hT hΦ
      have e : k = 24 := by omega
      subst e
      exact ⟨fun _ => hΦ t hT, fun z => absurd (by decide) z⟩
    | succ m ih =>
      intro k ts t hm hk hT hΦ
      have hn := hT.1
      show lb_X8_feed_8 _ _ _ _ _ _ _ _ _
      unfold lb_X8_feed_8
      have hv : ∀ w : Int64, w = (if k < 8 then xa else if k < 16 then xb else xc) → kf_X8_feed_39 xa xb xc (lf_X8_feed_8 xa xb xc Φ (m + 1)) Φ 0 (nI ts.length) t (nI k) w := by
        intro w hw
        subst hw
        unfold kf_X8_feed_39 kf_X8_feed_93
        have ev : ((((((if k < 8 then xa else if k < 16 then xb else xc)).toUInt64 >>> ((56 - (8 * (nI k &&& 7))).toInt64.toUInt64 &&& Int64.toUInt64 63)).toInt64) &&& 255).toInt32) = fby xa xb xc k := rfl
        rw [ev, nI_1, nI_1]
        have no : (¬ (ts.length < 1000 ∧ fok (fby xa xb xc k))) → lf_X8_feed_8 xa xb xc Φ (m + 1) 0 (nI ts.length) t (nI (k + 1)) := fun z => ih (k + 1) ts t (by omega) (by omega) hT (fun t' => by
          have := hΦ t'
          unfold fts at this
          rw [if_neg z] at this
          exact this)
        have ys : ts.length < 1000 → fok (fby xa xb xc k) → vp_in (nI ts.length) 1000 ∧ lf_X8_feed_8 xa xb xc Φ (m + 1) 0 (nI (ts.length + 1)) (upd t (nI ts.length).toNatClampNeg (fby xa xb xc k)) (nI (k + 1)) := fun y z => by
          have h9 := ih (k + 1) (ts ++ [(fby xa xb xc k).toNatClampNeg]) (upd t ts.length (fby xa xb xc k)) (by omega) (by omega) (hT.push y z) (fun t' => by
            have := hΦ t'
            unfold fts at this
            rw [if_pos ⟨y, z⟩] at this
            exact this)
          rw [List.length_append] at h9
          rw [nI_clamp (by omega)]
          exact ⟨pk_in ts.length 1000 y, h9⟩
        refine ⟨fun z => no (fun y => nI_ge (b := 1000) y.1 (by decide) z), fun z => ?_⟩
        have hlt : ts.length < 1000 := Nat.lt_of_not_le (fun y => z (nI_le (a := 1000) y (by omega)))
        refine ⟨fun e => ys hlt (Or.inl e), fun e => ⟨fun e2 => no (fun y => ?_), fun e2 => ⟨fun e3 => no (fun y => ?_), fun e3 => ys hlt (Or.inr ⟨e2, e3⟩)⟩⟩⟩
        · rcases y.2 with y | y
          · exact e y
          · exact y.1 e2
        · rcases y.2 with y | y
          · exact e y
          · exact y.2 e3
      refine ⟨fun z => absurd z (nI_ge (b := 24) (by omega) (by decide)), fun _ => ⟨fun z8 => ⟨fun z16 => hv xc ?_, fun z16 => hv xb ?_⟩, fun z8 => hv xa ?_⟩⟩
      · rw [if_neg (fun y => nI_ge (b := 8) y (by decide) z8), if_neg (fun y => nI_ge (b := 16) y (by decide) z16)]
      · rw [if_neg (fun y => nI_ge (b := 8) y (by decide) z8), if_pos (Nat.lt_of_not_le (fun y => z16 (nI_le (a := 16) y (by omega))))]
      · rw [if_pos (Nat.lt_of_not_le (fun y => z8 (nI_le (a := 8) y (by omega))))]
  exact ⟨24 - 0 + 1, key (24 - 0) 0 ts t rfl (by decide) hT hΦ⟩
theorem sq_X5_addBytes {xa xb xc w : Int64} {q : Nat} {ts : List Nat} {sg : Nat → Int32} {Φ : Int32 → (Nat → Int32) → Prop} (hq : q < 3) (hw : w = (if q = 0 then xa else if q = 1 then xb else xc)) (hT : TL ts sg) (hΦ : ∀ sg', TL (fts xa xb xc 8 (8 * q) ts) sg' → Φ (nI (fts xa xb xc 8 (8 * q) ts).length) sg') : wp_X5_addBytes w (nI ts.length) sg Φ := by
  have key : ∀ (m i : Nat) (ts : List Nat) (sg : Nat → Int32), m = 8 - i → i ≤ 8 → TL ts sg → (∀ sg', TL (fts xa xb xc m (8 * q + i) ts) sg' → Φ (nI (fts xa xb xc m (8 * q + i) ts).length) sg') → lf_X5_addBytes_3 w Φ (m + 1) (nI ts.length) sg (ab i) := by
    intro m
    induction m with
    | zero =>
      intro i ts sg hm hi hT hΦ
      have e : i = 8 := by omega
      subst e
      exact ⟨fun _ => hΦ sg hT, fun z => absurd (by decide) z⟩
    | succ m ih =>
      intro i ts sg hm hi hT hΦ
      have hn := hT.1
      show lb_X5_addBytes_3 _ _ _ _ _ _
      unfold lb_X5_addBytes_3 kf_X5_addBytes_48
      have s1 := ab_step ⟨i, by omega⟩
      have s2 := ab_sh ⟨q, hq⟩ ⟨i, by omega⟩
      simp only at s1 s2
      have ew : w = (if 8 * q + i < 8 then xa else if 8 * q + i < 16 then xb else xc) := by
        rw [hw]
        by_cases e0 : q = 0
        · rw [if_pos e0, if_pos (show 8 * q + i < 8 by omega)]
        · rw [if_neg e0, if_neg (show ¬ 8 * q + i < 8 by omega)]
          by_cases e1 : q = 1
          · rw [if_pos e1, if_pos (show 8 * q + i < 16 by omega)]
          · rw [if_neg e1, if_neg (show ¬ 8 * q + i < 16 by omega)]
      have ev : ((((w).toUInt64 >>> ((ab i).toInt64.toUInt64 &&& Int64.toUInt64 63)).toInt64).toInt32) &&& 255 = fby xa xb xc (8 * q + i) := by
        rw [by_and, s2, ew]; rfl
      rw [ev, nI_1, s1.2]
      have no : (¬ (ts.length < 1000 ∧ fok (fby xa xb xc (8 * q + i)))) → lf_X5_addBytes_3 w Φ (m + 1) (nI ts.length) sg (ab (i + 1)) := fun z => ih (i + 1) ts sg (by omega) (by omega) hT (fun t' => by
        have := hΦ t'
        unfold fts at this
        rw [if_neg z] at this
        exact this)
      have ys : ts.length < 1000 → fok (fby xa xb xc (8 * q + i)) → vp_in (nI ts.length) 1000 ∧ lf_X5_addBytes_3 w Φ (m + 1) (nI (ts.length + 1)) (upd sg (nI ts.length).toNatClampNeg (vp_nar .char (((fby xa xb xc (8 * q + i)).toUInt32 % 65536).toInt32))) (ab (i + 1)) := fun y z => by
        have h9 := ih (i + 1) (ts ++ [(fby xa xb xc (8 * q + i)).toNatClampNeg]) (upd sg ts.length (fby xa xb xc (8 * q + i))) (by omega) (by omega) (hT.push y z) (fun t' => by
          have := hΦ t'
          unfold fts at this
          rw [if_pos ⟨y, z⟩] at this
          exact this)
        rw [List.length_append] at h9
        rw [nI_clamp (by omega), nar_char z]
        exact ⟨pk_in ts.length 1000 y, h9⟩
      refine ⟨fun z => absurd z s1.1, fun _ => ⟨fun z => no (fun y => nI_ge (b := 1000) y.1 (by decide) z), fun z => ?_⟩⟩
      have hlt : ts.length < 1000 := Nat.lt_of_not_le (fun y => z (nI_le (a := 1000) y (by omega)))
      refine ⟨fun e => ys hlt (Or.inl e), fun e => ⟨fun e2 => no (fun y => ?_), fun e2 => ⟨fun e3 => no (fun y => ?_), fun e3 => ys hlt (Or.inr ⟨e2, e3⟩)⟩⟩⟩
      · rcases y.2 with y | y
        · exact e y
        · exact y.1 e2
      · rcases y.2 with y | y
        · exact e y
        · exact y.2 e3
  exact ⟨8 - 0 + 1, key (8 - 0) 0 ts sg rfl (by decide) hT hΦ⟩
theorem sq_X7_feed {xa xb xc : Int64} {ts : List Nat} {sg : Nat → Int32} {Φ : Int32 → Int32 → (Nat → Int32) → Prop} (hT : TL ts sg) (hΦ : ∀ sg', TL (fts xa xb xc 24 0 ts) sg' → Φ (nI (fts xa xb xc 24 0 ts).length) (nI (fts xa xb xc 24 0 ts).length) sg') : wp_X7_feed xa xb xc (nI ts.length) sg Φ := by
  unfold wp_X7_feed
  refine sq_X5_addBytes (xa := xa) (xb := xb) (xc := xc) (q := 0) (by decide) rfl hT (fun s1 h1 => ?_)
  refine sq_X5_addBytes (xa := xa) (xb := xb) (xc := xc) (q := 1) (by decide) rfl h1 (fun s2 h2 => ?_)
  refine sq_X5_addBytes (xa := xa) (xb := xb) (xc := xc) (q := 2) (by decide) rfl h2 (fun s3 h3 => ?_)
  have e : fts xa xb xc 24 0 ts = fts xa xb xc 8 (8 * 2) (fts xa xb xc 8 (8 * 1) (fts xa xb xc 8 (8 * 0) ts)) := by
    rw [show (24 : Nat) = 8 + (8 + 8) from rfl, fts_add, fts_add]
  rw [← e] at h3 ⊢
  exact hΦ s3 h3
