theorem rem_t (x y : Int32) (h : 0 < y.toInt) : (x - x / y * y).toInt = x.toInt.tmod y.toInt := by
  have hb : (x.toInt.tmod y.toInt).bmod (2 ^ 32) = x.toInt.tmod y.toInt := by
    have h1 : x.toInt.tmod y.toInt < y.toInt := Int.tmod_lt_of_pos _ h
    have h2 : -y.toInt < x.toInt.tmod y.toInt := Int.lt_tmod_of_pos x.toInt h
    have h3 := y.toInt_lt
    apply Int.bmod_eq_of_le <;> omega
  rw [Int32.toInt_sub, Int32.toInt_mul, Int32.toInt_div]
  rw [← hb, Int.tmod_def, Int.bmod_mul_bmod, Int.sub_bmod_bmod, Int.mul_comm]
def lnOf (v : Int32) (ln : Nat) : Nat := (v.toInt % (ln : Int)).toNat
theorem lnOf_lt (v : Int32) {ln : Nat} (h : 0 < ln) : lnOf v ln < ln := by
  unfold lnOf
  have h1 := Int.emod_nonneg v.toInt (b := (ln : Int)) (by omega)
  have h2 := Int.emod_lt_of_pos v.toInt (b := (ln : Int)) (by omega)
  omega
theorem lnOf_eq (v x : Int32) {ln : Nat} (h : 0 < ln) (hl : ln ≤ 16) (e : x = v - v / nI ln * nI ln) : (x < 0 → x + nI ln = nI (lnOf v ln)) ∧ (¬ x < 0 → x = nI (lnOf v ln)) := by
  have hn : (nI ln).toInt = (ln : Int) := nI_toInt (by omega)
  have ht : x.toInt = v.toInt.tmod (ln : Int) := by rw [e, rem_t v (nI ln) (by rw [hn]; omega), hn]
  have hk := lnOf_lt v h
  have hm : ((lnOf v ln : Nat) : Int) = v.toInt % (ln : Int) := by
    unfold lnOf
    have h1 := Int.emod_nonneg v.toInt (b := (ln : Int)) (by omega)
    omega
  have hr : (nI (lnOf v ln)).toInt = v.toInt % (ln : Int) := by rw [nI_toInt (by omega), hm]
  have hx : x.toInt % (ln : Int) = v.toInt % (ln : Int) := by rw [ht, Int.tmod_def]; exact Int.sub_mul_emod_self_left ..
  have b1 : x.toInt < ln := by rw [ht]; exact Int.tmod_lt_of_pos _ (by omega)
  have b2 : -(ln : Int) < x.toInt := by rw [ht]; exact Int.lt_tmod_of_pos _ (by omega)
  have z0 : (0 : Int32).toInt = 0 := rfl
  constructor
  · intro hneg
    have h0 := Int32.lt_iff_toInt_lt.mp hneg
    rw [z0] at h0
    have h1 : (x.toInt + ln) % (ln : Int) = x.toInt + ln := Int.emod_eq_of_lt (by omega) (by omega)
    rw [Int.add_emod_right, hx] at h1
    apply Int32.toInt_inj.mp
    rw [hr, h1, Int32.toInt_add, hn]
    apply Int.bmod_eq_of_le <;> omega
  · intro hneg
    have h0 := Int32.le_iff_toInt_le.mp (Int32.not_lt.mp hneg)
    rw [z0] at h0
    have h1 : x.toInt % (ln : Int) = x.toInt := Int.emod_eq_of_lt (by omega) (by omega)
    apply Int32.toInt_inj.mp
    rw [hr, ← hx, h1]
theorem sp_X8_lineOf {p l : Nat} {ln : Nat → Int32} {v : Int32} {Φ : Int32 → Prop} (hp : p < 6) (hl : ln p = nI l) (h0 : 0 < l) (h16 : l ≤ 16) (h : Φ (nI (lnOf v l))) : wp_X8_lineOf (nI p) ln v Φ := by
  unfold wp_X8_lineOf
  rw [nI_clamp (by omega), hl]
  have e := lnOf_eq v (v - v / nI l * nI l) h0 h16 rfl
  refine ⟨pk_in p 6 hp, nI_ne0 h0 (by omega), fun z => ?_, fun z => ?_⟩
  · rw [e.2 (Int32.not_lt.mpr z)]; exact h
  · rw [e.1 (Int32.not_le.mp z)]; exact h
theorem sp_X8_wornness {p l : Nat} {ln we : Nat → Int32} {w v : Int32} {Φ : Int32 → Prop} (hp : p < 6) (hl : ln p = nI l) (h0 : 0 < l) (h16 : l ≤ 16) (h : ∀ r, Φ r) : wp_X8_wornness (nI p) w ln we v Φ := by
  unfold wp_X8_wornness
  have := lnOf_lt v h0
  exact ⟨fun _ => sp_X8_lineOf hp hl h0 h16 ⟨pk_in (lnOf v l) 16 (by omega), h _⟩, fun _ => h _⟩
theorem sp_X8_opens {d : Nat} {a b c e f : Nat → Int32} {Φ : (Nat → Int32) → (Nat → Int32) → (Nat → Int32) → (Nat → Int32) → (Nat → Int32) → Prop} (hd : d < 7) (h : ∀ a b c e f, Φ a b c e f) : wp_X8_opens (nI d) a b c e f Φ := by
  unfold wp_X8_opens
  have i : vp_in (nI d) 7 := pk_in d 7 hd
  exact ⟨i, i, i, i, i, h _ _ _ _ _⟩
theorem sp_X8_sums {d : Nat} {a b c e : Nat → Int32} {Φ : (Nat → Int32) → (Nat → Int32) → Prop} (hd : d < 7) (h : ∀ a b, Φ a b) : wp_X8_sums a b (nI d) c e Φ := by
  unfold wp_X8_sums
  have i : vp_in (nI d) 7 := pk_in d 7 hd
  exact ⟨i, fun _ => ⟨i, i, i, i, h _ _⟩, fun _ => ⟨i, i, i, i, h _ _⟩⟩
theorem sp_X8_tests {d : Nat} {k1 k2 k3 a b c e f : Nat → Int32} {Φ : (Nat → Int32) → (Nat → Int32) → (Nat → Int32) → (Nat → Int32) → (Nat → Int32) → Prop} (hd : d < 7) (h : ∀ a b c e f, Φ a b c e f) : wp_X8_tests k1 k2 k3 (nI d) a b c e f Φ := by
  have i : vp_in (nI d) 7 := pk_in d 7 hd
  have h136 : ∀ a b c e f v, kf_X8_tests_136 k1 k2 k3 (nI d) Φ a b c e f v := fun a b c e f v => ⟨i, i, i, i, h _ _ _ _ _⟩
  have h106 : ∀ a b c e f v, kf_X8_tests_106 k1 k2 k3 (nI d) Φ a b c e f v := fun a b c e f v => ⟨i, fun _ => h136 _ _ _ _ _ _, fun _ => ⟨i, fun _ => h136 _ _ _ _ _ _, fun _ => ⟨fun _ => h136 _ _ _ _ _ _, fun _ => h136 _ _ _ _ _ _⟩⟩⟩
  have h76 : ∀ a b c e f v, kf_X8_tests_76 k1 k2 k3 (nI d) Φ a b c e f v := fun a b c e f v => ⟨i, fun _ => h106 _ _ _ _ _ _, fun _ => ⟨i, fun _ => h106 _ _ _ _ _ _, fun _ => ⟨fun _ => h106 _ _ _ _ _ _, fun _ => h106 _ _ _ _ _ _⟩⟩⟩
  have h44 : ∀ a b c e f v, kf_X8_tests_44 k1 k2 k3 (nI d) Φ a b c e f v := fun a b c e f v => ⟨i, fun _ => h76 _ _ _ _ _ _, fun _ => ⟨i, i, fun _ => h76 _ _ _ _ _ _, fun _ => h76 _ _ _ _ _ _⟩⟩
  unfold wp_X8_tests
  exact sp_X8_sums hd (fun a b => ⟨i, i, fun _ => h44 _ _ _ _ _ _, fun _ => ⟨i, i, fun _ => h44 _ _ _ _ _ _, fun _ => h44 _ _ _ _ _ _⟩⟩)
def BN (bn : Nat → Int32) : List Bool → Prop
  | [] => True
  | b :: l => ((b = true → ¬ bn (l.length + 1) ≤ 0) ∧ (b = false → bn (l.length + 1) ≤ 0)) ∧ BN bn l
theorem BN_upd {o : Nat → Int32} {v : Int32} {k : Nat} : ∀ {l : List Bool}, BN o l → l.length < k → BN (upd o k v) l := by
  intro l
  induction l with
  | nil => intro _ _; trivial
  | cons b l ih =>
    intro h hk
    simp only [List.length_cons] at hk
    refine ⟨?_, ih h.2 (by omega)⟩
    rw [pk_un (by omega)]; exact h.1
theorem BN_pop {o : Nat → Int32} : ∀ {l : List Bool}, BN o l → BN o (popN l) := by
  intro l
  induction l with
  | nil => intro h; exact h
  | cons b l ih =>
    intro h
    cases b with
    | true => exact ih h.2
    | false => exact h
abbrev KWt : Type := (Nat → Int32) → (Nat → Int32) → (Nat → Int32) → (Nat → Int32) → (Nat → Int32) → (Nat → Int32) → (Nat → Int32) → (Nat → Int32) → (Nat → Int32) → Int32 → Int32 → Prop
abbrev PWt : Type := Int32 → (Nat → Int32) → (Nat → Int32) → (Nat → Int32) → (Nat → Int32) → (Nat → Int32) → (Nat → Int32) → (Nat → Int32) → (Nat → Int32) → (Nat → Int32) → Prop
def WK (k : Nat) (L : List Bool) (κ : KWt) : Prop := ∀ a1 a2 a3 a4 a5 a6 a7 a8 bn, BN bn L → κ a1 a2 a3 a4 a5 a6 a7 a8 bn (nI L.length) (nI k)
section WD
variable {p l x0 k : Nat} {w : Int32} {ln lf lt cd vo we : Nat → Int32} {κ : KWt} {Φ : PWt} {a1 a2 a3 a4 a5 a6 a7 a8 bn : Nat → Int32} {L : List Bool}
theorem sp_wd53 {v : Int32} (hL : L.length < 5) (hb : BN bn L) (hv : v = 28 ∨ v = 30 ∨ v = 31) (hK : WK (k + 1) ((if v = 28 then false else true) :: L) κ) : kf_X8_worked_53 (nI p) w ln lf lt cd vo we (nI x0) κ Φ a1 a2 a3 a4 a5 a6 a7 a8 bn (nI L.length) (nI k) v := by
  unfold kf_X8_worked_53
  have i : vp_in (nI (L.length + 1)) 7 := pk_in (L.length + 1) 7 (by omega)
  rw [nI_1, nI_1, nI_clamp (by omega)]
  rcases hv with rfl | rfl | rfl
  · exact ⟨fun _ => ⟨fun _ => ⟨i, sp_X8_opens (by omega) (fun _ _ _ _ _ => hK _ _ _ _ _ _ _ _ _ ⟨⟨fun z => absurd z (by decide), fun _ => (by rw [pk_us]; decide)⟩, BN_upd hb (by omega)⟩)⟩, fun z => absurd z (by decide)⟩, fun z => absurd z (by decide)⟩
  · exact ⟨fun z => absurd rfl z, fun _ => ⟨i, sp_X8_opens (by omega) (fun _ _ _ _ _ => hK _ _ _ _ _ _ _ _ _ ⟨⟨fun _ => (by rw [pk_us]; decide), fun z => absurd z (by decide)⟩, BN_upd hb (by omega)⟩)⟩⟩
  · exact ⟨fun _ => ⟨fun z => absurd rfl z, fun _ => ⟨i, sp_X8_opens (by omega) (fun _ _ _ _ _ => hK _ _ _ _ _ _ _ _ _ ⟨⟨fun _ => (by rw [pk_us]; decide), fun z => absurd z (by decide)⟩, BN_upd hb (by omega)⟩)⟩⟩, fun z => absurd z (by decide)⟩
theorem sp_wd107 {v : Int32} (hL : L.length ≤ 5) (hb : BN bn L) (hK : WK (k + 1) L κ) : kf_X8_worked_107 (nI p) w ln lf lt cd vo we (nI x0) κ Φ a1 a2 a3 a4 a5 a6 a7 a8 bn (nI L.length) (nI k) v := by
  unfold kf_X8_worked_107
  rw [nI_1]
  exact sp_X8_sums (by omega) (fun _ _ => ⟨pk_in L.length 7 (by omega), hK _ _ _ _ _ _ _ _ _ hb⟩)
theorem sp_wd155 {v : Int32} (hL : L.length ≤ 5) (hb : BN bn L) (hK : WK (k + 1) L κ) : kf_X8_worked_155 (nI p) w ln lf lt cd vo we (nI x0) κ Φ a1 a2 a3 a4 a5 a6 a7 a8 bn (nI L.length) (nI k) v := by
  unfold kf_X8_worked_155
  have i : vp_in (nI L.length) 7 := pk_in L.length 7 (by omega)
  rw [nI_1]
  exact sp_X8_sums (by omega) (fun _ _ => ⟨i, i, i, i, i, hK _ _ _ _ _ _ _ _ _ hb⟩)
theorem sp_wd212 {v : Int32} (hL : L.length ≤ 5) (hb : BN bn L) (hK : WK (k + 1) L κ) : kf_X8_worked_212 (nI p) w ln lf lt cd vo we (nI x0) κ Φ a1 a2 a3 a4 a5 a6 a7 a8 bn (nI L.length) (nI k) v := by
  unfold kf_X8_worked_212
  rw [nI_1]
  exact sp_X8_tests (by omega) (fun _ _ _ _ _ => ⟨pk_in L.length 7 (by omega), hK _ _ _ _ _ _ _ _ _ hb⟩)
theorem sp_wd336 {v : Int32} (hL : L.length ≤ 5) (hb : BN bn L) (hK : WK (k + 1) L κ) : kf_X8_worked_336 (nI p) w ln lf lt cd vo we (nI x0) κ Φ a1 a2 a3 a4 a5 a6 a7 a8 bn (nI L.length) (nI k) v := by
  unfold kf_X8_worked_336
  have i : vp_in (nI L.length) 7 := pk_in L.length 7 (by omega)
  rw [nI_1]
  exact ⟨i, fun _ => ⟨i, i, hK _ _ _ _ _ _ _ _ _ hb⟩, fun _ => ⟨i, hK _ _ _ _ _ _ _ _ _ hb⟩⟩
theorem sp_wd286 (hp : p < 6) (hl : ln p = nI l) (h0 : 0 < l) (h16 : l ≤ 16) : ∀ (M : List Bool), M.length ≤ 5 → BN bn M → WK (k + 1) (popN M) κ → ∃ m, ∀ v, lf_X8_worked_286 (nI p) w ln lf lt cd vo we (nI x0) κ Φ m a1 a2 a3 a4 a5 a6 a7 a8 bn (nI M.length) (nI k) v := by
  intro M
  induction M with
  | nil =>
    intro hL hb hK
    refine ⟨1, fun v => ?_⟩
    show lb_X8_worked_286 _ _ _ _ _ _ _ _ _ _ _ _ _ _ _ _ _ _ _ _ _ _ _ _
    unfold lb_X8_worked_286
    exact ⟨fun _ => sp_wd336 (L := []) hL hb hK, fun z => absurd (by decide) z⟩
  | cons x M ih =>
    intro hL hb hK
    have hlen : (x :: M).length = M.length + 1 := rfl
    simp only [List.length_cons] at hL
    have i : vp_in (nI (M.length + 1)) 7 := pk_in (M.length + 1) 7 (by omega)
    cases x with
    | true =>
      obtain ⟨m, hm⟩ := ih (by omega) hb.2 hK
      refine ⟨m + 1, fun v => ?_⟩
      show lb_X8_worked_286 _ _ _ _ _ _ _ _ _ _ _ _ _ _ _ _ _ _ _ _ _ _ _ _
      unfold lb_X8_worked_286
      rw [hlen, nI_clamp (by omega), pk_m1]
      exact ⟨fun z => absurd z (nI_nle (by omega) (by omega)), fun _ => ⟨i, fun z => absurd z (hb.1.1 rfl), fun _ => ⟨i, fun _ => ⟨fun _ => hm _, fun _ => hm _⟩, fun _ => sp_X8_wornness hp hl h0 h16 (fun r => hm r)⟩⟩⟩
    | false =>
      refine ⟨1, fun v => ?_⟩
      show lb_X8_worked_286 _ _ _ _ _ _ _ _ _ _ _ _ _ _ _ _ _ _ _ _ _ _ _ _
      unfold lb_X8_worked_286
      have e := @sp_wd336 p x0 k w ln lf lt cd vo we κ Φ a1 a2 a3 a4 a5 a6 a7 a8 bn (false :: M) v (by simp only [List.length_cons]; omega) hb hK
      refine ⟨fun _ => e, fun _ => ⟨i, fun _ => e, fun z => absurd ?_ z⟩⟩
      rw [hlen, nI_clamp (by omega)]
      exact hb.1.2 rfl
theorem sp_wd261 {v s : Int32} (hp : p < 6) (hl : ln p = nI l) (h0 : 0 < l) (h16 : l ≤ 16) (hL : L.length ≤ 5) (hb : BN bn L) {x : List Bool} (hx : (¬ v = 29 ∧ x = popN L) ∨ (v = 29 ∧ ∃ M, L = false :: M ∧ x = popN M)) (hK : WK (k + 1) x κ) : kf_X8_worked_261 (nI p) w ln lf lt cd vo we (nI x0) κ Φ a1 a2 a3 a4 a5 a6 a7 a8 bn (nI L.length) (nI k) v s := by
  unfold kf_X8_worked_261
  rcases hx with ⟨h29, rfl⟩ | ⟨h29, M, rfl, rfl⟩
  · refine ⟨fun _ => ?_, fun z => absurd z h29⟩
    obtain ⟨m, hm⟩ := sp_wd286 (w := w) (lf := lf) (lt := lt) (cd := cd) (vo := vo) (we := we) (x0 := x0) (Φ := Φ) (a1 := a1) (a2 := a2) (a3 := a3) (a4 := a4) (a5 := a5) (a6 := a6) (a7 := a7) (a8 := a8) hp hl h0 h16 L hL hb hK
    exact ⟨m, hm _⟩
  · simp only [List.length_cons] at hL
    refine ⟨fun z => absurd h29 z, fun _ => sp_X8_tests (by simp only [List.length_cons]; omega) (fun b1 b4 b5 b6 b8 => ⟨pk_in (M.length + 1) 7 (by omega), ?_⟩)⟩
    rw [show (false :: M).length = M.length + 1 from rfl, pk_m1]
    obtain ⟨m, hm⟩ := sp_wd286 (w := w) (lf := lf) (lt := lt) (cd := cd) (vo := vo) (we := we) (x0 := x0) (Φ := Φ) (a1 := b1) (a2 := a2) (a3 := a3) (a4 := b4) (a5 := b5) (a6 := b6) (a7 := a7) (a8 := b8) hp hl h0 h16 M (by omega) hb.2 hK
    exact ⟨m, hm _⟩
theorem sp_wd14 {e : Nat} (hp : p < 6) (hl : ln p = nI l) (h0 : 0 < l) (h16 : l ≤ 16) (hx : x0 < 192) (he : lt x0 = nI e) (he6 : e ≤ 6000) (hΦ : ∀ r b1 b2 b3 b4 b5 b6 b7 b8 b9, Φ r b1 b2 b3 b4 b5 b6 b7 b8 b9) : ∀ (m k : Nat) (a1 a2 a3 a4 a5 a6 a7 a8 bn : Nat → Int32) (L M : List Bool), m = e - k → k ≤ e → L.length ≤ 5 → BN bn L → BR cd k m L M → lf_X8_worked_14 (nI p) w ln lf lt cd vo we (nI x0) Φ (m + 1) a1 a2 a3 a4 a5 a6 a7 a8 bn (nI L.length) (nI k) := by
  intro m
  induction m with
  | zero =>
    intro k a1 a2 a3 a4 a5 a6 a7 a8 bn L M hm hk hL hb hB
    show lb_X8_worked_14 _ _ _ _ _ _ _ _ _ _ _ _ _ _ _ _ _ _ _ _ _ _
    unfold lb_X8_worked_14
    rw [nI_clamp (n := x0) (by omega), he]
    exact ⟨pk_in x0 192 hx, fun _ => sp_X8_tests (d := 0) (by decide) (fun _ _ _ _ _ => hΦ _ _ _ _ _ _ _ _ _ _), fun z => absurd (nI_le (by omega) (by omega)) z⟩
  | succ m ih =>
    intro k a1 a2 a3 a4 a5 a6 a7 a8 bn L M hm hk hL hb hB
    obtain ⟨x, x1, x2, x3, x4⟩ := hB
    have hK : WK (k + 1) x (lf_X8_worked_14 (nI p) w ln lf lt cd vo we (nI x0) Φ (m + 1)) := fun b1 b2 b3 b4 b5 b6 b7 b8 bn' hb' => ih (k + 1) b1 b2 b3 b4 b5 b6 b7 b8 bn' x M (by omega) (by omega) x2 hb' x4
    show lb_X8_worked_14 _ _ _ _ _ _ _ _ _ _ _ _ _ _ _ _ _ _ _ _ _ _
    unfold lb_X8_worked_14
    rw [nI_clamp (n := x0) (by omega), he, nI_clamp (n := k) (by omega)]
    generalize hc : cd k = c at x1 x3 ⊢
    have op : (c = 20 ∨ c = 21 ∨ c = 22 ∨ c = 24 ∨ c = 25 ∨ c = 26 ∨ c = 27) → x = L := fun h => by
      have := (bst_op h L).1
      rw [this] at x1
      exact (Option.some.inj x1).symm
    have br : (c = 28 ∨ c = 30 ∨ c = 31) → x = (if c = 28 then false else true) :: L := fun h => by
      rcases h with rfl | rfl | rfl <;> exact (Option.some.inj x1).symm
    have hbr : (h : c = 28 ∨ c = 30 ∨ c = 31) → kf_X8_worked_53 (nI p) w ln lf lt cd vo we (nI x0) (lf_X8_worked_14 (nI p) w ln lf lt cd vo we (nI x0) Φ (m + 1)) Φ a1 a2 a3 a4 a5 a6 a7 a8 bn (nI L.length) (nI k) c := fun h => by
      have e := br h
      rw [e] at hK x2
      simp only [List.length_cons] at x2
      exact sp_wd53 (by omega) hb h hK
    have hop : (h : c = 20 ∨ c = 21 ∨ c = 22 ∨ c = 24 ∨ c = 25 ∨ c = 26 ∨ c = 27) → WK (k + 1) L (lf_X8_worked_14 (nI p) w ln lf lt cd vo we (nI x0) Φ (m + 1)) := fun h => by rw [op h] at hK; exact hK
    have h261 : ¬ c = 28 → ¬ c = 30 → ¬ c = 31 → ¬ c = 20 → ¬ c = 21 → ¬ c = 22 → ¬ c = 24 → ¬ c = 25 → ¬ c = 26 → ¬ c = 27 → ∀ s, kf_X8_worked_261 (nI p) w ln lf lt cd vo we (nI x0) (lf_X8_worked_14 (nI p) w ln lf lt cd vo we (nI x0) Φ (m + 1)) Φ a1 a2 a3 a4 a5 a6 a7 a8 bn (nI L.length) (nI k) c s := by
      intro e1 e2 e3 e4 e5 e6 e7 e8 e9 e10 s
      refine sp_wd261 hp hl h0 h16 hL hb (x := x) ?_ hK
      by_cases h29 : c = 29
      · refine Or.inr ⟨h29, ?_⟩
        subst h29
        match L, x1 with
        | false :: M', x1 => exact ⟨M', rfl, (Option.some.inj x1).symm⟩
        | true :: M', x1 => cases x1
        | [], x1 => cases x1
      · refine Or.inl ⟨h29, ?_⟩
        unfold bst at x1
        rw [if_neg (by simp [e2, e3]), if_neg e1, if_neg h29, if_neg (by simp [e4, e5, e6, e7, e8, e9, e10])] at x1
        exact (Option.some.inj x1).symm
    have i : vp_in (nI L.length) 7 := pk_in L.length 7 (by omega)
    refine ⟨pk_in x0 192 hx, fun z => absurd z (nI_ge (by omega) (by omega)), fun _ => ⟨pk_in k 6000 (by omega), fun h => hbr (Or.inl h), fun n28 => ⟨fun h => hbr (Or.inr (Or.inl h)), fun n30 => ⟨fun n31 => ⟨fun h => sp_wd107 hL hb (hop (by simp [h])), fun n20 => ⟨fun n21 => ⟨fun n22 => ⟨fun h => sp_wd155 hL hb (hop (by simp [h])), fun n24 => ⟨fun n25 => ⟨fun h => sp_wd212 hL hb (hop (by simp [h])), fun n26 => ⟨fun n27 => ⟨fun _ => ⟨fun _ => h261 n28 n30 n31 n20 n21 n22 n24 n25 n26 n27 _, fun h20 => ⟨?_, h261 n28 n30 n31 n20 n21 n22 n24 n25 n26 n27 _⟩⟩, fun _ => h261 n28 n30 n31 n20 n21 n22 n24 n25 n26 n27 _⟩, fun h => sp_wd212 hL hb (hop (by simp [h]))⟩⟩, fun h => sp_wd155 hL hb (hop (by simp [h]))⟩⟩, fun h => ⟨i, ?_⟩⟩, fun h => sp_wd107 hL hb (hop (by simp [h]))⟩⟩, fun h => hbr (Or.inr (Or.inr h))⟩⟩⟩⟩
    · obtain ⟨j, hj, rfl⟩ := nI_of x3
      exact pk_in j 20 (Nat.lt_of_not_le (fun z => h20 (nI_le (a := 20) z hj)))
    · rw [nI_1]
      exact hop (by simp [h]) _ _ _ _ _ _ _ _ _ hb
theorem sp_X8_worked {f e : Nat} {M : List Bool} (hp : p < 6) (hl : ln p = nI l) (h0 : 0 < l) (h16 : l ≤ 16) (hx : x0 < 192) (hf : lf x0 = nI f) (he : lt x0 = nI e) (hfe : f ≤ e) (he6 : e ≤ 6000) (hB : BR cd f (e - f) [] M) (hΦ : ∀ r b1 b2 b3 b4 b5 b6 b7 b8 b9, Φ r b1 b2 b3 b4 b5 b6 b7 b8 b9) : wp_X8_worked (nI p) w ln lf lt cd vo we (nI x0) a1 a2 a3 a4 a5 a6 a7 a8 bn Φ := by
  unfold wp_X8_worked
  refine sp_X8_opens (d := 0) (by decide) (fun b2 b4 b5 b6 b8 => ⟨pk_in x0 192 hx, e - f + 1, ?_⟩)
  rw [nI_clamp (n := x0) (by omega), hf]
  exact sp_wd14 hp hl h0 h16 hx he he6 hΦ (e - f) f a1 b2 a3 b4 b5 b6 a7 b8 bn [] M rfl hfe (by decide) trivial hB
end WD
