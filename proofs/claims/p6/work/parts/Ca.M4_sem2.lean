section SF9
theorem PE9.up {lv d : Nat} {R : Nat → Nat → Int32} (h : PE9 lv d R) : PE9 (lv + 1) d R := ⟨fun z => h.1 (by omega), fun z => h.2.1 (by omega), fun z => h.2.2.1 (by omega), fun z => absurd z (by omega), h.2.2.2.2⟩
theorem SM9r.sub {is js : List Nat} {d : Nat} {R R' : Nat → Nat → Int32} (h : SM9r is d R R') (hs : ∀ i, i ∈ js → i ∈ is) : SM9r js d R R' := fun i hi => h i (hs i hi)
theorem SM9r.tr {is : List Nat} {d : Nat} {R R1 R2 : Nat → Nat → Int32} (h : SM9r is d R R1) (h2 : SM9r is d R1 R2) : SM9r is d R R2 := fun i hi => (h2 i hi).trans (h i hi)
theorem AG9.tr {d : Nat} {R R1 R2 : Nat → Nat → Int32} (h : AG9 d R R1) (h2 : AG9 d R1 R2) : AG9 d R R2 := fun i j hi hj => (h2 i j hi hj).trans (h i j hi hj)
theorem pt_down {lv d : Nat} {R0 R : Nat → Nat → Int32} {F : Int32} (hl : lv < 4) (hp : PE9 lv d R0) (h : PT9 (lv + 1) d R0 R F) : PT9 lv d R0 R F := by
  obtain ⟨ha, h⟩ := h
  refine ⟨ha, ?_⟩
  match lv, hl, hp, h with
  | 3, _, hp, h =>
    have h : R 6 d = (if R0 7 d = 0 then F else R0 6 d * F) ∧ SM9r [0, 1, 2, 3, 4, 5, 7, 8] d R0 R := h
    rw [if_pos (hp.1 (by decide))] at h
    exact ⟨h.1, h.2.sub (by decide)⟩
  | 2, _, hp, h =>
    have h : R 6 d = F ∧ SM9r [0, 1, 2, 3, 4, 5, 8] d R0 R := h
    obtain ⟨p4, p5⟩ := hp.2.1 (by decide)
    refine ⟨?_, h.2.sub (by decide)⟩
    unfold SU9
    rw [h.2 5 (by decide), h.2 4 (by decide), p4, p5, h.1, if_neg (by decide), Int32.zero_add]
  | 1, _, hp, h =>
    have h : SU9 R d = F ∧ SM9r [0, 1, 2, 3, 8] d R0 R := h
    refine ⟨?_, h.2.sub (by decide)⟩
    have e3 : R 3 d = 0 := (h.2 3 (by decide)).trans (hp.2.2.1 (by decide))
    unfold TV9
    rw [e3, if_neg (by decide), if_neg (by decide)]
    exact h.1
  | 0, _, hp, h =>
    have h : TV9 R d = F ∧ SM9r [0, 1, 8] d R0 R := h
    refine ⟨?_, h.2.sub (by decide)⟩
    have e1 : R 1 d = 0 := (h.2 1 (by decide)).trans (hp.2.2.2.1 rfl)
    unfold XV9
    rw [e1, if_neg (by decide), if_neg (by decide)]
    exact h.1
theorem IX9.down {lv ne : Nat} {i : List Nat} {F : EF} (hl : lv < 4) (h : IX9 (lv + 1) ne i F) : IX9 lv ne i F := by
  intro at_ way ln lf lt cd vo we x0 Φ ce wv hvo hwv n k R hi hpe hk
  exact h at_ way ln lf lt cd vo we x0 Φ ce wv hvo hwv n k R hi hpe.up (fun n' R' hp => hk n' R' (pt_down hl hpe hp))
/-- two operands of a level and what joins them -/
theorem ix_two {la lb ne c : Nat} {i i2 : List Nat} {F G : EF} {H : Int32 → Int32 → Int32} {lv : Nat} (hne : ne < 90) (h : IX9 la ne i F) (h2 : IX9 lb ne i2 G) (hpe : ∀ R, PE9 lv ne R → PE9 la ne R)
    (op : ∀ (at_ way : Int32) (ln lf lt cd vo we : Nat → Int32) (x0 : Int32) (Φ : PW9) (n k : Nat) (R0 R : Nat → Nat → Int32) (f : Int32), PE9 lv ne R0 → PT9 la ne R0 R f → CI9 lt cd x0 k [c] → (∀ n' R1, PE9 lb ne R1 → (∀ R2 g, PT9 lb ne R1 R2 g → PT9 lv ne R0 R2 (H f g)) → LW9 at_ way ln lf lt cd vo we x0 Φ n' ne (k + 1) R1) → LW9 at_ way ln lf lt cd vo we x0 Φ n ne k R) : IX9 lv ne (i ++ c :: i2) (fun ce wv => H (F ce wv) (G ce wv)) := by
  intro at_ way ln lf lt cd vo we x0 Φ ce wv hvo hwv n k R hi hp hk
  obtain ⟨a1, a2⟩ := hi.app
  obtain ⟨b1, b2⟩ := CI9.app (i := [c]) (i2 := i2) a2
  refine h at_ way ln lf lt cd vo we x0 Φ ce wv hvo hwv n k R a1 (hpe R hp) (fun n1 R1 hp1 => ?_)
  refine op at_ way ln lf lt cd vo we x0 Φ n1 (k + i.length) R R1 (F ce wv) hp hp1 b1 (fun n2 R2 hp2 hjn => ?_)
  refine h2 at_ way ln lf lt cd vo we x0 Φ ce wv hvo hwv n2 (k + i.length + 1) R2 b2 hp2 (fun n3 R3 hp3 => ?_)
  have hf := hk n3 R3 (hjn R3 _ hp3)
  rw [show k + (i ++ c :: i2).length = k + i.length + 1 + i2.length by rw [List.length_append, List.length_cons]; omega] at hf
  exact hf
theorem ix_op3 {ne : Nat} {i i2 : List Nat} {F G : EF} (hne : ne < 90) (h : IX9 3 ne i F) (h2 : IX9 4 ne i2 G) : IX9 3 ne (i ++ 22 :: i2) (fun ce wv => jn 10 (F ce wv) (G ce wv)) := by
  refine ix_two (H := fun f g => jn 10 f g) hne h h2 (fun R hp => hp) (fun at_ way ln lf lt cd vo we x0 Φ n k R0 R f hp0 hp hi hk => ?_)
  cases n with
  | zero => trivial
  | succ n =>
    obtain ⟨g1, g2, g3, g4⟩ := hi.cons
    obtain ⟨ha, hb⟩ := hp
    have hb : R 6 ne = f ∧ SM9r [0, 1, 2, 3, 4, 5, 8] ne R0 R := hb
    refine lw_step g2 g1 g3 (by decide) (fun e => by omega) (fun e => by omega) (fun _ => ?_) (fun e => by omega) (fun e => by omega) (fun e => by omega) (fun e => by omega) (fun e => by omega) (by omega)
    rw [nI_clamp (n := ne) (by omega), nI_1]
    refine hk n (rg9 (R 0) (R 1) (R 2) (R 3) (R 4) (R 5) (R 6) (upd (R 7) ne (nI 22)) (R 8)) ⟨fun z => absurd z (by (try dsimp only); decide), fun z => absurd z (by (try dsimp only); decide), fun z => absurd z (by (try dsimp only); decide), fun z => absurd z (by (try dsimp only); decide), hp0.2.2.2.2.imp (fun e => (hb.2 8 (by decide)).trans e) id⟩ (fun R2 g hp2 => ?_)
    obtain ⟨ha2, hb2⟩ := hp2
    have hb2 : R2 6 ne = (if upd (R 7) ne (nI 22) ne = 0 then g else R 6 ne * g) ∧ SM9r [0, 1, 2, 3, 4, 5, 7, 8] ne (rg9 (R 0) (R 1) (R 2) (R 3) (R 4) (R 5) (R 6) (upd (R 7) ne (nI 22)) (R 8)) R2 := hb2
    rw [pk_us, if_neg (by decide), hb.1] at hb2
    refine ⟨fun a b ha' hb' => ?_, hb2.1, fun a ha' => ?_⟩
    · have e := ha a b ha' hb'
      have e2 := ha2 a b ha' hb'
      rw [← e, e2]
      match a, ha' with
      | 0, _ => rfl
      | 1, _ => rfl
      | 2, _ => rfl
      | 3, _ => rfl
      | 4, _ => rfl
      | 5, _ => rfl
      | 6, _ => rfl
      | 7, _ => exact pk_un (by omega)
      | 8, _ => rfl
    · have e := hb.2 a ha'
      have e2 := hb2.2 a (by simp only [List.mem_cons, List.not_mem_nil, or_false] at ha' ⊢; omega)
      rw [← e, e2]
      simp only [List.mem_cons, List.not_mem_nil, or_false] at ha'
      rcases ha' with rfl | rfl | rfl | rfl | rfl | rfl | rfl <;> rfl
theorem ix_op2 {ne c : Nat} {i i2 : List Nat} {F G : EF} (hc : c = 20 ∨ c = 21) (hne : ne < 90) (h : IX9 2 ne i F) (h2 : IX9 3 ne i2 G) : IX9 2 ne (i ++ c :: i2) (fun ce wv => jn (if c = 20 then 8 else 9) (F ce wv) (G ce wv)) := by
  refine ix_two (H := fun f g => jn (if c = 20 then 8 else 9) f g) hne h h2 (fun R hp => hp) (fun at_ way ln lf lt cd vo we x0 Φ n k R0 R f hp0 hp hi hk => ?_)
  cases n with
  | zero => trivial
  | succ n =>
    obtain ⟨g1, g2, g3, g4⟩ := hi.cons
    obtain ⟨ha, hb⟩ := hp
    have hb : SU9 R ne = f ∧ SM9r [0, 1, 2, 3, 8] ne R0 R := hb
    refine lw_step g2 g1 g3 (by omega) (fun e => by omega) (fun _ => sq8_sums (by omega) ?_) (fun e => by omega) (fun e => by omega) (fun e => by omega) (fun e => by omega) (fun e => by omega) (fun e => by omega) (by omega)
    rw [nI_clamp (n := ne) (by omega), nI_1, hb.1]
    refine fun _ => hk n (rg9 (R 0) (R 1) (R 2) (R 3) (upd (R 4) ne f) (upd (R 5) ne (nI c)) (R 6) (upd (R 7) ne 0) (R 8)) ⟨fun _ => pk_us, fun z => absurd z (by (try dsimp only); decide), fun z => absurd z (by (try dsimp only); decide), fun z => absurd z (by (try dsimp only); decide), hp0.2.2.2.2.imp (fun e => (hb.2 8 (by decide)).trans e) id⟩ (fun R2 g hp2 => ?_)
    obtain ⟨ha2, hb2⟩ := hp2
    have hb2 : R2 6 ne = g ∧ SM9r [0, 1, 2, 3, 4, 5, 8] ne (rg9 (R 0) (R 1) (R 2) (R 3) (upd (R 4) ne f) (upd (R 5) ne (nI c)) (R 6) (upd (R 7) ne 0) (R 8)) R2 := hb2
    have e4 : R2 4 ne = f := (hb2.2 4 (by decide)).trans pk_us
    have e5 : R2 5 ne = nI c := (hb2.2 5 (by decide)).trans pk_us
    refine ⟨fun a b ha' hb' => ?_, ?_, fun a ha' => ?_⟩
    · have e := ha a b ha' hb'
      have e2 := ha2 a b ha' hb'
      rw [← e, e2]
      match a, ha' with
      | 0, _ => rfl
      | 1, _ => rfl
      | 2, _ => rfl
      | 3, _ => rfl
      | 4, _ => exact pk_un (by omega)
      | 5, _ => exact pk_un (by omega)
      | 6, _ => rfl
      | 7, _ => exact pk_un (by omega)
      | 8, _ => rfl
    · show SU9 R2 ne = jn (if c = 20 then 8 else 9) f g
      unfold SU9
      rw [e4, e5, hb2.1]
      rcases hc with rfl | rfl
      · rw [if_neg (by decide)]; rfl
      · rw [if_pos (by decide)]; rfl
    · have e := hb.2 a ha'
      have e2 := hb2.2 a (by simp only [List.mem_cons, List.not_mem_nil, or_false] at ha' ⊢; omega)
      rw [← e, e2]
      simp only [List.mem_cons, List.not_mem_nil, or_false] at ha'
      rcases ha' with rfl | rfl | rfl | rfl | rfl <;> rfl
theorem ix_op1 {ne c : Nat} {i i2 : List Nat} {F G : EF} (hc : c = 24 ∨ c = 25) (hne : ne < 90) (h : IX9 2 ne i F) (h2 : IX9 2 ne i2 G) : IX9 1 ne (i ++ c :: i2) (fun ce wv => jn (if c = 24 then 6 else 7) (F ce wv) (G ce wv)) := by
  refine ix_two (H := fun f g => jn (if c = 24 then 6 else 7) f g) hne h h2 (fun R hp => hp.up) (fun at_ way ln lf lt cd vo we x0 Φ n k R0 R f hp0 hp hi hk => ?_)
  cases n with
  | zero => trivial
  | succ n =>
    obtain ⟨g1, g2, g3, g4⟩ := hi.cons
    obtain ⟨ha, hb⟩ := hp
    have hb : SU9 R ne = f ∧ SM9r [0, 1, 2, 3, 8] ne R0 R := hb
    refine lw_step g2 g1 g3 (by omega) (fun e => by omega) (fun e => by omega) (fun e => by omega) (fun _ => sq8_sums (by omega) ?_) (fun e => by omega) (fun e => by omega) (fun e => by omega) (fun e => by omega) (by omega)
    rw [nI_clamp (n := ne) (by omega), nI_1, hb.1, pk_us]
    refine fun _ _ _ _ _ => hk n (rg9 (R 0) (R 1) (upd (R 2) ne f) (upd (R 3) ne (nI c)) (upd (upd (R 4) ne f) ne 0) (upd (R 5) ne 20) (R 6) (upd (R 7) ne 0) (R 8)) ⟨fun _ => pk_us, fun _ => ⟨pk_us, pk_us⟩, fun z => absurd z (by (try dsimp only); decide), fun z => absurd z (by (try dsimp only); decide), hp0.2.2.2.2.imp (fun e => (hb.2 8 (by decide)).trans e) id⟩ (fun R2 g hp2 => ?_)
    obtain ⟨ha2, hb2⟩ := hp2
    have hb2 : SU9 R2 ne = g ∧ SM9r [0, 1, 2, 3, 8] ne (rg9 (R 0) (R 1) (upd (R 2) ne f) (upd (R 3) ne (nI c)) (upd (upd (R 4) ne f) ne 0) (upd (R 5) ne 20) (R 6) (upd (R 7) ne 0) (R 8)) R2 := hb2
    have e2' : R2 2 ne = f := (hb2.2 2 (by decide)).trans pk_us
    have e3 : R2 3 ne = nI c := (hb2.2 3 (by decide)).trans pk_us
    refine ⟨fun a b ha' hb' => ?_, ?_, fun a ha' => ?_⟩
    · have e := ha a b ha' hb'
      have e2 := ha2 a b ha' hb'
      rw [← e, e2]
      match a, ha' with
      | 0, _ => rfl
      | 1, _ => rfl
      | 2, _ => exact pk_un (by omega)
      | 3, _ => exact pk_un (by omega)
      | 4, _ => exact (pk_un (by omega)).trans (pk_un (by omega))
      | 5, _ => exact pk_un (by omega)
      | 6, _ => rfl
      | 7, _ => exact pk_un (by omega)
      | 8, _ => rfl
    · show TV9 R2 ne = jn (if c = 24 then 6 else 7) f g
      unfold TV9
      rw [e2', e3, hb2.1]
      rcases hc with rfl | rfl
      · rw [if_pos (by decide)]; rfl
      · rw [if_neg (by decide), if_pos (by decide)]; rfl
    · have e := hb.2 a (by simp only [List.mem_cons, List.not_mem_nil, or_false] at ha' ⊢; omega)
      have e2 := hb2.2 a (by simp only [List.mem_cons, List.not_mem_nil, or_false] at ha' ⊢; omega)
      rw [← e, e2]
      simp only [List.mem_cons, List.not_mem_nil, or_false] at ha'
      rcases ha' with rfl | rfl | rfl <;> rfl
theorem ix_op0 {ne c : Nat} {i i2 : List Nat} {F G : EF} (hc : c = 26 ∨ c = 27) (hne : ne < 90) (h : IX9 0 ne i F) (h2 : IX9 1 ne i2 G) : IX9 0 ne (i ++ c :: i2) (fun ce wv => jn (if c = 26 then 4 else 5) (F ce wv) (G ce wv)) := by
  refine ix_two (H := fun f g => jn (if c = 26 then 4 else 5) f g) hne h h2 (fun R hp => hp) (fun at_ way ln lf lt cd vo we x0 Φ n k R0 R f hp0 hp hi hk => ?_)
  cases n with
  | zero => trivial
  | succ n =>
    obtain ⟨g1, g2, g3, g4⟩ := hi.cons
    obtain ⟨ha, hb⟩ := hp
    have hb : XV9 R ne = f ∧ SM9r [8] ne R0 R := hb
    refine lw_step g2 g1 g3 (by omega) (fun e => by omega) (fun e => by omega) (fun e => by omega) (fun e => by omega) (fun _ => sq8_tests (by omega) ?_) (fun e => by omega) (fun e => by omega) (fun e => by omega) (by omega)
    rw [nI_clamp (n := ne) (by omega), nI_1, hb.1]
    refine fun _ => hk n (rg9 (upd (R 0) ne f) (upd (R 1) ne (nI c)) (R 2) (upd (R 3) ne 0) (upd (upd (R 4) ne (SU9 R ne)) ne 0) (upd (R 5) ne 20) (R 6) (upd (R 7) ne 0) (R 8)) ⟨fun _ => pk_us, fun _ => ⟨pk_us, pk_us⟩, fun _ => pk_us, fun z => absurd z (by (try dsimp only); decide), hp0.2.2.2.2.imp (fun e => (hb.2 8 (by decide)).trans e) id⟩ (fun R2 g hp2 => ?_)
    obtain ⟨ha2, hb2⟩ := hp2
    have hb2 : TV9 R2 ne = g ∧ SM9r [0, 1, 8] ne (rg9 (upd (R 0) ne f) (upd (R 1) ne (nI c)) (R 2) (upd (R 3) ne 0) (upd (upd (R 4) ne (SU9 R ne)) ne 0) (upd (R 5) ne 20) (R 6) (upd (R 7) ne 0) (R 8)) R2 := hb2
    have e0 : R2 0 ne = f := (hb2.2 0 (by decide)).trans pk_us
    have e1 : R2 1 ne = nI c := (hb2.2 1 (by decide)).trans pk_us
    refine ⟨fun a b ha' hb' => ?_, ?_, fun a ha' => ?_⟩
    · have e := ha a b ha' hb'
      have e2 := ha2 a b ha' hb'
      rw [← e, e2]
      match a, ha' with
      | 0, _ => exact pk_un (by omega)
      | 1, _ => exact pk_un (by omega)
      | 2, _ => rfl
      | 3, _ => exact pk_un (by omega)
      | 4, _ => exact (pk_un (by omega)).trans (pk_un (by omega))
      | 5, _ => exact pk_un (by omega)
      | 6, _ => rfl
      | 7, _ => exact pk_un (by omega)
      | 8, _ => rfl
    · show XV9 R2 ne = jn (if c = 26 then 4 else 5) f g
      unfold XV9
      rw [e0, e1, hb2.1]
      rcases hc with rfl | rfl
      · rw [if_pos (by decide)]; rfl
      · rw [if_neg (by decide), if_pos (by decide)]; rfl
    · have e := hb.2 a ha'
      have e2 := hb2.2 a (by simp only [List.mem_cons, List.not_mem_nil, or_false] at ha' ⊢; omega)
      rw [← e, e2]
      simp only [List.mem_cons, List.not_mem_nil, or_false] at ha'
      rcases ha' with rfl
      rfl
/-- what an expression of a level means: the number that its codes make, the class's and the reference's -/
def ME9 (lv ne : Nat) (e : EC) (F : EF) : Prop := EVp e.2 (4 * (5 - ne) + (4 - lv)) F ∧ 1 ≤ e.1.length ∧ IX9 lv ne e.1 F
def MP9 (ne : Nat) (e : EC) (F : EF) : Prop := EVp e.2 (4 * (5 - ne)) F ∧ 1 ≤ e.1.length ∧ IP9 ne e.1 F
theorem inf_pof {k : Tok} {lv : Nat} (h : lvl k = lv) (h4 : lv < 4) : (lv = 3 ∧ inf k = 22 ∧ pof k = 10) ∨ (lv = 2 ∧ (inf k = 20 ∨ inf k = 21) ∧ pof k = if inf k = 20 then 8 else 9) ∨ (lv = 1 ∧ (inf k = 24 ∨ inf k = 25) ∧ pof k = if inf k = 24 then 6 else 7) ∨ (lv = 0 ∧ (inf k = 26 ∨ inf k = 27) ∧ pof k = if inf k = 26 then 4 else 5) := by
  have hx := lvl_ix (k := k) (by omega)
  unfold lvl at h
  unfold inf pof
  rcases hx with e | e | e | e | e | e | e <;> rw [e] at h ⊢ <;> rw [← h] <;> decide
theorem me_two {lv ne : Nat} {k : Tok} {e e2 : EC} {F G : EF} (hne : ne < 6) (h4 : lv < 4) (hl : lvl k = lv) (h : if lv = 1 then EVp e.2 (4 * (5 - ne) + (4 - (lv + 1))) F ∧ 1 ≤ e.1.length ∧ IX9 2 ne e.1 F else ME9 lv ne e F) (h2 : ME9 (lv + 1) ne e2 G) : ME9 lv ne (e.1 ++ inf k :: e2.1, e.2 ++ e2.2 ++ [pof k]) (fun ce wv => jn (pof k) (F ce wv) (G ce wv)) := by
  have hlen : 1 ≤ (e.1 ++ inf k :: e2.1).length := by rw [List.length_append, List.length_cons]; omega
  have hpo : 4 ≤ pof k ∧ pof k < 16 := by
    have hx := lvl_ix (k := k) (by omega)
    unfold pof
    rcases hx with e | e | e | e | e | e | e <;> rw [e] <;> decide
  have hB : EVp e.2 (4 * (5 - ne) + (4 - lv)) F := by
    by_cases e1 : lv = 1
    · rw [if_pos e1] at h
      exact h.1.mono (by omega)
    · rw [if_neg e1] at h
      exact h.1
  refine ⟨(hB.bin h2.1 hpo.1 hpo.2).mono (by omega), hlen, ?_⟩
  rcases inf_pof hl h4 with ⟨e1, e2', e3⟩ | ⟨e1, e2', e3⟩ | ⟨e1, e2', e3⟩ | ⟨e1, e2', e3⟩
  · subst e1
    rw [e2', e3]
    exact ix_op3 (by omega) h.2.2 h2.2.2
  · subst e1
    rw [e3]
    exact ix_op2 e2' (by omega) h.2.2 h2.2.2
  · subst e1
    rw [e3]
    exact ix_op1 e2' (by omega) h.2.2 h2.2.2
  · subst e1
    rw [e3]
    exact ix_op0 e2' (by omega) h.2.2 h2.2.2
theorem me_loop {g1 : List Tok → PRs EC} {lv ne : Nat} (hne : ne < 6) (h4 : lv < 4) (h1 : lv ≠ 1) (hg : ∀ L e L', g1 L = .inr (e, L') → ∃ G, ME9 (lv + 1) ne e G) : ∀ (m : Nat) (r : EC × List Tok) (e : EC) (L' : List Tok) (F : EF), ME9 lv ne r.1 F → pLp g1 lv m r = .inr (e, L') → ∃ G, ME9 lv ne e G := by
  intro m
  induction m with
  | zero =>
    intro r e L' F h hp
    rw [← (Prod.mk.inj (Sum.inr.inj hp)).1]
    exact ⟨F, h⟩
  | succ m ih =>
    intro r e L' F h hp
    by_cases hl : lvl (hdt r.2) = lv
    · have hpl : pLp g1 lv (m + 1) r = bnd (g1 (adv r.2)) fun s => pLp g1 lv m ((r.1.1 ++ inf (hdt r.2) :: s.1.1, r.1.2 ++ s.1.2 ++ [pof (hdt r.2)]), s.2) := if_pos hl
      rw [hpl] at hp
      obtain ⟨s, hs, hp⟩ := bnd_inv hp
      obtain ⟨G, hG⟩ := hg _ s.1 s.2 hs
      exact ih _ e L' _ (me_two hne h4 hl (by rw [if_neg h1]; exact h) hG) hp
    · have hpl : pLp g1 lv (m + 1) r = .inr r := if_neg hl
      rw [hpl] at hp
      rw [← (Prod.mk.inj (Sum.inr.inj hp)).1]
      exact ⟨F, h⟩
theorem num_le (k : Tok) : num k ≤ 9999 := Nat.min_le_left _ _
theorem pv_leaf0 (m : Nat) (ce : Nat → Int32) (wv : Int32 → Int32) (st : List Int32) : pv1 ce wv st (16 * m) = nI m :: st := by
  unfold pv1
  rw [show 16 * m % 16 = 0 by omega, show 16 * m / 16 = m by omega, if_pos rfl]
theorem pv_leaf1 (m : Nat) (ce : Nat → Int32) (wv : Int32 → Int32) (st : List Int32) : pv1 ce wv st (1 + 16 * m) = ce m :: st := by
  unfold pv1
  rw [show (1 + 16 * m) % 16 = 1 by omega, show (1 + 16 * m) / 16 = m by omega, if_neg (by decide), if_pos rfl]
theorem me_part {cn : List (List Nat)} {gE gP : List Tok → PRs EC} {ne : Nat} (hcn : cn.length ≤ 6) (hE : ∀ L e L', ne < 5 → gE L = .inr (e, L') → ∃ F, ME9 0 (ne + 1) e F) (hP : ∀ L e L', ne < 5 → gP L = .inr (e, L') → ∃ F, MP9 (ne + 1) e F) {L : List Tok} {e : EC} {L' : List Tok} (h : pPa cn gE gP ne L = .inr (e, L')) : ∃ F, MP9 ne e F := by
  unfold pPa at h
  by_cases e3 : ix (hdt L) = 3
  · rw [if_pos e3] at h
    obtain ⟨y, hy, h⟩ := bnd_inv h
    by_cases h5 : 5 ≤ ne
    · rw [if_pos h5] at h; cases h
    rw [if_neg h5] at h
    have hc := pTold_inv (c := y.1) (L' := y.2) hy
    rw [← (Prod.mk.inj (Sum.inr.inj h)).1]
    exact ⟨fun ce _ => ce y.1, (EVp.leaf (fun ce wv st => pv_leaf1 y.1 ce wv st)).mono (by omega), Nat.le_refl _, IP9.leaf (by omega) (Or.inl ⟨y.1, by omega, rfl, rfl⟩)⟩
  rw [if_neg e3] at h
  by_cases e4 : ix (hdt L) = 2 ∨ ix (hdt L) = 4 ∨ ix (hdt L) = 27 ∨ ix (hdt L) = 28
  · rw [if_pos e4] at h
    by_cases h5 : 5 ≤ ne
    · rw [if_pos h5] at h; cases h
    rw [if_neg h5] at h
    by_cases i2 : ix (hdt L) = 2
    · rw [if_pos i2] at h
      rw [← (Prod.mk.inj (Sum.inr.inj h)).1]
      exact ⟨fun _ _ => nI (num (hdt L)), (EVp.leaf (fun ce wv st => pv_leaf0 _ ce wv st)).mono (by omega), Nat.le_refl _, IP9.leaf (by omega) (Or.inr ⟨num (hdt L), num_le _, rfl, rfl⟩)⟩
    rw [if_neg i2] at h
    by_cases i4 : ix (hdt L) = 4
    · rw [if_pos i4] at h
      obtain ⟨s, hs, h⟩ := bnd_inv h
      by_cases i5 : ix (hdt s.2) = 5
      · rw [if_pos i5] at h
        obtain ⟨F, h1, h2, h3⟩ := hE _ s.1 s.2 (by omega) hs
        rw [← (Prod.mk.inj (Sum.inr.inj h)).1]
        refine ⟨F, h1.mono (by omega), ?_, IP9.par (by omega) h3⟩
        show 1 ≤ (28 :: (s.1.1 ++ [29])).length
        rw [List.length_cons]
        omega
      · rw [if_neg i5] at h; cases h
    rw [if_neg i4] at h
    obtain ⟨s, hs, h⟩ := bnd_inv h
    obtain ⟨F, h1, h2, h3⟩ := hP _ s.1 s.2 (by omega) hs
    have h9 : ∃ st : Nat, True := ⟨0, trivial⟩
    have hB : 1 ≤ 4 * (5 - (ne + 1)) := by
      have := (h1 (fun _ => 0) (fun x => x) []).2 s.1.2.length
      rw [List.take_length, (h1 (fun _ => 0) (fun x => x) []).1] at this
      have e : [F (fun _ => 0) (fun x => x)].length = 1 := rfl
      have e0 : ([] : List Int32).length = 0 := rfl
      rw [e, e0] at this
      omega
    by_cases i27 : ix (hdt L) = 27
    · rw [if_pos i27, if_pos i27] at h
      rw [← (Prod.mk.inj (Sum.inr.inj h)).1]
      refine ⟨fun ce wv => wv (F ce wv), (h1.un hB (fun ce wv x r => by unfold pv1; rw [if_neg (by decide), if_neg (by decide)]; rfl) (fun ce wv => rfl)).mono (by omega), ?_, h3.worn (by omega) h2⟩
      show 1 ≤ (31 :: s.1.1).length
      rw [List.length_cons]; omega
    · rw [if_neg i27, if_neg i27] at h
      rw [← (Prod.mk.inj (Sum.inr.inj h)).1]
      refine ⟨fun ce wv => nt (F ce wv), (h1.un hB (fun ce wv x r => by unfold pv1; rw [if_neg (by decide), if_neg (by decide)]; rfl) (fun ce wv => rfl)).mono (by omega), ?_, h3.not (by omega) h2⟩
      show 1 ≤ (30 :: s.1.1).length
      rw [List.length_cons]; omega
  · rw [if_neg e4] at h; cases h
theorem me_all {cn : List (List Nat)} (hcn : cn.length ≤ 6) : ∀ n : Nat, (∀ lv ne L e L', lv ≤ 4 → ne < 6 → (pEP cn n).1 lv ne L = .inr (e, L') → ∃ F, ME9 lv ne e F) ∧ (∀ ne L e L', ne < 6 → (pEP cn n).2 ne L = .inr (e, L') → ∃ F, MP9 ne e F) := by
  intro n
  induction n with
  | zero => exact ⟨fun _ _ _ _ _ _ _ h => (by cases h), fun _ _ _ _ _ h => by cases h⟩
  | succ n ih =>
    refine ⟨fun lv ne L e L' hlv hne h => ?_, fun ne L e L' hne h => ?_⟩
    · by_cases h4 : lv < 4
      · have hg : (pEP cn (n + 1)).1 lv ne L = bnd ((pEP cn n).1 (lv + 1) ne L) (pLp ((pEP cn n).1 (lv + 1) ne) lv (if lv = 1 then 1 else 1000)) := if_pos h4
        rw [hg] at h
        obtain ⟨y, hy, h⟩ := bnd_inv h
        obtain ⟨F, hF⟩ := ih.1 (lv + 1) ne _ y.1 y.2 (by omega) hne hy
        have hF0 : ME9 lv ne y.1 F := ⟨hF.1.mono (by omega), hF.2.1, hF.2.2.down h4⟩
        by_cases e1 : lv = 1
        · rw [if_pos e1] at h
          by_cases hl : lvl (hdt y.2) = lv
          · have hpl : pLp ((pEP cn n).1 (lv + 1) ne) lv 1 y = bnd ((pEP cn n).1 (lv + 1) ne (adv y.2)) fun s => .inr ((y.1.1 ++ inf (hdt y.2) :: s.1.1, y.1.2 ++ s.1.2 ++ [pof (hdt y.2)]), s.2) := if_pos hl
            rw [hpl] at h
            obtain ⟨s, hs, h⟩ := bnd_inv h
            obtain ⟨G, hG⟩ := ih.1 (lv + 1) ne _ s.1 s.2 (by omega) hne hs
            rw [← (Prod.mk.inj (Sum.inr.inj h)).1]
            refine ⟨_, me_two hne h4 hl (F := F) ?_ hG⟩
            rw [if_pos e1]
            subst e1
            exact hF
          · have hpl : pLp ((pEP cn n).1 (lv + 1) ne) lv 1 y = .inr y := if_neg hl
            rw [hpl] at h
            rw [← (Prod.mk.inj (Sum.inr.inj h)).1]
            exact ⟨F, hF0⟩
        · rw [if_neg e1] at h
          exact me_loop hne h4 e1 (fun L e L' hh => ih.1 (lv + 1) ne L e L' (by omega) hne hh) 1000 y e L' F hF0 h
      · have hg : (pEP cn (n + 1)).1 lv ne L = (pEP cn n).2 ne L := if_neg h4
        rw [hg] at h
        obtain ⟨F, h1, h2, h3⟩ := ih.2 ne L e L' hne h
        have e4 : lv = 4 := by omega
        subst e4
        exact ⟨F, h1.mono (by omega), h2, h3.ixZ (by omega) h2⟩
    · exact me_part hcn (fun L e L' h5 hh => ih.1 0 (ne + 1) L e L' (by decide) (by omega) hh) (fun L e L' h5 hh => ih.2 (ne + 1) L e L' (by omega) hh) h
/-- an expression that was read means a number -/
theorem OKE.me {nc : Nat} {e : EC} (h : OKE nc e) (hnc : nc ≤ 6) : ∃ F, EVp e.2 24 F ∧ IX9 0 0 e.1 F := by
  obtain ⟨cn, L, L', h1, h2⟩ := h
  obtain ⟨F, h3, h4, h5⟩ := (me_all (by omega) 40).1 0 0 L e L' (by decide) (by decide) h2
  exact ⟨F, h3, h5⟩
end SF9
