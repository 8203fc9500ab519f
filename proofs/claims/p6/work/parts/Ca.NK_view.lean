/-- a programme as told: one twin each, nothing begun, nothing worn -/
def tdG (g : PGr) : MS := (g, (fun i => (g.2.2.2.getD i (0, 0, 0, ([], []), ([], []))).2.1), (fun _ => 1), 0, 0, 0, (fun _ => 0), (fun _ => 0), [])
def e0g : PGr := ([], [], [], [])
theorem told_at {g : PGr} {l : Nat} (h : l < nL g) : (tdG g).2.1 l = (lnG g l).2.1 := by
  have e := lnG_get h
  show (g.2.2.2.getD l (0, 0, 0, ([], []), ([], []))).2.1 = _
  rw [List.getD_eq_getElem?_getD, e]
  rfl
theorem MO9.tdZ {g : PGr} (hG : GK9 g) : MO9 (tdG g) := ⟨hG, fun l hl => ⟨by rw [told_at (g := g) hl]; exact (lnG_ok hG hl).2.1, Nat.le_refl 1, (by show 1 ≤ 4; decide)⟩, Nat.zero_le 4, Nat.zero_le _, fun h => (by have h : (0 : Nat) = 1 ∨ (0 : Nat) = 3 ∨ (0 : Nat) = 4 := h; omega), Nat.le_refl 0, Nat.zero_le _, fun _ => ⟨rfl, rfl, rfl⟩⟩
section VWC
variable {m m' : MS} {g : PGr} {cl : Nat} {pst pce pgi pln : Int32} {be co to gc le gr ac sq tg fr mi en cd : Nat → Int32}
theorem CMV.mkZ {w s n k u : Int32} {st tw wo ce ke : Nat → Int32} (e1 : m'.1 = m.1) (hw : w = 0) (ho : MO9 m') (hc : CLs m.1 m'.2.1 m'.2.2.1 st tw) (hm : CH9 m.1 m'.2.2.2 s n k u wo ce ke) : CMV m' w s n k u st tw wo ce ke := ⟨hw, ho, by rw [e1]; exact hc, by rw [e1]; exact hm⟩
theorem CMV.tdZ {w : Int32} {st tw wo ce ke : Nat → Int32} (hG : GK9 g) (hQ : PQ9 g pst pce pgi pln be co to gc le gr ac sq tg fr mi en cl cd) (hw : w = 0) (a : ∀ j, j < 16 → st j = sq j) (b : ∀ j, j < 16 → tw j = 1) (c : ∀ j, j < 16 → wo j = 0) : CMV (tdG g) w 0 0 0 0 st tw wo ce ke := by
  have h16 : nL g ≤ 16 := hQ.2.2.1
  have hA : LA9 g.2.2.2 ac sq tg fr mi en := hQ.2.2.2.2.2.2.2.2.2.2.1
  refine ⟨hw, MO9.tdZ hG, fun l hl => ⟨?_, b l (by have hl : l < nL g := hl; omega)⟩, rfl, rfl, rfl, rfl, fun j hj => c j hj, fun z => absurd rfl z, KE9.nil⟩
  have hl : l < nL g := hl
  rw [a l (by omega), told_at hl]
  exact (hA.atZ hl).2.1
theorem s_begin_e (m : MS) (x : Int32) : (s_begin m x).1 = m.1 ∧ (s_begin m x).2.1 = m.2.1 ∧ (s_begin m x).2.2.1 = m.2.2.1 := by
  unfold s_begin
  split <;> exact ⟨rfl, rfl, rfl⟩
theorem s_run_e (m : MS) (x : Int32) : (s_run m x).1 = m.1 ∧ (s_run m x).2.1 = m.2.1 ∧ (s_run m x).2.2.1 = m.2.2.1 := by
  unfold s_run
  split <;> exact ⟨rfl, rfl, rfl⟩
theorem s_lay_e (m : MS) (x y z : Int32) : (s_lay m x y z).1 = m.1 := by
  unfold s_lay
  split <;> rfl
theorem CMV.beginZ {x w s n k u s' n' k' u' : Int32} {st tw wo ce ke ce' : Nat → Int32} (h : CMV m w s n k u st tw wo ce ke) (hm : CH9 m.1 (s_begin m x).2.2.2 s' n' k' u' wo ce' ke) : CMV (s_begin m x) w s' n' k' u' st tw wo ce' ke := by
  obtain ⟨e1, e2, e3⟩ := s_begin_e m x
  exact CMV.mkZ e1 h.1 h.2.1.beginZ (by rw [e2, e3]; exact h.2.2.1) hm
theorem CMV.runZ {x w s n k u s' n' k' u' : Int32} {st tw wo ce ke wo' ce' ke' : Nat → Int32} (h : CMV m w s n k u st tw wo ce ke) (hm : CH9 m.1 (s_run m x).2.2.2 s' n' k' u' wo' ce' ke') : CMV (s_run m x) w s' n' k' u' st tw wo' ce' ke' := by
  obtain ⟨e1, e2, e3⟩ := s_run_e m x
  exact CMV.mkZ e1 h.1 h.2.1.runZ (by rw [e2, e3]; exact h.2.2.1) hm
theorem CMV.layZ {x y z w s n k u : Int32} {st tw wo ce ke st' tw' wo' : Nat → Int32} (h : CMV m w s n k u st tw wo ce ke) (hc : CLs m.1 (s_lay m x y z).2.1 (s_lay m x y z).2.2.1 st' tw') (hm : CH9 m.1 (s_lay m x y z).2.2.2 s n k u wo' ce ke) : CMV (s_lay m x y z) w s n k u st' tw' wo' ce ke := CMV.mkZ (s_lay_e m x y z) h.1 h.2.1.layZ hc hm
theorem CMV.freshZ {w s n k u : Int32} {st tw wo ce ke wo' : Nat → Int32} (h : CMV m w s n k u st tw wo ce ke) (hm : CH9 m.1 (s_fresh m).2.2.2 s n k u wo' ce ke) : CMV (s_fresh m) w s n k u st tw wo' ce ke := ⟨h.1, h.2.1, h.2.2.1, hm⟩
end VWC
section VWR
variable {hd hd' : MS} {ms : Nat → MS} {g : PGr} {s n k u s' n' k' u' : Int32} {st ce ip ln be co ca ic il im ac aC ls tw lf lt cd hc wo hs mk st' ce' ip' ln' be' co' ca' ic' il' im' ac' aC' ls' tw' lf' lt' cd' hc' wo' hs' : Nat → Int32}
theorem RVm.mkZ (h : RVm hd ms s n k u st ce ip ln be co ca ic il im ac aC ls tw lf lt cd hc wo hs mk) (e1 : hd'.1 = hd.1) (ho : MO9 hd') (hy : YB 0 (nL hd.1) hd'.2.1 hd'.2.2.1 ls' tw') (hk : KY0 ls tw ls' tw') (hr : RH9 hd.1 hd'.2.2.2 s' n' k' u' hc' wo' hs') : RVm hd' ms s' n' k' u' st ce ip ln be co ca ic il im ac aC ls' tw' lf lt cd hc' wo' hs' mk := by
  obtain ⟨v1, v2, v3, v4⟩ := h
  refine ⟨⟨by rw [e1]; exact v1.1, by rw [e1]; exact hy⟩, ho, by rw [e1]; exact hr, fun j hj => ?_⟩
  obtain ⟨w1, w2, w3⟩ := v4 j hj
  have hl : nL (ms j).1 ≤ 16 := w2.1.2.2.2.2.2.2.2.2.1
  exact ⟨⟨w1.1, hk _ _ _ _ (by omega) (by omega) hl w1.2⟩, w2, w3⟩
theorem RVm.beginZ {x : Int32} (h : RVm hd ms s n k u st ce ip ln be co ca ic il im ac aC ls tw lf lt cd hc wo hs mk) (hr : RH9 hd.1 (s_begin hd x).2.2.2 s' n' k' u' hc' wo' hs') : RVm (s_begin hd x) ms s' n' k' u' st ce ip ln be co ca ic il im ac aC ls tw lf lt cd hc' wo' hs' mk := by
  obtain ⟨e1, e2, e3⟩ := s_begin_e hd x
  exact h.mkZ e1 h.2.1.beginZ (by rw [e2, e3]; exact h.1.2) KY0.rf hr
theorem RVm.runZ {x : Int32} (h : RVm hd ms s n k u st ce ip ln be co ca ic il im ac aC ls tw lf lt cd hc wo hs mk) (hr : RH9 hd.1 (s_run hd x).2.2.2 s' n' k' u' hc' wo' hs') : RVm (s_run hd x) ms s' n' k' u' st ce ip ln be co ca ic il im ac aC ls tw lf lt cd hc' wo' hs' mk := by
  obtain ⟨e1, e2, e3⟩ := s_run_e hd x
  exact h.mkZ e1 h.2.1.runZ (by rw [e2, e3]; exact h.1.2) KY0.rf hr
theorem RVm.layZ {x y z : Int32} (h : RVm hd ms s n k u st ce ip ln be co ca ic il im ac aC ls tw lf lt cd hc wo hs mk) (hy : YB 0 (nL hd.1) (s_lay hd x y z).2.1 (s_lay hd x y z).2.2.1 ls' tw') (hk : KY0 ls tw ls' tw') (hr : RH9 hd.1 (s_lay hd x y z).2.2.2 s n k u hc wo' hs) : RVm (s_lay hd x y z) ms s n k u st ce ip ln be co ca ic il im ac aC ls' tw' lf lt cd hc wo' hs mk := h.mkZ (s_lay_e hd x y z) h.2.1.layZ hy hk hr
theorem RVm.freshZ (h : RVm hd ms s n k u st ce ip ln be co ca ic il im ac aC ls tw lf lt cd hc wo hs mk) (hr : RH9 hd.1 (s_fresh hd).2.2.2 s n k u hc wo' hs) : RVm (s_fresh hd) ms s n k u st ce ip ln be co ca ic il im ac aC ls tw lf lt cd hc wo' hs mk := h.mkZ rfl h.2.1 h.1.2 KY0.rf hr
theorem RVm.badZ (h : RVm hd ms s n k u st ce ip ln be co ca ic il im ac aC ls tw lf lt cd hc wo hs mk) (hf : FB8 st ce ip ln be co ca ic il im ac aC ls tw lf lt cd st' ce' ip' ln' be' co' ca' ic' il' im' ac' aC' ls' tw' lf' lt' cd') : RVm hd ms s n k u st' ce' ip' ln' be' co' ca' ic' il' im' ac' aC' ls' tw' lf' lt' cd' hc wo hs mk := by
  obtain ⟨v1, v2, v3, v4⟩ := h
  refine ⟨⟨hf.1 0 _ (by decide) (by decide) v2.1 v1.1, hf.2 0 _ _ _ (by decide) (by decide) v2.1.2.2.2.2.2.2.2.2.1 v1.2⟩, v2, v3, fun j hj => ?_⟩
  obtain ⟨w1, w2, w3⟩ := v4 j hj
  exact ⟨⟨hf.1 _ _ (by omega) (by omega) w2.1 w1.1, hf.2 _ _ _ _ (by omega) (by omega) w2.1.2.2.2.2.2.2.2.2.1 w1.2⟩, w2, w3⟩
theorem RVm.toldZ (h : RVm hd ms s n k u st ce ip ln be co ca ic il im ac aC ls tw lf lt cd hc wo hs mk) (hG : GK9 g) (hf : FG8 g st ce ip ln be co ca ic il im ac aC ls tw lf lt cd st' ce' ip' ln' be' co' ca' ic' il' im' ac' aC' ls' tw' lf' lt' cd') (hz : ∀ j, j < 16 → wo' j = 0) : RVm (tdG g) ms 0 n k u st' ce' ip' ln' be' co' ca' ic' il' im' ac' aC' ls' tw' lf' lt' cd' hc wo' hs mk := by
  obtain ⟨v1, v2, v3, v4⟩ := h
  refine ⟨⟨hf.2.2.1, hf.2.2.2⟩, MO9.tdZ hG, ⟨rfl, fun z => (by have z : (0 : Nat) = 1 ∨ (0 : Nat) = 3 ∨ (0 : Nat) = 4 := z; omega), fun z => absurd rfl z, fun j hj => hz j hj⟩, fun j hj => ?_⟩
  obtain ⟨w1, w2, w3⟩ := v4 j hj
  exact ⟨⟨hf.1 _ _ (by omega) (by omega) (by omega) w2.1 w1.1, hf.2.1 _ _ _ _ (by omega) (by omega) (by omega) w2.1.2.2.2.2.2.2.2.2.1 w1.2⟩, w2, w3⟩
theorem RPY.zero (p : Nat) : RPY p (tdG e0g) (fun _ => 0) (fun _ => 0) (fun _ => 0) (fun _ => 0) (fun _ => 0) (fun _ => 0) (fun _ => 0) (fun _ => 0) (fun _ => 0) (fun _ => 0) (fun _ => 0) (fun _ => 0) (fun _ => 0) (fun _ => 0) (fun _ => 0) (fun _ => 0) (fun _ => 0) := ⟨⟨⟨rfl, fun i y h => by cases h⟩, ⟨rfl, fun i y h => by cases h⟩, ⟨rfl, fun i y h => by cases h⟩, ⟨rfl, fun i y h => by cases h⟩⟩, fun i hi => absurd hi (Nat.not_lt_zero _)⟩
theorem RH9.zero {n k u : Int32} {hc hs : Nat → Int32} : RH9 e0g (tdG e0g).2.2.2 0 n k u hc (fun _ => 0) hs := ⟨rfl, fun z => (by have z : (0 : Nat) = 1 ∨ (0 : Nat) = 3 ∨ (0 : Nat) = 4 := z; omega), fun z => absurd rfl z, fun j hj => rfl⟩
theorem RVm.zero : RVm (tdG e0g) (fun _ => tdG e0g) 0 0 0 0 (fun _ => 0) (fun _ => 0) (fun _ => 0) (fun _ => 0) (fun _ => 0) (fun _ => 0) (fun _ => 0) (fun _ => 0) (fun _ => 0) (fun _ => 0) (fun _ => 0) (fun _ => 0) (fun _ => 0) (fun _ => 0) (fun _ => 0) (fun _ => 0) (fun _ => 0) (fun _ => 0) (fun _ => 0) (fun _ => 0) (fun _ => 0) := ⟨RPY.zero 0, MO9.tdZ GK9.nil, RH9.zero, fun j hj => ⟨RPY.zero _, MO9.tdZ GK9.nil, RH9.zero⟩⟩
theorem PQ9.zero : PQ9 e0g 0 0 0 0 (fun _ => 0) (fun _ => 0) (fun _ => 0) (fun _ => 0) (fun _ => 0) (fun _ => 0) (fun _ => 0) (fun _ => 0) (fun _ => 0) (fun _ => 0) (fun _ => 0) (fun _ => 0) 0 (fun _ => 0) := ⟨by decide, by decide, by decide, rfl, rfl, rfl, rfl, fun i y h => (by cases h), fun i y h => (by cases h), ⟨⟨by decide, fun y h => (by cases h), fun i y h => by cases h⟩, by decide, fun y h => (by cases h), fun i y h => by cases h⟩, fun i y h => (by cases h), rfl, by decide, fun i c h => by cases h⟩
theorem CMV.zero : CMV (tdG e0g) 0 0 0 0 0 (fun _ => 0) (fun _ => 0) (fun _ => 0) (fun _ => 0) (fun _ => 0) := ⟨rfl, MO9.tdZ GK9.nil, fun l hl => absurd hl (Nat.not_lt_zero _), rfl, rfl, rfl, rfl, fun j hj => rfl, fun z => absurd rfl z, KE9.nil⟩
end VWR
