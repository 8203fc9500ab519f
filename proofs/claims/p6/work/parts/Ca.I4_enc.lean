/-- the number that a row of digits makes, the first the least -/
def nBr (B : Nat) : List Nat → Nat
  | [] => 0
  | c :: l => c + B * nBr B l
theorem nBr_inj {B : Nat} : ∀ (l m : List Nat), (∀ c ∈ l, 0 < c ∧ c < B) → (∀ c ∈ m, 0 < c ∧ c < B) → nBr B l = nBr B m → l = m := by
  intro l
  induction l with
  | nil =>
    intro m _ hm e
    cases m with
    | nil => rfl
    | cons c m =>
      have h1 := (hm c List.mem_cons_self).1
      have e : 0 = c + B * nBr B m := e
      omega
  | cons c l ih =>
    intro m hl hm e
    cases m with
    | nil =>
      have h1 := (hl c List.mem_cons_self).1
      have e : c + B * nBr B l = 0 := e
      omega
    | cons d m =>
      have h1 := hl c List.mem_cons_self
      have h2 := hm d List.mem_cons_self
      have e : c + B * nBr B l = d + B * nBr B m := e
      have ec : c = d := by
        have h3 : (c + B * nBr B l) % B = (d + B * nBr B m) % B := by rw [e]
        rw [Nat.add_mul_mod_self_left, Nat.add_mul_mod_self_left, Nat.mod_eq_of_lt h1.2, Nat.mod_eq_of_lt h2.2] at h3
        exact h3
      subst ec
      have en : nBr B l = nBr B m := Nat.eq_of_mul_eq_mul_left (show 0 < B by omega) (by omega)
      rw [ih m (fun x hx => hl x (List.mem_cons_of_mem _ hx)) (fun x hx => hm x (List.mem_cons_of_mem _ hx)) en]
/-- a word: up to eight letters -/
def WD (w : List Nat) : Prop := w.length ≤ 8 ∧ ∀ c ∈ w, 97 ≤ c ∧ c ≤ 122
theorem sh_or {a c : Nat} (ha : a < 2 ^ 55) (hc : c < 256) : (lN a <<< ((8 : Int32).toInt64 &&& 63)) ||| lN c = lN (a * 256 + c) := by
  apply Int64.toBitVec_inj.mp
  apply BitVec.eq_of_toNat_eq
  have e8 : ((8 : Int32).toInt64 &&& 63) = 8 := by decide
  rw [e8, Int64.toBitVec_or, Int64.toBitVec_shiftLeft, BitVec.toNat_or]
  have es : (BitVec.smod (8 : Int64).toBitVec 64) = 8#64 := by decide
  rw [es, BitVec.shiftLeft_eq', BitVec.toNat_shiftLeft]
  have ea : (lN a).toBitVec.toNat = a := Nat.mod_eq_of_lt (by omega)
  have ec : (lN c).toBitVec.toNat = c := Nat.mod_eq_of_lt (by omega)
  have er : (lN (a * 256 + c)).toBitVec.toNat = a * 256 + c := Nat.mod_eq_of_lt (by omega)
  rw [ea, ec, er, show (8#64).toNat = 8 from rfl, Nat.shiftLeft_eq, Nat.mod_eq_of_lt (by omega)]
  have := Nat.shiftLeft_add_eq_or_of_lt (b := c) (i := 8) (by omega) a
  rw [Nat.shiftLeft_eq] at this
  rw [← this]
theorem eB_rev : ∀ m : List Nat, m.length ≤ 8 → (∀ c ∈ m, 97 ≤ c ∧ c ≤ 122) → eB m.reverse = lN (nBr 256 m) ∧ 2 * nBr 256 m < 256 ^ m.length := by
  intro m
  induction m with
  | nil => intro _ _; exact ⟨rfl, by decide⟩
  | cons c m ih =>
    intro hl hc
    have hl : m.length + 1 ≤ 8 := hl
    obtain ⟨h1, h2⟩ := ih (by omega) (fun x hx => hc x (List.mem_cons_of_mem _ hx))
    have hcc := hc c List.mem_cons_self
    have hp : 256 ^ m.length ≤ 256 ^ 7 := Nat.pow_le_pow_right (by decide) (by omega)
    have hb : nBr 256 m < 2 ^ 55 := by
      have : (256 : Nat) ^ 7 = 2 ^ 56 := by decide
      omega
    refine ⟨?_, ?_⟩
    · rw [List.reverse_cons]
      unfold eB
      rw [List.foldl_append]
      show (eB m.reverse <<< _) ||| (nI c).toInt64 = lN (c + 256 * nBr 256 m)
      rw [h1, nI_l (by omega), sh_or hb (by omega)]
      exact congrArg lN (by omega)
    · show 2 * (c + 256 * nBr 256 m) < 256 ^ (m.length + 1)
      rw [Nat.pow_succ]
      omega
theorem eW_rev : ∀ m : List Nat, m.length ≤ 8 → (∀ c ∈ m, 97 ≤ c ∧ c ≤ 122) → eW m.reverse = lN (nBr 27 (m.map (fun c => c - 96))) ∧ nBr 27 (m.map (fun c => c - 96)) < 27 ^ m.length := by
  intro m
  induction m with
  | nil => intro _ _; exact ⟨rfl, by decide⟩
  | cons c m ih =>
    intro hl hc
    have hl : m.length + 1 ≤ 8 := hl
    obtain ⟨h1, h2⟩ := ih (by omega) (fun x hx => hc x (List.mem_cons_of_mem _ hx))
    have hcc := hc c List.mem_cons_self
    refine ⟨?_, ?_⟩
    · rw [List.reverse_cons]
      unfold eW
      rw [List.foldl_append]
      show ((eW m.reverse * 27) + (nI c).toInt64) - 96 = lN ((c - 96) + 27 * nBr 27 (m.map (fun c => c - 96)))
      rw [h1, nI_l (by omega), show (27 : Int64) = lN 27 from rfl, show (96 : Int64) = lN 96 from rfl, lN_mul, lN_add, lN_sub (by omega)]
      exact congrArg lN (by omega)
    · show (c - 96) + 27 * nBr 27 (m.map (fun c => c - 96)) < 27 ^ (m.length + 1)
      rw [Nat.pow_succ]
      omega
theorem WD.rev {w : List Nat} (h : WD w) : w.reverse.length ≤ 8 ∧ ∀ c ∈ w.reverse, 97 ≤ c ∧ c ≤ 122 := ⟨by rw [List.length_reverse]; exact h.1, fun c hc => h.2 c (List.mem_reverse.mp hc)⟩
theorem eB_nat {w : List Nat} (h : WD w) : eB w = lN (nBr 256 w.reverse) ∧ nBr 256 w.reverse < 2 ^ 63 := by
  obtain ⟨h1, h2⟩ := h.rev
  obtain ⟨a, b⟩ := eB_rev w.reverse h1 h2
  rw [List.reverse_reverse] at a
  refine ⟨a, ?_⟩
  have hp : 256 ^ w.reverse.length ≤ 256 ^ 8 := Nat.pow_le_pow_right (by decide) h1
  have : (256 : Nat) ^ 8 = 2 ^ 64 := by decide
  omega
theorem eW_nat {w : List Nat} (h : WD w) : eW w = lN (nBr 27 (w.reverse.map (fun c => c - 96))) ∧ nBr 27 (w.reverse.map (fun c => c - 96)) < 2 ^ 63 := by
  obtain ⟨h1, h2⟩ := h.rev
  obtain ⟨a, b⟩ := eW_rev w.reverse h1 h2
  rw [List.reverse_reverse] at a
  refine ⟨a, ?_⟩
  have hp : 27 ^ w.reverse.length ≤ 27 ^ 8 := Nat.pow_le_pow_right (by decide) h1
  have : (27 : Nat) ^ 8 < 2 ^ 63 := by decide
  omega
theorem eB_inj {w z : List Nat} (hw : WD w) (hz : WD z) : eB w = eB z ↔ w = z := by
  refine ⟨fun e => ?_, fun e => by rw [e]⟩
  obtain ⟨a1, a2⟩ := eB_nat hw
  obtain ⟨b1, b2⟩ := eB_nat hz
  rw [a1, b1] at e
  have en := (pk_lEQ a2 b2).mp e
  have := nBr_inj _ _ (fun c hc => by have := hw.2 c (List.mem_reverse.mp hc); omega) (fun c hc => by have := hz.2 c (List.mem_reverse.mp hc); omega) en
  exact List.reverse_inj.mp this
theorem eW_inj {w z : List Nat} (hw : WD w) (hz : WD z) : eW w = eW z ↔ w = z := by
  refine ⟨fun e => ?_, fun e => by rw [e]⟩
  obtain ⟨a1, a2⟩ := eW_nat hw
  obtain ⟨b1, b2⟩ := eW_nat hz
  rw [a1, b1] at e
  have en := (pk_lEQ a2 b2).mp e
  have h0 := nBr_inj _ _ (fun c hc => by obtain ⟨x, hx, rfl⟩ := List.mem_map.mp hc; have := hw.2 x (List.mem_reverse.mp hx); omega) (fun c hc => by obtain ⟨x, hx, rfl⟩ := List.mem_map.mp hc; have := hz.2 x (List.mem_reverse.mp hx); omega) en
  have h1 : w.reverse = z.reverse := by
    have h2 := congrArg (List.map (fun c => c + 96)) h0
    rw [List.map_map, List.map_map] at h2
    have hid : ∀ l : List Nat, (∀ c ∈ l, 97 ≤ c ∧ c ≤ 122) → l.map ((fun c => c + 96) ∘ fun c => c - 96) = l := by
      intro l
      induction l with
      | nil => intro _; rfl
      | cons c l ih =>
        intro hl
        have := hl c List.mem_cons_self
        rw [List.map_cons, ih (fun x hx => hl x (List.mem_cons_of_mem _ hx))]
        show (c - 96 + 96) :: l = c :: l
        rw [show c - 96 + 96 = c by omega]
    rw [hid _ hw.rev.2, hid _ hz.rev.2] at h2
    exact h2
  exact List.reverse_inj.mp h1
/-- the words that are kept, in the class's order: token 12 is the first -/
def KW : List (List Nat) := [[115, 116, 117, 102, 102], [98, 101, 97, 114, 115], [99, 111, 115, 116, 115], [99, 101, 108, 108], [105, 110, 112, 117, 116], [108, 105, 110, 101], [107, 101, 101, 112], [98, 121], [115, 101, 116], [119, 114, 105, 116, 101], [103, 111], [105, 102], [99, 97, 108, 108], [109, 101, 110, 100], [104, 97, 108, 116], [119, 111, 114, 110], [110, 111, 116], [97, 110, 100], [111, 114]]
theorem KW_wd : ∀ z ∈ KW, WD z := by unfold WD KW; decide
def kwI (w : List Nat) : Nat := if w ∈ KW then 12 + KW.idxOf w else 3
def sgI (c : Nat) : Nat := if c = 40 then 4 else if c = 41 then 5 else if c = 59 then 6 else if c = 60 then 7 else if c = 61 then 8 else if c = 43 then 9 else if c = 45 then 10 else if c = 42 then 11 else 1
/-- the class's number of a token -/
def ix (k : Tok) : Nat := if k.1 = 0 then 0 else if k.1 = 1 then kwI k.2.2 else if k.1 = 2 then 2 else if k.1 = 3 then sgI (k.2.2.headD 0) else 1
theorem KW_eB : KW.map eB = (List.range 19).map (fun j => tkS (12 + j)) := by decide +kernel
theorem KW_eW : KW.map eW = [10506516, 1162531, 1903978, 63030, 5070782, 243140, 220309, 79, 14006, 12584543, 204, 249, 60114, 259906, 158537, 464144, 10631, 1111, 423] := by decide +kernel
