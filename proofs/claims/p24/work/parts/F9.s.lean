section FB
variable {D : va_G} {A : Nat → Prop} {H : Heap} {FR B E S X Y Z : va_W} {c h : Nat × va_E}
theorem fb1 (h : va_P D vwCl (((FR ++ B) ++ E) ++ [c]) H) : va_P D vwCl ((FR ++ B) ++ ([c] ++ E)) H := by rw [← List.append_assoc]; exact h.swap
theorem fb1D (h : va_D A (((FR ++ B) ++ E) ++ [c])) : va_D A ((FR ++ B) ++ ([c] ++ E)) := by rw [← List.append_assoc]; exact h.swap
theorem fb2e : (FR ++ B) ++ (X ++ E) = (FR ++ (B ++ X)) ++ E := by simp only [List.append_assoc]
theorem fb2 (h : va_P D vwCl ((FR ++ B) ++ (X ++ E)) H) : va_P D vwCl ((FR ++ (B ++ X)) ++ E) H := by rw [← fb2e]; exact h
theorem fb2D (h : va_D A ((FR ++ B) ++ (X ++ E))) : va_D A ((FR ++ (B ++ X)) ++ E) := by rw [← fb2e]; exact h
theorem fb3 (hh : va_P D vwCl ((([h] ++ B) ++ E) ++ [c]) H) : va_P D vwCl (([h, c] ++ B) ++ E) H := by
  rw [List.append_assoc [h] B E] at hh
  have := hh.swap
  rw [show ([h] ++ [c]) ++ (B ++ E) = ([h, c] ++ B) ++ E by simp only [List.append_assoc, List.cons_append, List.nil_append]] at this
  exact this
theorem fb3D (hh : va_D A ((([h] ++ B) ++ E) ++ [c])) : va_D A (([h, c] ++ B) ++ E) := by
  rw [List.append_assoc [h] B E] at hh
  have := hh.swap
  rw [show ([h] ++ [c]) ++ (B ++ E) = ([h, c] ++ B) ++ E by simp only [List.append_assoc, List.cons_append, List.nil_append]] at this
  exact this
theorem fb4e : ((FR ++ B) ++ (S ++ E)) ++ [c] = (((FR ++ B) ++ S) ++ E) ++ [c] := by simp only [List.append_assoc]
theorem fb4 (h : va_P D vwCl (((FR ++ B) ++ (S ++ E)) ++ [c]) H) : va_P D vwCl (((FR ++ B) ++ S) ++ ([c] ++ E)) H := by rw [fb4e] at h; exact fb1 h
theorem fb4D (h : va_D A (((FR ++ B) ++ (S ++ E)) ++ [c])) : va_D A (((FR ++ B) ++ S) ++ ([c] ++ E)) := by rw [fb4e] at h; exact fb1D h
theorem fb6 (hh : va_P D vwCl ((([h, c] ++ B) ++ X) ++ E) H) : va_P D vwCl ((([h] ++ (B ++ [c])) ++ X) ++ E) H := by
  rw [show (([h, c] ++ B) ++ X) ++ E = ([h] ++ [c]) ++ (B ++ (X ++ E)) by simp only [List.append_assoc, List.cons_append, List.nil_append]] at hh
  have h2 := hh.swap
  rw [show ([h] ++ (B ++ (X ++ E))) ++ [c] = (([h] ++ B) ++ (X ++ E)) ++ [c] by simp only [List.append_assoc]] at h2
  have h3 := h2.swap
  rw [show (([h] ++ B) ++ [c]) ++ (X ++ E) = (([h] ++ (B ++ [c])) ++ X) ++ E by simp only [List.append_assoc]] at h3
  exact h3
theorem fb6D (hh : va_D A ((([h, c] ++ B) ++ X) ++ E)) : va_D A ((([h] ++ (B ++ [c])) ++ X) ++ E) := by
  rw [show (([h, c] ++ B) ++ X) ++ E = ([h] ++ [c]) ++ (B ++ (X ++ E)) by simp only [List.append_assoc, List.cons_append, List.nil_append]] at hh
  have h2 := hh.swap
  rw [show ([h] ++ (B ++ (X ++ E))) ++ [c] = (([h] ++ B) ++ (X ++ E)) ++ [c] by simp only [List.append_assoc]] at h2
  have h3 := h2.swap
  rw [show (([h] ++ B) ++ [c]) ++ (X ++ E) = (([h] ++ (B ++ [c])) ++ X) ++ E by simp only [List.append_assoc]] at h3
  exact h3
end FB
def bT (ak : Nat → ClassId) (ad : Nat → Nat) (h : Nat) (u : Nat → Nat) : va_W := [(h, .inr (5, tob u (nI 0) 0)), (u 0, .inl (ak 2, 1000, .inl (fun _ => 0))), (u 1, .inl (ak 4, 1001, .inr (.inr (.inr (.inr (tokA ad (fun _ => 31))))))), (u 2, .inl (ak 0, 1001, .inl (fun _ => 0))), (u 3, .inl (ak 1, 1001, .inr (.inl (fun _ => 0))))]
def bE (ak : Nat → ClassId) (h : Nat) (u : Nat → Nat) : va_W := PWl ak h u 0 (nI 0) (nI 0) (nI 0) (nI 0) (fun _ => 0) (fun _ => 0) (fun _ => 0) (fun _ => 0) (fun _ => 0) (fun _ => 0) (fun _ => 0) (fun _ => 0) (fun _ => 0) (fun _ => 0) (fun _ => 0) (fun _ => 0) (fun _ => 0)
def bR (ak : Nat → ClassId) (ad : Nat → Nat) (h p0 p1 : Nat) (u : Nat → Nat) : va_W := [(h, .inr (3, rob ad u p0 0 p1 0 0 0 0 0)), (u 0, .inl (ak 1, 4, .inr (.inl (fun _ => 0)))), (u 1, .inl (ak 1, 6, .inr (.inl (fun _ => 0)))), (u 2, .inl (ak 0, 1000, .inl (fun _ => 0)))]
def bM (ak : Nat → ClassId) (N h p0 : Nat) (u : Nat → Nat) : va_W := [(h, .inr (1, xob u p0 0 0 0 0 0)), (u 0, .inl (ak 0, 16, .inl (fun _ => 0))), (u 1, .inl (ak 0, 16, .inl (fun _ => 0))), (u 2, .inl (ak 0, 16, .inl (fun _ => 0))), (u 3, .inl (ak 0, 6, .inl (fun _ => 0))), (u 4, .inl (ak 0, N, .inl (fun _ => 0))), (u 5, .inl (ak 0, 32, .inl (fun _ => 0)))]
def bS (ak : Nat → ClassId) (h : Nat) (u : Nat → Nat) : va_W := [(h, .inr (4, sob u none 0)), (u 0, .inl (ak 0, 16, .inl (fun _ => 0))), (u 1, .inl (ak 0, 16, .inl (fun _ => 0))), (u 2, .inl (ak 0, 16, .inl (fun _ => 0))), (u 3, .inl (ak 0, 16, .inl (fun _ => 0)))]
/-- the tape and the reader at the start -/
abbrev tr0 (pe : Nat) : (Int32) × (Nat → Int32) × (Nat → Nat) × (Nat → Int32) × (Nat → Int64) × (Int32) × (Nat) × (Int32) × (Nat) × (Int32) × (Int64) × (Int32) × (Nat → Int64) × (Nat → Int64) × (Nat → Int32) := (0, fun _ => 0, fun _ => 31, fun _ => 0, fun _ => 0, 0, pe, 0, 0, 0, 0, 0, fun _ => 0, fun _ => 0, fun _ => 0)
set_option maxRecDepth 100000 in
theorem xl_cells (ak : Nat → ClassId) (ad : Nat → Nat) (h7 : Nat) (xa ta ra ma wa ga sa la mk : Nat → Nat) (ka : Nat → Nat → Nat) (E : va_W) : (([(h7, .inr (6, wob xa))] ++ ((((((([] ++ bT ak ad (xa 0) ta) ++ bR ak ad (xa 2) (xa 0) (xa 1) ra) ++ bM ak 200 (xa 3) (xa 1) ma) ++ bM ak 1000 (xa 4) (xa 1) wa) ++ bM ak 1000 (xa 5) (xa 1) ga)) ++ [(xa 6, .inl (ak 5, 4, .inr (.inr (.inr (.inr (mkA mk))))))])) ++ ((((([] ++ [(xa 7, .inl (ak 3, 4, .inl (fun _ => 0)))]) ++ bM ak 200 (mk 0) (xa 1) (ka 0)) ++ bM ak 200 (mk 1) (xa 1) (ka 1)) ++ bM ak 200 (mk 2) (xa 1) (ka 2)) ++ bM ak 200 (mk 3) (xa 1) (ka 3))) ++ (bS ak (xa 8) sa ++ (LB ak (xa 9) (xa 1) la ++ E)) = XL ak ad h7 xa ta ra ma wa ga sa la (fun i => la 1 + 1 + i) mk ka 0 (fun _ => (xa 1, fun _ => 0, fun _ _ => 0)) (tr0 (xa 1)) (fun _ => 0) none 0 (fun _ _ => 0) (xa 1) 0 0 (fun _ => 0) (fun _ _ => 0) ++ E := by
  simp only [bT, bR, bM, bS, LB, XL, List.append_assoc, List.cons_append, List.nil_append]
theorem pk_zero : PK 0 0 0 0 (fun _ => 0) (fun _ => 0) 0 (fun _ => 0) := ⟨Nat.zero_le _, Nat.zero_le _, Nat.zero_le _, Nat.zero_le _, fun _ => ⟨0, by decide, rfl⟩, fun _ => ⟨0, by decide, rfl⟩, by decide, fun i h => absurd h (Nat.not_lt_zero _)⟩
theorem mi_zero {ak : Nat → ClassId} {p : Nat} {u : Nat → Nat} : MI ak (bE ak p u) (fun _ => e0g) (tdG e0g) (p, (fun _ => 0), (fun _ _ => 0)) := ⟨⟨u, 0, 0, 0, 0, 0, _, _, _, _, _, _, _, _, _, _, _, _, _, pk_zero, PQ9.zero, fun q hq => hq⟩, ⟨0, 0, rfl, rfl, Nat.le_refl _, Nat.zero_le _⟩, fun l _ => (show vp_in (0 : Int32) 4 by unfold vp_in; decide), CMV.zero, rfl⟩
theorem ix_zero (ak : Nat → ClassId) (ad : Nat → Nat) (h7 : Nat) (xa ta ra ma wa ga sa la gq mk : Nat → Nat) (ka : Nat → Nat → Nat) (u : Nat → Nat) : IX ak ad h7 v0 (XL ak ad h7 xa ta ra ma wa ga sa la gq mk ka 0 (fun _ => (xa 1, fun _ => 0, fun _ _ => 0)) (tr0 (xa 1)) (fun _ => 0) none 0 (fun _ _ => 0) (xa 1) 0 0 (fun _ => 0) (fun _ _ => 0) ++ bE ak (xa 1) u) :=
  ⟨xa, ta, ra, ma, wa, ga, sa, la, gq, mk, ka, _, _, _, _, _, _, _, _, _, _, _, _, (fun _ => e0g), rfl, TL.nil, fun a h => (by cases h), mi_zero, mi_zero, mi_zero, mi_zero, mi_zero, fun _ _ => ⟨fun _ => rfl, fun _ => rfl⟩, fun a h => (by cases h)⟩
theorem mk_four (a b c d : Nat) (mk : Nat → Nat) (h0 : mk 0 = a) (h1 : mk 1 = b) (h2 : mk 2 = c) (h3 : mk 3 = d) : va_up (va_up (va_up (va_up (fun _ => none) (Int32.toNatClampNeg 0) (some a)) (Int32.toNatClampNeg 1) (some b)) (Int32.toNatClampNeg 2) (some c)) (Int32.toNatClampNeg 3) (some d) = mkA mk := by
  subst h0
  subst h1
  subst h2
  subst h3
  funext i
  match i with
  | 0 => rfl
  | 1 => rfl
  | 2 => rfl
  | 3 => rfl
  | n + 4 =>
    rw [show Int32.toNatClampNeg 0 = 0 from rfl, show Int32.toNatClampNeg 1 = 1 from rfl, show Int32.toNatClampNeg 2 = 2 from rfl, show Int32.toNatClampNeg 3 = 3 from rfl]
    rw [va_up_ne _ _ (by omega), va_up_ne _ _ (by omega), va_up_ne _ _ (by omega), va_up_ne _ _ (by omega)]
    exact (if_neg (by omega)).symm
