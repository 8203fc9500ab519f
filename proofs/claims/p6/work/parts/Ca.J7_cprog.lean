theorem sq7_programme {ts : List Nat} {sg code hst htw hwo : Nat → Int32} {a b p f C hs hn ha hb : Int32} {tok hp : Nat} {v : Int64} {sn cn : Nat → Int64} {tk : Nat → Nat} {pl : Nat → Int32} {vl : Nat → Int64} {Φ : PCpr} (hT : TL ts sg)
    (bad : ∀ e, parse ts = .inl e → 0 < e → e < 100000 → ∀ pg d t tok p v sn cn code c tk pl vl st ce gi ln be co to gc le gr ac sq tg fr mi en cl cd, Φ (nI e) pg d t tok p v (nI e) sn cn code 0 c tk pl vl st ce gi ln be co to gc le gr ac sq tg fr mi en cl cd hp hs hn ha hb hst htw hwo)
    (good : ∀ g, parse ts = .inr g → ∀ pg d t tok p v sn cn code c tk pl vl st ce gi ln be co to gc le gr ac sq tg fr mi en cl cd, PQ9 g st ce gi ln be co to gc le gr ac sq tg fr mi en cl cd → ∀ hst' htw' hwo' : Nat → Int32, (∀ j, j < 16 → hst' j = sq j) → (∀ j, j < 16 → htw' j = 1) → (∀ j, j < 16 → hwo' j = 0) → Φ 0 pg d t tok p v 0 sn cn code 0 c tk pl vl st ce gi ln be co to gc le gr ac sq tg fr mi en cl cd pg 0 0 0 0 hst' htw' hwo') : wl_X7_programme sg a b tok p v f sn cn code (nI ts.length) C tk pl vl hp hs hn ha hb hst htw hwo Φ := by
  unfold wl_X7_programme
  refine sq_X3_read hT (fun pg d t tok p v f sn cn code c tk pl vl st ce gi ln be co to gc le gr ac sq tg fr mi en cl cd h => ?_)
  cases hx : parse ts with
  | inl e =>
    rw [hx] at h
    have h : f = nI e ∧ 0 < e ∧ e < 100000 := h
    obtain ⟨h1, h2, h3⟩ := h
    subst h1
    exact ⟨fun _ => bad e hx h2 h3 _ _ _ _ _ _ _ _ _ _ _ _ _ _ _ _ _ _ _ _ _ _ _ _ _ _ _ _ _ _ _, fun z => absurd z (nI_ne0 h2 (by omega))⟩
  | inr g =>
    rw [hx] at h
    have h : f = 0 ∧ PQ9 g st ce gi ln be co to gc le gr ac sq tg fr mi en cl cd := h
    obtain ⟨h1, h2⟩ := h
    subst h1
    refine ⟨fun z => absurd rfl z, fun _ => ?_⟩
    unfold wl_X1_takeAsTold
    refine sq_fill (rl := 16) (by decide) (fun t1 h3 _ => ?_)
    refine sq_fill (rl := 16) (by decide) (fun t2 h4 _ => ?_)
    refine good g hx _ _ _ _ _ _ _ _ _ _ _ _ _ _ _ _ _ _ _ _ _ _ _ _ _ _ _ _ _ _ _ h2 _ t1 t2 (fun j hj => ?_) h3 h4
    rw [pk_cpy_in (Nat.zero_le _) (by omega), show 0 + (j - 0) = j by omega]
