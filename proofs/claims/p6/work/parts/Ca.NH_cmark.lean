/-- a machine of the class's that stands: hand, mark -/
def CMV (m : MS) (w s n k u : Int32) (st tw wo ce ke : Nat → Int32) : Prop := w = 0 ∧ MO9 m ∧ CLs m.1 m.2.1 m.2.2.1 st tw ∧ CH9 m.1 m.2.2.2 s n k u wo ce ke
section CMK
variable {m m' : MS} {hp kp : Nat} {hw hs hn ha hb kw ks kn ka kb : Int32} {hst htw hwo hce hke kst ktw kwo kce kke bm : Nat → Int32}
theorem sq1_copy {op mp : Nat} {w s n a b mw ms mn ma mb : Int32} {os ot oo oc ok st tw wo ce ke : Nat → Int32} {Φ : Nat → Int32 → Int32 → Int32 → Int32 → Int32 → (Nat → Int32) → (Nat → Int32) → (Nat → Int32) → (Nat → Int32) → (Nat → Int32) → Prop} (hM : CMV m w s n a b os ot oo oc ok) (hΦ : ∀ st' tw' wo' ce' ke', CMV m w s n a b st' tw' wo' ce' ke' → Φ op w s n a b st' tw' wo' ce' ke') : wl_X1_copy op w s n a b os ot oo oc ok 200 200 mp mw ms mn ma mb st tw wo ce ke Φ := by
  obtain ⟨h1, h2, h3, h4⟩ := hM
  have h16 : nL m.1 ≤ 16 := h2.1.2.2.2.2.2.2.2.2.1
  have h6 : nC m.1 ≤ 6 := h2.1.2.2.1
  unfold wl_X1_copy wl_X1_layLike
  rw [if_min (by decide) (by decide), Nat.min_self, nI_clamp (n := 200) (by decide)]
  refine sq_fill (rl := 16) (by decide) (fun ar _ _ _ _ _ => hΦ _ _ _ _ _ ⟨h1, h2, h3.cpy h16, h4.1, h4.2.1, h4.2.2.1, h4.2.2.2.1, fun i hi => ?_, fun z i hi => ?_, fun i y hy hi => ?_⟩)
  · rw [pk_cpy_in (Nat.zero_le _) (by omega), show 0 + (i - 0) = i by omega]; exact h4.2.2.2.2.1 i hi
  · rw [pk_cpy_in (Nat.zero_le _) (by omega), show 0 + (i - 0) = i by omega]; exact h4.2.2.2.2.2.1 z i hi
  · rw [pk_cpy_in (Nat.zero_le _) (by omega), show 0 + (i - 0) = i by omega]; exact h4.2.2.2.2.2.2 i y hy hi
theorem sq7_mark0 {y : Int32} {Φ : PCmk} (hH : CMV m hw hs hn ha hb hst htw hwo hce hke) (hK : CMV m' kw ks kn ka kb kst ktw kwo kce kke)
    (h0 : ¬ y = 0 → bm 0 = 0 → Φ 0 hp hw hs hn ha hb hst htw hwo hce hke bm kp kw ks kn ka kb kst ktw kwo kce kke)
    (h1 : ∀ kst' ktw' kwo' kce' kke' : Nat → Int32, y = 0 → CMV m hw hs hn ha hb kst' ktw' kwo' kce' kke' → Φ 1 hp hw hs hn ha hb hst htw hwo hce hke (upd bm 0 (vp_nar .boolean 1)) hp hw hs hn ha hb kst' ktw' kwo' kce' kke')
    (h2 : ∀ hst' htw' hwo' hce' hke' : Nat → Int32, ¬ y = 0 → ¬ bm 0 = 0 → CMV m' kw ks kn ka kb hst' htw' hwo' hce' hke' → Φ 1 kp kw ks kn ka kb hst' htw' hwo' hce' hke' bm kp kw ks kn ka kb kst ktw kwo kce kke) : wl_X7_mark0 y hp hw hs hn ha hb hst htw hwo hce hke bm kp kw ks kn ka kb kst ktw kwo kce kke Φ := by
  unfold wl_X7_mark0
  refine ⟨fun z => absurd z (by decide), fun _ => ⟨fun z => absurd z (by decide), fun _ => ⟨fun z => absurd z (by decide), fun _ => ⟨fun ey => ?_, fun ey => ⟨fun eb => ?_, fun eb => h0 ey eb⟩⟩⟩⟩⟩
  · exact ⟨fun _ => sq1_copy hH (fun st' tw' wo' ce' ke' h => h1 _ _ _ _ _ ey h), fun z => absurd ey z⟩
  · exact ⟨fun z => absurd z ey, fun _ => sq1_copy hK (fun st' tw' wo' ce' ke' h => h2 _ _ _ _ _ ey eb h)⟩
theorem sq7_mark1 {y : Int32} {Φ : PCmk} (hH : CMV m hw hs hn ha hb hst htw hwo hce hke) (hK : CMV m' kw ks kn ka kb kst ktw kwo kce kke)
    (h0 : ¬ y = 0 → bm 1 = 0 → Φ 0 hp hw hs hn ha hb hst htw hwo hce hke bm kp kw ks kn ka kb kst ktw kwo kce kke)
    (h1 : ∀ kst' ktw' kwo' kce' kke' : Nat → Int32, y = 0 → CMV m hw hs hn ha hb kst' ktw' kwo' kce' kke' → Φ 1 hp hw hs hn ha hb hst htw hwo hce hke (upd bm 1 (vp_nar .boolean 1)) hp hw hs hn ha hb kst' ktw' kwo' kce' kke')
    (h2 : ∀ hst' htw' hwo' hce' hke' : Nat → Int32, ¬ y = 0 → ¬ bm 1 = 0 → CMV m' kw ks kn ka kb hst' htw' hwo' hce' hke' → Φ 1 kp kw ks kn ka kb hst' htw' hwo' hce' hke' bm kp kw ks kn ka kb kst ktw kwo kce kke) : wl_X7_mark1 y hp hw hs hn ha hb hst htw hwo hce hke bm kp kw ks kn ka kb kst ktw kwo kce kke Φ := by
  unfold wl_X7_mark1
  refine ⟨fun z => absurd z (by decide), fun _ => ⟨fun z => absurd z (by decide), fun _ => ⟨fun z => absurd z (by decide), fun _ => ⟨fun ey => ?_, fun ey => ⟨fun eb => ?_, fun eb => h0 ey eb⟩⟩⟩⟩⟩
  · exact ⟨fun _ => sq1_copy hH (fun st' tw' wo' ce' ke' h => h1 _ _ _ _ _ ey h), fun z => absurd ey z⟩
  · exact ⟨fun z => absurd z ey, fun _ => sq1_copy hK (fun st' tw' wo' ce' ke' h => h2 _ _ _ _ _ ey eb h)⟩
theorem sq7_mark2 {y : Int32} {Φ : PCmk} (hH : CMV m hw hs hn ha hb hst htw hwo hce hke) (hK : CMV m' kw ks kn ka kb kst ktw kwo kce kke)
    (h0 : ¬ y = 0 → bm 2 = 0 → Φ 0 hp hw hs hn ha hb hst htw hwo hce hke bm kp kw ks kn ka kb kst ktw kwo kce kke)
    (h1 : ∀ kst' ktw' kwo' kce' kke' : Nat → Int32, y = 0 → CMV m hw hs hn ha hb kst' ktw' kwo' kce' kke' → Φ 1 hp hw hs hn ha hb hst htw hwo hce hke (upd bm 2 (vp_nar .boolean 1)) hp hw hs hn ha hb kst' ktw' kwo' kce' kke')
    (h2 : ∀ hst' htw' hwo' hce' hke' : Nat → Int32, ¬ y = 0 → ¬ bm 2 = 0 → CMV m' kw ks kn ka kb hst' htw' hwo' hce' hke' → Φ 1 kp kw ks kn ka kb hst' htw' hwo' hce' hke' bm kp kw ks kn ka kb kst ktw kwo kce kke) : wl_X7_mark2 y hp hw hs hn ha hb hst htw hwo hce hke bm kp kw ks kn ka kb kst ktw kwo kce kke Φ := by
  unfold wl_X7_mark2
  refine ⟨fun z => absurd z (by decide), fun _ => ⟨fun z => absurd z (by decide), fun _ => ⟨fun z => absurd z (by decide), fun _ => ⟨fun ey => ?_, fun ey => ⟨fun eb => ?_, fun eb => h0 ey eb⟩⟩⟩⟩⟩
  · exact ⟨fun _ => sq1_copy hH (fun st' tw' wo' ce' ke' h => h1 _ _ _ _ _ ey h), fun z => absurd ey z⟩
  · exact ⟨fun z => absurd z ey, fun _ => sq1_copy hK (fun st' tw' wo' ce' ke' h => h2 _ _ _ _ _ ey eb h)⟩
theorem sq7_mark3 {y : Int32} {Φ : PCmk} (hH : CMV m hw hs hn ha hb hst htw hwo hce hke) (hK : CMV m' kw ks kn ka kb kst ktw kwo kce kke)
    (h0 : ¬ y = 0 → bm 3 = 0 → Φ 0 hp hw hs hn ha hb hst htw hwo hce hke bm kp kw ks kn ka kb kst ktw kwo kce kke)
    (h1 : ∀ kst' ktw' kwo' kce' kke' : Nat → Int32, y = 0 → CMV m hw hs hn ha hb kst' ktw' kwo' kce' kke' → Φ 1 hp hw hs hn ha hb hst htw hwo hce hke (upd bm 3 (vp_nar .boolean 1)) hp hw hs hn ha hb kst' ktw' kwo' kce' kke')
    (h2 : ∀ hst' htw' hwo' hce' hke' : Nat → Int32, ¬ y = 0 → ¬ bm 3 = 0 → CMV m' kw ks kn ka kb hst' htw' hwo' hce' hke' → Φ 1 kp kw ks kn ka kb hst' htw' hwo' hce' hke' bm kp kw ks kn ka kb kst ktw kwo kce kke) : wl_X7_mark3 y hp hw hs hn ha hb hst htw hwo hce hke bm kp kw ks kn ka kb kst ktw kwo kce kke Φ := by
  unfold wl_X7_mark3
  refine ⟨fun z => absurd z (by decide), fun _ => ⟨fun z => absurd z (by decide), fun _ => ⟨fun z => absurd z (by decide), fun _ => ⟨fun ey => ?_, fun ey => ⟨fun eb => ?_, fun eb => h0 ey eb⟩⟩⟩⟩⟩
  · exact ⟨fun _ => sq1_copy hH (fun st' tw' wo' ce' ke' h => h1 _ _ _ _ _ ey h), fun z => absurd ey z⟩
  · exact ⟨fun z => absurd z ey, fun _ => sq1_copy hK (fun st' tw' wo' ce' ke' h => h2 _ _ _ _ _ ey eb h)⟩
end CMK
