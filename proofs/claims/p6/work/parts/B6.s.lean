section EX
variable {c : Nat} {tk : Nat → Nat} {pl : Nat → Int32} {vl : Nat → Int64} {cn : Nat → Int64} {ce : Int32}
abbrev PXe : Type := Int32 → Int32 → Nat → Int32 → Int64 → Int32 → (Nat → Int32) → Prop
/-- what reading an E leaves: no more code than tokens were taken -/
def EP (c : Nat) (tk : Nat → Nat) (t d : Nat) (Φ : PXe) : Prop := ∀ (d' t' tok' : Nat) (p' : Int32) (v' : Int64) (f' : Int32) (code' : Nat → Int32), RT c tk t' tok' → t ≤ t' → d' + t ≤ d + t' → d' ≤ 1000 → CD code' d' → Φ (nI d') (nI t') tok' p' v' f' code'
theorem sp_X3_beginsPart {tok : Nat} {Φ : Int32 → Prop} (ht : tok < 31) (h1 : (tok = 2 ∨ tok = 3 ∨ tok = 4 ∨ tok = 27 ∨ tok = 28) → Φ 1) (h0 : Φ 0) : wp_X3_beginsPart tok Φ := by
  unfold wp_X3_beginsPart
  exact ⟨ht, fun e => h1 (by omega), fun _ => ⟨ht, fun e => h1 (by omega), fun _ => ⟨ht, fun e => h1 (by omega), fun _ => ⟨ht, fun e => h1 (by omega), fun _ => ⟨ht, fun _ => h0, fun e => h1 (by omega)⟩⟩⟩⟩⟩
theorem sp_ep (hT : TT c tk) : ∀ n : Nat, (∀ (lv ne t tok d : Nat) (p f : Int32) (v : Int64) (code : Nat → Int32) (Φ : PXe), lv ≤ 4 → ne ≤ 5 → 6 * (5 - ne) + 2 + (4 - lv) ≤ n → RT c tk t tok → d ≤ 1000 → CD code d → EP c tk t d Φ → (ep_X3_expression cn (nI c) tk pl vl ce n).1 (nI lv) (nI ne) (nI d) (nI t) tok p v f code Φ) ∧ (∀ (ne t tok d : Nat) (p f : Int32) (v : Int64) (code : Nat → Int32) (Φ : PXe), ne ≤ 5 → 6 * (5 - ne) + 1 ≤ n → RT c tk t tok → d ≤ 1000 → CD code d → EP c tk t d Φ → (ep_X3_expression cn (nI c) tk pl vl ce n).2 (nI ne) (nI d) (nI t) tok p v f code Φ) := by
  intro n
  induction n with
  | zero => exact ⟨fun lv ne t tok d p f v code Φ _ _ h => absurd h (by omega), fun ne t tok d p f v code Φ _ h => absurd h (by omega)⟩
  | succ n ih =>
    refine ⟨?_, ?_⟩
    · intro lv ne t tok d p f v code Φ hlv hne hn hR hd hc hΦ
      show wp_X3_expression cn (nI c) tk pl vl ce (ep_X3_expression cn (nI c) tk pl vl ce n).1 (ep_X3_expression cn (nI c) tk pl vl ce n).2 (nI lv) (nI ne) (nI d) (nI t) tok p v f code Φ
      unfold wp_X3_expression
      rw [nI_1]
      refine pk_lt lv 4 (fun h4 => ?_) (fun h4 => ih.2 ne t tok d p f v code _ hne (by omega) hR hd hc hΦ)
      have loop : ∀ M : Nat, M ≤ 1000 → ∀ (m i d' t' tok' : Nat) (p' : Int32) (v' : Int64) (f' : Int32) (code' : Nat → Int32), m = M - i → i ≤ M → RT c tk t' tok' → t ≤ t' → d' + t ≤ d + t' → d' ≤ 1000 → CD code' d' → lf_X3_expression_35 cn (nI c) tk pl vl ce (ep_X3_expression cn (nI c) tk pl vl ce n).1 (ep_X3_expression cn (nI c) tk pl vl ce n).2 (nI lv) (nI ne) Φ (m + 1) (nI d') (nI t') tok' p' v' f' code' (nI M) (nI i) := by
        intro M hM m
        induction m with
        | zero =>
          intro i d' t' tok' p' v' f' code' hm hi r1 r2 r3 r4 r5
          show lb_X3_expression_35 _ _ _ _ _ _ _ _ _ _ _ _ _ _ _ _ _ _ _ _ _
          unfold lb_X3_expression_35
          exact ⟨fun _ => hΦ _ _ _ _ _ _ _ r1 r2 r3 r4 r5, fun z => absurd (nI_le (by omega) (by omega)) z⟩
        | succ m ihm =>
          intro i d' t' tok' p' v' f' code' hm hi r1 r2 r3 r4 r5
          show lb_X3_expression_35 _ _ _ _ _ _ _ _ _ _ _ _ _ _ _ _ _ _ _ _ _
          unfold lb_X3_expression_35
          rw [nI_1, nI_1]
          have go := hΦ d' t' tok' p' v' f' code' r1 r2 r3 r4 r5
          refine ⟨fun _ => go, fun _ => ⟨fun _ => go, fun _ => ⟨r1.lt hT, fun _ => go, fun e => ⟨r1.lt hT, ?_⟩⟩⟩⟩
          have nz : ¬ tok' = 0 := by
            intro z
            rw [z] at e
            have : (4 : Nat) = lv := (nI_eq (a := 4) (b := lv) (by decide) (by omega)).mp e
            omega
          refine sp_X3_advance hT r1 (fun t1 tok1 p1 v1 q1 q2 q3 => ?_)
          have e1 := q3 nz
          refine ih.1 (lv + 1) ne t1 tok1 d' p1 f' v1 code' _ (by omega) hne (by omega) q1 r4 r5 (fun d2 t2 tok2 p2 v2 f2 code2 s1 s2 s3 s4 s5 => ?_)
          exact sp_X3_put s4 s5 (ck_op (r1.lt hT)) (fun d3 code3 u1 u2 u3 => ihm (i + 1) d3 t2 tok2 p2 v2 f2 code3 (by omega) (by omega) s1 (by omega) (by omega) u2 u3)
      refine ih.1 (lv + 1) ne t tok d p f v code _ (by omega) hne (by omega) hR hd hc (fun d' t' tok' p' v' f' code' r1 r2 r3 r4 r5 => ?_)
      exact ⟨fun _ => ⟨1000 - 0 + 1, loop 1000 (by decide) (1000 - 0) 0 d' t' tok' p' v' f' code' rfl (by omega) r1 r2 r3 r4 r5⟩, fun _ => ⟨1 - 0 + 1, loop 1 (by decide) (1 - 0) 0 d' t' tok' p' v' f' code' rfl (by omega) r1 r2 r3 r4 r5⟩⟩
    · intro ne t tok d p f v code Φ hne hn hR hd hc hΦ
      show wp_X3_part cn (nI c) tk pl vl ce (ep_X3_expression cn (nI c) tk pl vl ce n).1 (ep_X3_expression cn (nI c) tk pl vl ce n).2 (nI ne) (nI d) (nI t) tok p v f code Φ
      unfold wp_X3_part
      have hlt := hR.lt hT
      have k57 : ∀ (f : Int32) (j : Nat), j < 6 → (f = 0 → ne < 5 ∧ (tok = 2 ∨ tok = 3 ∨ tok = 4 ∨ tok = 27 ∨ tok = 28)) → kf_X3_part_57 cn (nI c) tk pl vl ce (ep_X3_expression cn (nI c) tk pl vl ce n).1 (ep_X3_expression cn (nI c) tk pl vl ce n).2 (nI ne) Φ (nI d) (nI t) tok p v f code tok (nI j) := by
        intro f j hj hf
        unfold kf_X3_part_57
        rw [nI_1]
        refine ⟨fun e => ?_, fun _ => hΦ d t tok p v f code hR (Nat.le_refl _) (by omega) hd hc⟩
        obtain ⟨h5, hm⟩ := hf e
        refine sp_X3_advance hT hR (fun t1 tok1 p1 v1 q1 q2 q3 => ?_)
        have e1 := q3 (by omega)
        refine ⟨hlt, fun _ => ⟨hlt, fun _ => ⟨hlt, fun _ => ?_, fun _ => ?_⟩, fun _ => ?_⟩, fun _ => ?_⟩
        · refine ih.2 (ne + 1) t1 tok1 d p1 f v1 code _ (by omega) (by omega) q1 hd hc (fun d2 t2 tok2 p2 v2 f2 code2 s1 s2 s3 s4 s5 => ⟨hlt, fun _ => ?_, fun _ => ?_⟩)
          · exact sp_X3_put s4 s5 ck_3 (fun d3 code3 u1 u2 u3 => hΦ d3 t2 tok2 p2 v2 f2 code3 s1 (by omega) (by omega) u2 u3)
          · exact sp_X3_put s4 s5 ck_2 (fun d3 code3 u1 u2 u3 => hΦ d3 t2 tok2 p2 v2 f2 code3 s1 (by omega) (by omega) u2 u3)
        · refine ih.1 0 (ne + 1) t1 tok1 d p1 f v1 code _ (by omega) (by omega) (by omega) q1 hd hc (fun d2 t2 tok2 p2 v2 f2 code2 s1 s2 s3 s4 s5 => ?_)
          exact sp_X3_expect hT s1 (by decide) (fun t3 tok3 p3 v3 f3 w1 w2 => hΦ d2 t3 tok3 p3 v3 f3 code2 w1 (by omega) (by omega) s4 s5)
        · exact sp_X3_put hd hc (ck_c hj) (fun d3 code3 u1 u2 u3 => hΦ d3 t1 tok1 p1 v1 f code3 q1 q2 (by omega) u2 u3)
        · exact sp_X3_put hd hc (ck_n _) (fun d3 code3 u1 u2 u3 => hΦ d3 t1 tok1 p1 v1 f code3 q1 q2 (by omega) u2 u3)
      have k31 : ∀ (f : Int32) (j : Nat), j < 6 → kf_X3_part_31 cn (nI c) tk pl vl ce (ep_X3_expression cn (nI c) tk pl vl ce n).1 (ep_X3_expression cn (nI c) tk pl vl ce n).2 (nI ne) Φ (nI d) (nI t) tok p v f code tok (nI j) := by
        intro f j hj
        unfold kf_X3_part_31
        have kf : ∀ k : Int32, ¬ (k &&& 15) = 0 → wp_X3_fail p k f (fun f' => kf_X3_part_57 cn (nI c) tk pl vl ce (ep_X3_expression cn (nI c) tk pl vl ce n).1 (ep_X3_expression cn (nI c) tk pl vl ce n).2 (nI ne) Φ (nI d) (nI t) tok p v f' code tok (nI j)) := fun k hk => sp_X3_fail hk (fun f' hf' => k57 f' j hj (fun z => absurd z hf'))
        refine sp_X3_beginsPart hlt (fun hm => ⟨fun _ => ?_, fun z => absurd z (by decide)⟩) ⟨fun z => absurd rfl z, fun _ => kf 1 (by decide)⟩
        exact pk_lt ne 5 (fun h5 => k57 f j hj (fun _ => ⟨h5, hm⟩)) (fun _ => kf 5 (by decide))
      exact ⟨hlt, fun _ => k31 f 0 (by decide), fun _ => sp_X3_toldHere (by decide) (by decide) hT hR (fun j f' hj => k31 f' j hj)⟩
theorem sp_X3_expressionF {t tok d : Nat} {p f : Int32} {v : Int64} {code : Nat → Int32} {Φ : PXe} (hT : TT c tk) (hR : RT c tk t tok) (hd : d ≤ 1000) (hc : CD code d) (hΦ : EP c tk t d Φ) : wp_X3_expressionF cn (nI c) tk pl vl ce 0 0 (nI d) (nI t) tok p v f code Φ :=
  (sp_ep hT 40).1 0 0 t tok d p f v code Φ (by decide) (by decide) (by decide) hR hd hc hΦ
end EX
