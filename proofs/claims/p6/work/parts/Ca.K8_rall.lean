theorem RR.wt {ts : List Nat} {t : Nat → Int32} {L : List Tok} {q b : Nat} {T td : Int32} {w : Int64} (hT : TL ts t) (h : RR ts L q b T w td) : WT L := by
  obtain ⟨k, r, e, hC, h1, h2, _⟩ := h
  by_cases e0 : k.1 = 0
  · rw [e, h2 e0]
    refine ⟨[], k.2.1, ?_, fun k hk => by cases hk⟩
    have b3 : k.2.2 = [] := hC.2.2.2.2.2.2.2.2.2.2 e0
    obtain ⟨k1, k2, k3⟩ := k
    have e0 : k1 = 0 := e0
    have b3 : k3 = [] := b3
    rw [e0, b3]
    rfl
  · rw [e, h1 e0]
    obtain ⟨M, p, e2, hM⟩ := tokL_WT (ts := ts) (ts.length - q) q (Nat.le_refl _)
    refine ⟨k :: M, p, by rw [e2]; rfl, fun j hj => ?_⟩
    rcases List.mem_cons.mp hj with rfl | hj
    · exact e0
    · exact hM j hj
/-- outside of the first section nothing is changed, in no row of programmes -/
def FR8 (st ce ip ln be co ca ic il im ac aC ls tw lf lt cd st' ce' ip' ln' be' co' ca' ic' il' im' ac' aC' ls' tw' lf' lt' cd' : Nat → Int32) : Prop := F1 1 st st' ∧ F1 1 ce ce' ∧ F1 1 ip ip' ∧ F1 1 ln ln' ∧ F1 4 be be' ∧ F1 4 co co' ∧ F1 6 ca ca' ∧ F1 2 ic ic' ∧ F1 2 il il' ∧ F1 2 im im' ∧ F1 16 ac ac' ∧ F1 16 aC aC' ∧ F1 16 ls ls' ∧ F1 16 tw tw' ∧ F1 32 lf lf' ∧ F1 32 lt lt' ∧ F1 1000 cd cd'
theorem FR8.rf {st ce ip ln be co ca ic il im ac aC ls tw lf lt cd : Nat → Int32} : FR8 st ce ip ln be co ca ic il im ac aC ls tw lf lt cd st ce ip ln be co ca ic il im ac aC ls tw lf lt cd := ⟨F1.rf, F1.rf, F1.rf, F1.rf, F1.rf, F1.rf, F1.rf, F1.rf, F1.rf, F1.rf, F1.rf, F1.rf, F1.rf, F1.rf, F1.rf, F1.rf, F1.rf⟩
/-- the reference's first section and names as g says -/
def RB8 (g : PGr) (st ce ip ln : Nat → Int32) (sn cnn : Nat → Int64) (be co ca ic il im ac aC ls tw lf lt cd : Nat → Int32) (c : Nat) : Prop := NB (snm g) sn ∧ NB (cnm g) cnn ∧ SB 1 g.1 st be co ∧ CB 1 g.2.1 ce ca ∧ IB 1 g.2.2.1 ip ic il im ∧ LBd 1 g.2.2.2 ln ac aC lf lt cd ∧ TB 1 g.2.2.2 ls tw ∧ LC8 g.2.2.2 c lf
abbrev PRA8 : Type := Int32 → Int32 → Int32 → Int32 → Int32 → Int32 → Int64 → Int32 → Int32 → Int32 → (Nat → Int32) → (Nat → Int32) → (Nat → Int32) → (Nat → Int32) → (Nat → Int64) → (Nat → Int64) → (Nat → Int32) → (Nat → Int32) → (Nat → Int32) → (Nat → Int32) → (Nat → Int32) → (Nat → Int32) → (Nat → Int32) → (Nat → Int32) → (Nat → Int32) → (Nat → Int32) → (Nat → Int32) → (Nat → Int32) → (Nat → Int32) → (Nat → Int32) → (Nat → Int32) → Prop
section RA8
variable {ts : List Nat} {t : Nat → Int32}
theorem sq8_readsAll57 {Φ : PRA8} {st0 ce0 ip0 ln0 be0 co0 ca0 ic0 il0 im0 ac0 aC0 ls0 tw0 lf0 lt0 cd0 : Nat → Int32} (hT : TL ts t) : ∀ (n m : Nat) (g : PGr) (L : List Tok) (q b : Nat) (T : Int32) (w : Int64) (td wr : Int32) (c : Nat) (st : Nat → Int32) (ce : Nat → Int32) (ip : Nat → Int32) (ln : Nat → Int32) (sn : Nat → Int64) (cnn : Nat → Int64) (be : Nat → Int32) (co : Nat → Int32) (ca : Nat → Int32) (ic : Nat → Int32) (il : Nat → Int32) (im : Nat → Int32) (ac : Nat → Int32) (aC : Nat → Int32) (ls : Nat → Int32) (tw : Nat → Int32) (lf : Nat → Int32) (lt : Nat → Int32) (cd : Nat → Int32) (op : Nat → Int32) (cm : Nat → Int32), RR ts L q b T w td → WT L → L.length ≤ m + 1 → GK9 g → RB8 g st ce ip ln sn cnn be co ca ic il im ac aC ls tw lf lt cd c → FR8 st0 ce0 ip0 ln0 be0 co0 ca0 ic0 il0 im0 ac0 aC0 ls0 tw0 lf0 lt0 cd0 st ce ip ln be co ca ic il im ac aC ls tw lf lt cd → 1000 ≤ c → c + L.length ≤ 2001 → (∀ e, pAll m g L = .inl e → ∀ (q' b' T' : Int32) (w' : Int64) (td' c' : Int32) (st' : Nat → Int32) (ce' : Nat → Int32) (ip' : Nat → Int32) (ln' : Nat → Int32) (sn' : Nat → Int64) (cnn' : Nat → Int64) (be' : Nat → Int32) (co' : Nat → Int32) (ca' : Nat → Int32) (ic' : Nat → Int32) (il' : Nat → Int32) (im' : Nat → Int32) (ac' : Nat → Int32) (aC' : Nat → Int32) (ls' : Nat → Int32) (tw' : Nat → Int32) (lf' : Nat → Int32) (lt' : Nat → Int32) (cd' : Nat → Int32) (op' : Nat → Int32) (cm' : Nat → Int32), FR8 st0 ce0 ip0 ln0 be0 co0 ca0 ic0 il0 im0 ac0 aC0 ls0 tw0 lf0 lt0 cd0 st' ce' ip' ln' be' co' ca' ic' il' im' ac' aC' ls' tw' lf' lt' cd' → Φ 0 0 (nI ts.length) q' b' T' w' td' (nI e) c' st' ce' ip' ln' sn' cnn' be' co' ca' ic' il' im' ac' aC' ls' tw' lf' lt' cd' op' cm') → (∀ g', pAll m g L = .inr g' → ∀ (q' b' T' : Int32) (w' : Int64) (td' wr' : Int32) (c' : Nat) (st' : Nat → Int32) (ce' : Nat → Int32) (ip' : Nat → Int32) (ln' : Nat → Int32) (sn' : Nat → Int64) (cnn' : Nat → Int64) (be' : Nat → Int32) (co' : Nat → Int32) (ca' : Nat → Int32) (ic' : Nat → Int32) (il' : Nat → Int32) (im' : Nat → Int32) (ac' : Nat → Int32) (aC' : Nat → Int32) (ls' : Nat → Int32) (tw' : Nat → Int32) (lf' : Nat → Int32) (lt' : Nat → Int32) (cd' : Nat → Int32) (op' : Nat → Int32) (cm' : Nat → Int32), FR8 st0 ce0 ip0 ln0 be0 co0 ca0 ic0 il0 im0 ac0 aC0 ls0 tw0 lf0 lt0 cd0 st' ce' ip' ln' be' co' ca' ic' il' im' ac' aC' ls' tw' lf' lt' cd' → RB8 g' st' ce' ip' ln' sn' cnn' be' co' ca' ic' il' im' ac' aC' ls' tw' lf' lt' cd' c' → Φ 1 0 (nI ts.length) q' b' T' w' td' wr' (nI c') st' ce' ip' ln' sn' cnn' be' co' ca' ic' il' im' ac' aC' ls' tw' lf' lt' cd' op' cm') → ll_X8_readsAll_57 t Φ n 0 (nI ts.length) (nI q) (nI b) T w td wr (nI c) st ce ip ln sn cnn be co ca ic il im ac aC ls tw lf lt cd op cm := by
  intro n
  induction n with
  | zero => intros; trivial
  | succ n ih =>
    intro m g L q b T w td wr c st ce ip ln sn cnn be co ca ic il im ac aC ls tw lf lt cd op cm h hW hm hG hR hF hc1 hc2 bad good
    have hL1 : 1 ≤ L.length := lpos hW.ne
    obtain ⟨r1, r2, r3, r4, r5, r6, r7, r8⟩ := id hR
    obtain ⟨f_st, f_ce, f_ip, f_ln, f_be, f_co, f_ca, f_ic, f_il, f_im, f_ac, f_aC, f_ls, f_tw, f_lf, f_lt, f_cd⟩ := id hF
    have es : (snm g).length = g.1.length := List.length_map _
    have ec : (cnm g).length = g.2.1.length := List.length_map _
    have hst : st 1 = nI (snm g).length := by rw [es]; exact r3.1
    have hce : ce 1 = nI (cnm g).length := by rw [ec]; exact r4.1
    obtain ⟨a1, a2, a3, a4, a5, a6, a7, a8, a9, a10⟩ := id hG
    have e0 : T = 0 ↔ (hdt L).1 = 0 := h.tT 0 (by decide)
    show bl_X8_readsAll_57 _ _ _ _ _ _ _ _ _ _ _ _ _ _ _ _ _ _ _ _ _ _ _ _ _ _ _ _ _ _ _ _ _
    unfold bl_X8_readsAll_57
    refine ⟨fun z => ?_, fun z => ?_⟩
    · have hp : pAll m g L = .inr g := by
        cases m with
        | zero => rfl
        | succ m => exact if_pos (ix_0.mpr (e0.mp z))
      exact good g hp _ _ _ _ _ _ c _ _ _ _ _ _ _ _ _ _ _ _ _ _ _ _ _ _ _ _ _ hF hR
    · have hne : ¬ (hdt L).1 = 0 := fun y => z (e0.mpr y)
      have hlen := hW.advZ.2.2 hne
      have hWl : 1 ≤ (adv L).length := lpos hW.advZ.1.ne
      obtain ⟨m, rfl⟩ : ∃ k, m = k + 1 := ⟨m - 1, by omega⟩
      have hp : pAll (m + 1) g L = bnd (tX (pTell g L) 6) fun x => pAll m x.1 x.2 := if_neg (fun y => hne (ix_0.mp y))
      rw [hp] at bad good
      have la := adv_le L
      refine sq8_word 0 (by decide) rfl h (fun e12 => ⟨fun z => absurd z (by (try dsimp only); decide), fun _ => ?_⟩) (fun n12 => ⟨fun _ => ?_, fun z => absurd rfl z⟩)
      · have hpt : pTell g L = pStuff g L := if_pos e12
        refine sq8_readsStuff hT h r1 r2 r3 a1 hce (fun e he q' b' T' w' td' st' sn' be' co' k1 k2 k3 => ⟨fun z => absurd rfl z, fun _ => bad e (by rw [hpt, he]; rfl) _ _ _ _ _ _ _ _ _ _ _ _ _ _ _ _ _ _ _ _ _ _ _ _ _ _ _ ⟨f_st.tr k1, f_ce, f_ip, f_ln, f_be.tr k2, f_co.tr k3, f_ca, f_ic, f_il, f_im, f_ac, f_aC, f_ls, f_tw, f_lf, f_lt, f_cd⟩⟩) (fun g' L' he hg q' b' T' w' td' st' sn' be' co' h' k1 k2 k3 n1 n2 => ⟨fun _ => ?_, fun z => absurd z (by (try dsimp only); decide)⟩)
        have eg : g'.2 = g.2 := hg
        have ecn : cnm g' = cnm g := by unfold cnm; rw [eg]
        have hl := ((pStuff_le (g := g) (L := L)).say (w := 6)).advZ g' L' he
        obtain ⟨L0, ht⟩ := tX_inv he
        have hW' : WT L' := h'.wt hT
        refine ih m g' L' _ _ _ _ _ _ c st' ce ip ln sn' cnn be' co' ca ic il im ac aC ls tw lf lt cd op cm h' hW' (by omega) (hG.tell (by rw [hpt]; exact ht)) ⟨n1, by rw [ecn]; exact r2, n2, by rw [eg]; exact r4, by rw [eg]; exact r5, by rw [eg]; exact r6, by rw [eg]; exact r7, by rw [eg]; exact r8⟩ ⟨f_st.tr k1, f_ce, f_ip, f_ln, f_be.tr k2, f_co.tr k3, f_ca, f_ic, f_il, f_im, f_ac, f_aC, f_ls, f_tw, f_lf, f_lt, f_cd⟩ hc1 (by omega) (fun e hb => bad e (by rw [hpt, he]; exact hb)) (fun g2 hb => good g2 (by rw [hpt, he]; exact hb))
      refine sq8_word 3 (by decide) rfl h (fun e15 => ⟨fun z => absurd z (by (try dsimp only); decide), fun _ => ?_⟩) (fun n15 => ⟨fun _ => ?_, fun z => absurd rfl z⟩)
      · have hpt : pTell g L = pCell g L := by unfold pTell; rw [if_neg n12, if_pos e15]
        refine sq8_readsCell hT h r1 r2 r4 hst (fun e he q' b' T' w' td' ce' cn' ca' k1 k2 => ⟨fun z => absurd rfl z, fun _ => bad e (by rw [hpt, he]; rfl) _ _ _ _ _ _ _ _ _ _ _ _ _ _ _ _ _ _ _ _ _ _ _ _ _ _ _ ⟨f_st, f_ce.tr k1, f_ip, f_ln, f_be, f_co, f_ca.tr k2, f_ic, f_il, f_im, f_ac, f_aC, f_ls, f_tw, f_lf, f_lt, f_cd⟩⟩) (fun g' L' he hg hg2 q' b' T' w' td' ce' cn' ca' h' k1 k2 n1 n2 => ⟨fun _ => ?_, fun z => absurd z (by (try dsimp only); decide)⟩)
        have esn : snm g' = snm g := by unfold snm; rw [hg]
        have hl := ((pCell_le (g := g) (L := L)).say (w := 6)).advZ g' L' he
        obtain ⟨L0, ht⟩ := tX_inv he
        have hW' : WT L' := h'.wt hT
        refine ih m g' L' _ _ _ _ _ _ c st ce' ip ln sn cn' be co ca' ic il im ac aC ls tw lf lt cd op cm h' hW' (by omega) (hG.tell (by rw [hpt]; exact ht)) ⟨by rw [esn]; exact r1, n1, by rw [hg]; exact r3, n2, by rw [hg2]; exact r5, by rw [hg2]; exact r6, by rw [hg2]; exact r7, by rw [hg2]; exact r8⟩ ⟨f_st, f_ce.tr k1, f_ip, f_ln, f_be, f_co, f_ca.tr k2, f_ic, f_il, f_im, f_ac, f_aC, f_ls, f_tw, f_lf, f_lt, f_cd⟩ hc1 (by omega) (fun e hb => bad e (by rw [hpt, he]; exact hb)) (fun g2 hb => good g2 (by rw [hpt, he]; exact hb))
      refine sq8_word 4 (by decide) rfl h (fun e16 => ⟨fun z => absurd z (by (try dsimp only); decide), fun _ => ?_⟩) (fun n16 => ⟨fun _ => ?_, fun z => absurd rfl z⟩)
      · have hpt : pTell g L = pInput g L := by unfold pTell; rw [if_neg n12, if_neg n15, if_pos e16]
        refine sq8_readsInput hT h r2 hce r5 a5 (fun y hy => ⟨by have := (a6 y hy).1; omega, (a6 y hy).2⟩) a7 (fun e he q' b' T' w' td' ip' ic' il' im' k1 k2 k3 k4 => ⟨fun z => absurd rfl z, fun _ => bad e (by rw [hpt, he]; rfl) _ _ _ _ _ _ _ _ _ _ _ _ _ _ _ _ _ _ _ _ _ _ _ _ _ _ _ ⟨f_st, f_ce, f_ip.tr k1, f_ln, f_be, f_co, f_ca, f_ic.tr k2, f_il.tr k3, f_im.tr k4, f_ac, f_aC, f_ls, f_tw, f_lf, f_lt, f_cd⟩⟩) (fun g' L' he hg hg2 hg3 q' b' T' w' td' ip' ic' il' im' h' k1 k2 k3 k4 n1 => ⟨fun _ => ?_, fun z => absurd z (by (try dsimp only); decide)⟩)
        have esn : snm g' = snm g := by unfold snm; rw [hg]
        have ecn : cnm g' = cnm g := by unfold cnm; rw [hg2]
        have hl := ((pInput_le (g := g) (L := L)).say (w := 6)).advZ g' L' he
        obtain ⟨L0, ht⟩ := tX_inv he
        have hW' : WT L' := h'.wt hT
        refine ih m g' L' _ _ _ _ _ _ c st ce ip' ln sn cnn be co ca ic' il' im' ac aC ls tw lf lt cd op cm h' hW' (by omega) (hG.tell (by rw [hpt]; exact ht)) ⟨by rw [esn]; exact r1, by rw [ecn]; exact r2, by rw [hg]; exact r3, by rw [hg2]; exact r4, n1, by rw [hg3]; exact r6, by rw [hg3]; exact r7, by rw [hg3]; exact r8⟩ ⟨f_st, f_ce, f_ip.tr k1, f_ln, f_be, f_co, f_ca, f_ic.tr k2, f_il.tr k3, f_im.tr k4, f_ac, f_aC, f_ls, f_tw, f_lf, f_lt, f_cd⟩ hc1 (by omega) (fun e hb => bad e (by rw [hpt, he]; exact hb)) (fun g2 hb => good g2 (by rw [hpt, he]; exact hb))
      refine sq8_word 5 (by decide) rfl h (fun e17 => ⟨fun z => absurd z (by (try dsimp only); decide), fun _ => ?_⟩) (fun n17 => ⟨fun _ => ?_, fun z => absurd rfl z⟩)
      · have hpt : pTell g L = pLine g L := by unfold pTell; rw [if_neg n12, if_neg n15, if_neg n16, if_pos e17]
        refine sq8_readsLine hT h hW hne r1 r2 hst hce r6 r7 a9 hc1 hc2 r8 (fun e he q' b' T' w' td' c' ln' ac' aC' ls' tw' lf' lt' cd' op' cm' k1 k2 k3 k4 k5 k6 k7 k8 => ⟨fun z => absurd rfl z, fun _ => bad e (by rw [hpt, he]; rfl) _ _ _ _ _ _ _ _ _ _ _ _ _ _ _ _ _ _ _ _ _ _ _ _ _ _ _ ⟨f_st, f_ce, f_ip, f_ln.tr k1, f_be, f_co, f_ca, f_ic, f_il, f_im, f_ac.tr k2, f_aC.tr k3, f_ls.tr k4, f_tw.tr k5, f_lf.tr k6, f_lt.tr k7, f_cd.tr k8⟩⟩) (fun g' L' he hg hg2 hg3 q' b' T' w' td' c' ln' ac' aC' ls' tw' lf' lt' cd' op' cm' h' hW' hc1' hc2' hl k1 k2 k3 k4 k5 k6 k7 k8 n1 n2 n3 n4 => ⟨fun _ => ?_, fun z => absurd z (by (try dsimp only); decide)⟩)
        have esn : snm g' = snm g := by unfold snm; rw [hg]
        have ecn : cnm g' = cnm g := by unfold cnm; rw [hg2]
        obtain ⟨L0, ht⟩ := tX_inv he
        refine ih m g' L' _ _ _ _ _ _ c' st ce ip ln' sn cnn be co ca ic il im ac' aC' ls' tw' lf' lt' cd' op' cm' h' hW' (by omega) (hG.tell (by rw [hpt]; exact ht)) ⟨by rw [esn]; exact r1, by rw [ecn]; exact r2, by rw [hg]; exact r3, by rw [hg2]; exact r4, by rw [hg3]; exact r5, n1, n2, n3⟩ ⟨f_st, f_ce, f_ip, f_ln.tr k1, f_be, f_co, f_ca, f_ic, f_il, f_im, f_ac.tr k2, f_aC.tr k3, f_ls.tr k4, f_tw.tr k5, f_lf.tr k6, f_lt.tr k7, f_cd.tr k8⟩ hc1' (by omega) (fun e hb => bad e (by rw [hpt, he]; exact hb)) (fun g2 hb => good g2 (by rw [hpt, he]; exact hb))
      have hpt : pTell g L = .inl (flt 1 L) := by unfold pTell; rw [if_neg n12, if_neg n15, if_neg n16, if_neg n17]
      have e1 : (1 : Int32) + 16 * nI b = nI (flt 1 L) := h.fltZ 1
      refine ⟨fun z => absurd rfl z, fun _ => ?_⟩
      rw [e1]
      exact bad _ (by rw [hpt]; rfl) _ _ _ _ _ _ _ _ _ _ _ _ _ _ _ _ _ _ _ _ _ _ _ _ _ _ _ hF
end RA8
