theorem dX5_addBytes_3 : decode cX5_addBytes 3 = .ok (.iload_n 3, 1) := by decide +kernel
theorem dX5_addBytes_4 : decode cX5_addBytes 4 = .ok (.ifCond .lt 72, 3) := by decide +kernel
theorem dX5_addBytes_7 : decode cX5_addBytes 7 = .ok (.lload_n 1, 1) := by decide +kernel
theorem dX5_addBytes_8 : decode cX5_addBytes 8 = .ok (.iload_n 3, 1) := by decide +kernel
theorem dX5_addBytes_9 : decode cX5_addBytes 9 = .ok (.lushr, 1) := by decide +kernel
theorem dX5_addBytes_10 : decode cX5_addBytes 10 = .ok (.l2i, 1) := by decide +kernel
theorem dX5_addBytes_11 : decode cX5_addBytes 11 = .ok (.sipush 255, 3) := by decide +kernel
theorem dX5_addBytes_14 : decode cX5_addBytes 14 = .ok (.iand, 1) := by decide +kernel
theorem dX5_addBytes_15 : decode cX5_addBytes 15 = .ok (.istore 4, 2) := by decide +kernel
theorem dX5_addBytes_17 : decode cX5_addBytes 17 = .ok (.aload_n 0, 1) := by decide +kernel
theorem dX5_addBytes_18 : decode cX5_addBytes 18 = .ok (.getfield 29, 3) := by decide +kernel
theorem dX5_addBytes_21 : decode cX5_addBytes 21 = .ok (.sipush 1000, 3) := by decide +kernel
theorem dX5_addBytes_24 : decode cX5_addBytes 24 = .ok (.if_icmp .ge 46, 3) := by decide +kernel
theorem dX5_addBytes_70 : decode cX5_addBytes 70 = .ok (.iinc 3 (-8), 3) := by decide +kernel
theorem dX5_addBytes_73 : decode cX5_addBytes 73 = .ok (.goto (-70), 3) := by decide +kernel
theorem dX5_addBytes_27 : decode cX5_addBytes 27 = .ok (.iload 4, 2) := by decide +kernel
theorem dX5_addBytes_29 : decode cX5_addBytes 29 = .ok (.bipush 10, 2) := by decide +kernel
theorem dX5_addBytes_31 : decode cX5_addBytes 31 = .ok (.if_icmp .eq 17, 3) := by decide +kernel
theorem dX5_addBytes_48 : decode cX5_addBytes 48 = .ok (.aload_n 0, 1) := by decide +kernel
theorem dX5_addBytes_49 : decode cX5_addBytes 49 = .ok (.getfield 9, 3) := by decide +kernel
theorem dX5_addBytes_52 : decode cX5_addBytes 52 = .ok (.aload_n 0, 1) := by decide +kernel
theorem dX5_addBytes_53 : decode cX5_addBytes 53 = .ok (.getfield 29, 3) := by decide +kernel
theorem dX5_addBytes_56 : decode cX5_addBytes 56 = .ok (.iload 4, 2) := by decide +kernel
theorem dX5_addBytes_58 : decode cX5_addBytes 58 = .ok (.i2c, 1) := by decide +kernel
theorem dX5_addBytes_59 : decode cX5_addBytes 59 = .ok (.castore, 1) := by decide +kernel
theorem dX5_addBytes_60 : decode cX5_addBytes 60 = .ok (.aload_n 0, 1) := by decide +kernel
theorem dX5_addBytes_61 : decode cX5_addBytes 61 = .ok (.dup, 1) := by decide +kernel
theorem dX5_addBytes_62 : decode cX5_addBytes 62 = .ok (.getfield 29, 3) := by decide +kernel
theorem dX5_addBytes_65 : decode cX5_addBytes 65 = .ok (.iconst 1, 1) := by decide +kernel
theorem dX5_addBytes_66 : decode cX5_addBytes 66 = .ok (.iadd, 1) := by decide +kernel
theorem dX5_addBytes_67 : decode cX5_addBytes 67 = .ok (.putfield 29, 3) := by decide +kernel
theorem dX5_addBytes_34 : decode cX5_addBytes 34 = .ok (.iload 4, 2) := by decide +kernel
theorem dX5_addBytes_36 : decode cX5_addBytes 36 = .ok (.bipush 32, 2) := by decide +kernel
theorem dX5_addBytes_38 : decode cX5_addBytes 38 = .ok (.if_icmp .lt 32, 3) := by decide +kernel
theorem dX5_addBytes_41 : decode cX5_addBytes 41 = .ok (.iload 4, 2) := by decide +kernel
theorem dX5_addBytes_43 : decode cX5_addBytes 43 = .ok (.bipush 126, 2) := by decide +kernel
theorem dX5_addBytes_45 : decode cX5_addBytes 45 = .ok (.if_icmp .gt 25, 3) := by decide +kernel
theorem dX5_addBytes_0 : decode cX5_addBytes 0 = .ok (.bipush 56, 2) := by decide +kernel
theorem dX5_addBytes_2 : decode cX5_addBytes 2 = .ok (.istore_n 3, 1) := by decide +kernel
theorem dX5_addBytes_76 : decode cX5_addBytes 76 = .ok (.return_, 1) := by decide +kernel
theorem dX7_feed_0 : decode cX7_feed 0 = .ok (.aload_n 0, 1) := by decide +kernel
theorem dX7_feed_1 : decode cX7_feed 1 = .ok (.getfield 10, 3) := by decide +kernel
theorem dX7_feed_4 : decode cX7_feed 4 = .ok (.lload_n 1, 1) := by decide +kernel
set_option maxRecDepth 20000 in
theorem ggX7_feed_X5_addBytes : GoodIn wsX7_feed wsX5_addBytes := goodIn_r _ [7, 8, 9, 20, 21, 22, 23, 24, 25] (by decide +kernel) (by decide +kernel)
set_option maxRecDepth 20000 in
theorem gX7_feed_X5_addBytes : GoodIn wsX7_feed (wsV RX7 71 RX5 yX5_addBytes wsX5_addBytes) := goodIn_app (goodIn_of _ (by decide +kernel)) ggX7_feed_X5_addBytes
theorem dX7_feed_5 : decode cX7_feed 5 = .ok (.invokevirtual 71, 3) := by decide +kernel
theorem dX7_feed_8 : decode cX7_feed 8 = .ok (.aload_n 0, 1) := by decide +kernel
theorem dX7_feed_9 : decode cX7_feed 9 = .ok (.getfield 10, 3) := by decide +kernel
theorem dX7_feed_12 : decode cX7_feed 12 = .ok (.lload_n 3, 1) := by decide +kernel
theorem dX7_feed_13 : decode cX7_feed 13 = .ok (.invokevirtual 71, 3) := by decide +kernel
theorem dX7_feed_16 : decode cX7_feed 16 = .ok (.aload_n 0, 1) := by decide +kernel
theorem dX7_feed_17 : decode cX7_feed 17 = .ok (.getfield 10, 3) := by decide +kernel
theorem dX7_feed_20 : decode cX7_feed 20 = .ok (.lload 5, 2) := by decide +kernel
theorem dX7_feed_22 : decode cX7_feed 22 = .ok (.invokevirtual 71, 3) := by decide +kernel
theorem dX7_feed_25 : decode cX7_feed 25 = .ok (.aload_n 0, 1) := by decide +kernel
theorem dX7_feed_26 : decode cX7_feed 26 = .ok (.getfield 10, 3) := by decide +kernel
theorem dX7_feed_29 : decode cX7_feed 29 = .ok (.getfield 75, 3) := by decide +kernel
theorem dX7_feed_32 : decode cX7_feed 32 = .ok (.ireturn, 1) := by decide +kernel
theorem adN_le (w : Int64) : ∀ j n, n ≤ 1000 → adN w j n ≤ 1000 := by
  intro j
  induction j with
  | zero => intro n h; exact h
  | succ j ih => intro n h; exact ih _ (stp_le _ h)

set_option maxHeartbeats 4000000 in
set_option maxRecDepth 100000 in
theorem lp_addBytes {p : Program} {l : Launch} {e : Env} {R : Room} {s : State} {m : MethodId} {args : Array Value} {below : List Frame} {meth : Method} {c : Code} {cells slots : Nat} {Q : State → Prop} {A : Nat → Prop} {D : va_G} {ak : Nat → ClassId} {ad : Nat → Nat} (hx : p.tables.exec = Jvm.exec) (hb : c.code = cX5_addBytes) (hown : s.vm.findClass RX5 = some m.cls) (hts : ∀ w ∈ wsX5_addBytes, w.before args s = true) (hml : c.maxLocals = 5) (hE : EV D ak s) (hT : ST ad A s s.heap) (hA : ∀ q, s.heap.size ≤ q → A q) (h0 : Nat) (t0 : Nat) (t2 : Nat) (t3 : Nat) (t4 : Nat) (cn : Int32) (w : Int64) (L : Nat) 
    (kk76 : ∀ (j : Nat) (len : Nat) (f : Nat → Int32) (H : Heap) (locs : List Loc) (ls : Array Slot), (adN w 0 len = L ∧ len ≤ 1000) → va_P D vwCl [(h0, .inr (5, [.ref t0, .int (nI len), .ref t2, .ref t3, .ref t4, .int (cn)])), (t0, .inl (ak 2, 1000, .inl (f)))] H → va_D A [(h0, .inr (5, [.ref t0, .int (nI len), .ref t2, .ref t3, .ref t4, .int (cn)])), (t0, .inl (ak 2, 1000, .inl (f)))] → va_S A s.heap H locs → lv_has ls 5 [(0, .ref h0)] → W p l e R s m args below meth c H locs cells slots Q (F0 m 76 ls []))
    : ∀ (n_ : Nat) (j : Nat) (len : Nat) (f : Nat → Int32) (H : Heap) (locs : List Loc) (ls : Array Slot), (j ≤ 8) → (adN w j len = L) → (len ≤ 1000) → (j < n_) → va_P D vwCl [(h0, .inr (5, [.ref t0, .int (nI len), .ref t2, .ref t3, .ref t4, .int (cn)])), (t0, .inl (ak 2, 1000, .inl (f)))] H → va_D A [(h0, .inr (5, [.ref t0, .int (nI len), .ref t2, .ref t3, .ref t4, .int (cn)])), (t0, .inl (ak 2, 1000, .inl (f)))] → va_S A s.heap H locs → lv_has ls 5 [(3, .int (sA (8 - j))), (0, .ref h0), (1, .long (w))] → W p l e R s m args below meth c H locs cells slots Q (F0 m 3 ls []) := by
  intro n_
  induction n_ with
  | zero =>
    intro j len f H locs ls hj hL hn hm
    exact absurd hm (Nat.not_lt_zero _)
  | succ n_ ih =>
    intro j len f H locs ls hj hL hn hm hP hD hS hl
    refine lv_iload_n hx hb dX5_addBytes_3 rfl (lv_at hl 0 rfl) ?_
    refine lv_if_lt (tgt := 76) hx hb dX5_addBytes_4 (by decide) (fun c_4 => ?_) (fun c_4 => ?_)
    · exact kk76 (0) (len) (f) _ _ _ (by have h0 := (sA_lt j hj).mp c_4; subst h0; exact ⟨hL, hn⟩) (hP.sub [0, 1] rfl) (hD.sub [0, 1] (by decide) rfl) hS (lv_sub hl [1] rfl)
    · have hj1 : j ≠ 0 := fun h => c_4 ((sA_lt j hj).mpr h)
      obtain ⟨j0, rfl⟩ : ∃ j0, j = j0 + 1 := ⟨j - 1, by omega⟩
      have e8 : 8 - (j0 + 1) = 7 - j0 := by omega
      rw [e8] at hl
      refine lv_lload_n hx hb dX5_addBytes_7 rfl (lv_at hl 2 rfl) ?_
      refine lv_iload_n hx hb dX5_addBytes_8 rfl (lv_at hl 0 rfl) ?_
      refine lv_lushr hx hb dX5_addBytes_9 rfl ?_
      refine lv_topl (fun x_1 ex_1 => ?_)
      refine lv_l2i hx hb dX5_addBytes_10 rfl ?_
      refine lv_topi (fun x_2 ex_2 => ?_)
      refine lv_sipush (v := 255) hx hb dX5_addBytes_11 (by decide) ?_
      refine lv_iand hx hb dX5_addBytes_14 ?_
      refine W.eq (g2 := F0 m 15 ls (.int (bA w (7 - j0)) :: [])) (by rw [ex_2, ex_1]; rfl) ?_
      refine lv_istore (lv' := [(4, .int (bA w (7 - j0))), (3, .int (sA (7 - j0))), (0, .ref h0), (1, .long (w))]) hx hb dX5_addBytes_15 hl (by decide) rfl (fun ls hl => ?_)
      refine lv_aload_n hx hb dX5_addBytes_17 rfl (lv_at hl 2 rfl) ?_
      refine va_get (D := D) (ci := 5) (v := .int (nI len)) (C := RX5) (T := TX5) (N := 6) hx hb hts (fun w h => List.mem_cons_of_mem _ (List.mem_append_right _ h)) hown hE.1 hP 0 rfl rfl 1 (by decide) (hts (.fieldLink RX5 29 "WornLines$Tape" "length" "I") (by decide +kernel)) (fun _ h9 => h9) rfl dX5_addBytes_18 ?_
      refine lv_sipush (v := 1000) hx hb dX5_addBytes_21 (by decide) ?_
      refine lv_icmp_ge (tgt := 70) hx hb dX5_addBytes_24 (by decide) (fun c_24 => ?_) (fun c_24 => ?_)
      · have hnl : ¬ len < 1000 := fun h => absurd c_24 (Int32.not_le.mpr (nI_lt h (by decide)))
        refine lv_iinc (v := (sA (8 - j0))) (lv' := [(3, .int (sA (8 - j0))), (4, .int (bA w (7 - j0))), (0, .ref h0), (1, .long (w))]) hx hb dX5_addBytes_70 hl (k := 1) rfl (sA_m8 j0 (by omega)) (by decide) rfl (fun ls hl => ?_)
        refine lv_goto (tgt := 3) hx hb dX5_addBytes_73 (by decide) ?_
        have hst : stp len (bA w (7 - j0)) = len := (by unfold stp; first | rw [if_neg (fun h => (by assumption : ¬ len < 1000) h.1)] | rw [if_neg (fun h => h.2.elim (by assumption) (fun q => q.1 (by assumption)))] | rw [if_neg (fun h => h.2.elim (by assumption) (fun q => absurd q.2 (Int32.not_le.mpr (by assumption))))])
        exact ih (j0) (len) (f) _ _ _ (by omega) (by rw [← hst]; exact hL) (by rw [← hst]; exact stp_le _ hn) (by omega) (hP.sub [0, 1] rfl) (hD.sub [0, 1] (by decide) rfl) hS (lv_sub hl [0, 2, 3] rfl)
      · have hlt : len < 1000 := Nat.lt_of_not_le (fun h => c_24 (nI_le (a := 1000) h (by omega)))
        refine lv_iload hx hb dX5_addBytes_27 (lv_at hl 0 rfl) ?_
        refine lv_bipush (v := 10) hx hb dX5_addBytes_29 (by decide) ?_
        refine lv_icmp_eq (tgt := 48) hx hb dX5_addBytes_31 (by decide) (fun c_31 => ?_) (fun c_31 => ?_)
        · refine lv_aload_n hx hb dX5_addBytes_48 rfl (lv_at hl 2 rfl) ?_
          refine va_get (D := D) (ci := 5) (v := .ref t0) (C := RX5) (T := TX5) (N := 6) hx hb hts (fun w h => List.mem_cons_of_mem _ (List.mem_append_right _ h)) hown hE.1 hP 0 rfl rfl 0 (by decide) (hts (.fieldLink RX5 9 "WornLines$Tape" "signs" "[C") (by decide +kernel)) (fun _ h9 => h9) rfl dX5_addBytes_49 ?_
          refine lv_aload_n hx hb dX5_addBytes_52 rfl (lv_at hl 2 rfl) ?_
          refine va_get (D := D) (ci := 5) (v := .int (nI len)) (C := RX5) (T := TX5) (N := 6) hx hb hts (fun w h => List.mem_cons_of_mem _ (List.mem_append_right _ h)) hown hE.1 hP 0 rfl rfl 1 (by decide) (hts (.fieldLink RX5 29 "WornLines$Tape" "length" "I") (by decide +kernel)) (fun _ h9 => h9) rfl dX5_addBytes_53 ?_
          refine lv_iload hx hb dX5_addBytes_56 (lv_at hl 0 rfl) ?_
          refine lv_i2c hx hb dX5_addBytes_58 rfl ?_
          refine lv_topi (fun x_3 ex_3 => ?_)
          refine va_cast hx hb hE.1 hP hD hS 1 2 rfl rfl (vp_in_nI hlt (by decide)) dX5_addBytes_59 (fun H locs hP hD hS => ?_)
          have hP : va_P D vwCl [(h0, .inr (5, [.ref t0, .int (nI len), .ref t2, .ref t3, .ref t4, .int (cn)])), (t0, .inl (ak 2, 1000, .inl (upd (f) ((nI len : Int32).toNatClampNeg) (vp_nar .char (x_3)))))] H := hP
          have hD : va_D A [(h0, .inr (5, [.ref t0, .int (nI len), .ref t2, .ref t3, .ref t4, .int (cn)])), (t0, .inl (ak 2, 1000, .inl (upd (f) ((nI len : Int32).toNatClampNeg) (vp_nar .char (x_3)))))] := hD
          refine lv_aload_n hx hb dX5_addBytes_60 rfl (lv_at hl 2 rfl) ?_
          refine lv_dup hx hb dX5_addBytes_61 rfl ?_
          refine va_get (D := D) (ci := 5) (v := .int (nI len)) (C := RX5) (T := TX5) (N := 6) hx hb hts (fun w h => List.mem_cons_of_mem _ (List.mem_append_right _ h)) hown hE.1 hP 0 rfl rfl 1 (by decide) (hts (.fieldLink RX5 29 "WornLines$Tape" "length" "I") (by decide +kernel)) (fun _ h9 => h9) rfl dX5_addBytes_62 ?_
          refine lv_iconst (v := 1) hx hb dX5_addBytes_65 (by decide) ?_
          refine lv_iadd hx hb dX5_addBytes_66 ?_
          refine W.eq (g2 := F0 m 67 ls (.int (nI (len + 1)) :: .ref h0 :: [])) (by rw [nI_1]) ?_
          refine va_put (D := D) (ci := 5) (v := .int (nI (len + 1))) (ty := .int) (C := RX5) (T := TX5) (N := 6) hx hb hts (fun w h => List.mem_cons_of_mem _ (List.mem_append_right _ h)) tyX5 tyX5_ok nmX5 hown hE.1 hP hD hS 0 rfl rfl 1 (by decide) (hts (.fieldLink RX5 29 "WornLines$Tape" "length" "I") (by decide +kernel)) (fun _ h9 => h9) rfl (by decide +kernel) rfl rfl (Nat.le_of_ble_eq_true rfl) dX5_addBytes_67 (fun H locs hP hD hS => ?_)
          have hP : va_P D vwCl [(h0, .inr (5, [.ref t0, .int (nI (len + 1)), .ref t2, .ref t3, .ref t4, .int (cn)])), (t0, .inl (ak 2, 1000, .inl (upd (f) ((nI len : Int32).toNatClampNeg) (vp_nar .char (x_3)))))] H := hP
          have hD : va_D A [(h0, .inr (5, [.ref t0, .int (nI (len + 1)), .ref t2, .ref t3, .ref t4, .int (cn)])), (t0, .inl (ak 2, 1000, .inl (upd (f) ((nI len : Int32).toNatClampNeg) (vp_nar .char (x_3)))))] := hD
          refine lv_iinc (v := (sA (8 - j0))) (lv' := [(3, .int (sA (8 - j0))), (4, .int (bA w (7 - j0))), (0, .ref h0), (1, .long (w))]) hx hb dX5_addBytes_70 hl (k := 1) rfl (sA_m8 j0 (by omega)) (by decide) rfl (fun ls hl => ?_)
          refine lv_goto (tgt := 3) hx hb dX5_addBytes_73 (by decide) ?_
          have hst : stp len (bA w (7 - j0)) = len + 1 := (by unfold stp; first | rw [if_pos ⟨by assumption, Or.inl (by assumption)⟩] | rw [if_pos ⟨by assumption, Or.inr ⟨by assumption, Int32.not_lt.mp (by assumption)⟩⟩])
          exact ih (j0) (len + 1) (upd (f) ((nI len : Int32).toNatClampNeg) (vp_nar .char (x_3))) _ _ _ (by omega) (by rw [← hst]; exact hL) (by rw [← hst]; exact stp_le _ hn) (by omega) (hP.sub [0, 1] rfl) (hD.sub [0, 1] (by decide) rfl) hS (lv_sub hl [0, 2, 3] rfl)
        · refine lv_iload hx hb dX5_addBytes_34 (lv_at hl 0 rfl) ?_
          refine lv_bipush (v := 32) hx hb dX5_addBytes_36 (by decide) ?_
          refine lv_icmp_lt (tgt := 70) hx hb dX5_addBytes_38 (by decide) (fun c_38 => ?_) (fun c_38 => ?_)
          · refine lv_iinc (v := (sA (8 - j0))) (lv' := [(3, .int (sA (8 - j0))), (4, .int (bA w (7 - j0))), (0, .ref h0), (1, .long (w))]) hx hb dX5_addBytes_70 hl (k := 1) rfl (sA_m8 j0 (by omega)) (by decide) rfl (fun ls hl => ?_)
            refine lv_goto (tgt := 3) hx hb dX5_addBytes_73 (by decide) ?_
            have hst : stp len (bA w (7 - j0)) = len := (by unfold stp; first | rw [if_neg (fun h => (by assumption : ¬ len < 1000) h.1)] | rw [if_neg (fun h => h.2.elim (by assumption) (fun q => q.1 (by assumption)))] | rw [if_neg (fun h => h.2.elim (by assumption) (fun q => absurd q.2 (Int32.not_le.mpr (by assumption))))])
            exact ih (j0) (len) (f) _ _ _ (by omega) (by rw [← hst]; exact hL) (by rw [← hst]; exact stp_le _ hn) (by omega) (hP.sub [0, 1] rfl) (hD.sub [0, 1] (by decide) rfl) hS (lv_sub hl [0, 2, 3] rfl)
          · refine lv_iload hx hb dX5_addBytes_41 (lv_at hl 0 rfl) ?_
            refine lv_bipush (v := 126) hx hb dX5_addBytes_43 (by decide) ?_
            refine lv_icmp_gt (tgt := 70) hx hb dX5_addBytes_45 (by decide) (fun c_45 => ?_) (fun c_45 => ?_)
            · refine lv_iinc (v := (sA (8 - j0))) (lv' := [(3, .int (sA (8 - j0))), (4, .int (bA w (7 - j0))), (0, .ref h0), (1, .long (w))]) hx hb dX5_addBytes_70 hl (k := 1) rfl (sA_m8 j0 (by omega)) (by decide) rfl (fun ls hl => ?_)
              refine lv_goto (tgt := 3) hx hb dX5_addBytes_73 (by decide) ?_
              have hst : stp len (bA w (7 - j0)) = len := (by unfold stp; first | rw [if_neg (fun h => (by assumption : ¬ len < 1000) h.1)] | rw [if_neg (fun h => h.2.elim (by assumption) (fun q => q.1 (by assumption)))] | rw [if_neg (fun h => h.2.elim (by assumption) (fun q => absurd q.2 (Int32.not_le.mpr (by assumption))))])
              exact ih (j0) (len) (f) _ _ _ (by omega) (by rw [← hst]; exact hL) (by rw [← hst]; exact stp_le _ hn) (by omega) (hP.sub [0, 1] rfl) (hD.sub [0, 1] (by decide) rfl) hS (lv_sub hl [0, 2, 3] rfl)
            · refine lv_aload_n hx hb dX5_addBytes_48 rfl (lv_at hl 2 rfl) ?_
              refine va_get (D := D) (ci := 5) (v := .ref t0) (C := RX5) (T := TX5) (N := 6) hx hb hts (fun w h => List.mem_cons_of_mem _ (List.mem_append_right _ h)) hown hE.1 hP 0 rfl rfl 0 (by decide) (hts (.fieldLink RX5 9 "WornLines$Tape" "signs" "[C") (by decide +kernel)) (fun _ h9 => h9) rfl dX5_addBytes_49 ?_
              refine lv_aload_n hx hb dX5_addBytes_52 rfl (lv_at hl 2 rfl) ?_
              refine va_get (D := D) (ci := 5) (v := .int (nI len)) (C := RX5) (T := TX5) (N := 6) hx hb hts (fun w h => List.mem_cons_of_mem _ (List.mem_append_right _ h)) hown hE.1 hP 0 rfl rfl 1 (by decide) (hts (.fieldLink RX5 29 "WornLines$Tape" "length" "I") (by decide +kernel)) (fun _ h9 => h9) rfl dX5_addBytes_53 ?_
              refine lv_iload hx hb dX5_addBytes_56 (lv_at hl 0 rfl) ?_
              refine lv_i2c hx hb dX5_addBytes_58 rfl ?_
              refine lv_topi (fun x_4 ex_4 => ?_)
              refine va_cast hx hb hE.1 hP hD hS 1 2 rfl rfl (vp_in_nI hlt (by decide)) dX5_addBytes_59 (fun H locs hP hD hS => ?_)
              have hP : va_P D vwCl [(h0, .inr (5, [.ref t0, .int (nI len), .ref t2, .ref t3, .ref t4, .int (cn)])), (t0, .inl (ak 2, 1000, .inl (upd (f) ((nI len : Int32).toNatClampNeg) (vp_nar .char (x_4)))))] H := hP
              have hD : va_D A [(h0, .inr (5, [.ref t0, .int (nI len), .ref t2, .ref t3, .ref t4, .int (cn)])), (t0, .inl (ak 2, 1000, .inl (upd (f) ((nI len : Int32).toNatClampNeg) (vp_nar .char (x_4)))))] := hD
              refine lv_aload_n hx hb dX5_addBytes_60 rfl (lv_at hl 2 rfl) ?_
              refine lv_dup hx hb dX5_addBytes_61 rfl ?_
              refine va_get (D := D) (ci := 5) (v := .int (nI len)) (C := RX5) (T := TX5) (N := 6) hx hb hts (fun w h => List.mem_cons_of_mem _ (List.mem_append_right _ h)) hown hE.1 hP 0 rfl rfl 1 (by decide) (hts (.fieldLink RX5 29 "WornLines$Tape" "length" "I") (by decide +kernel)) (fun _ h9 => h9) rfl dX5_addBytes_62 ?_
              refine lv_iconst (v := 1) hx hb dX5_addBytes_65 (by decide) ?_
              refine lv_iadd hx hb dX5_addBytes_66 ?_
              refine W.eq (g2 := F0 m 67 ls (.int (nI (len + 1)) :: .ref h0 :: [])) (by rw [nI_1]) ?_
              refine va_put (D := D) (ci := 5) (v := .int (nI (len + 1))) (ty := .int) (C := RX5) (T := TX5) (N := 6) hx hb hts (fun w h => List.mem_cons_of_mem _ (List.mem_append_right _ h)) tyX5 tyX5_ok nmX5 hown hE.1 hP hD hS 0 rfl rfl 1 (by decide) (hts (.fieldLink RX5 29 "WornLines$Tape" "length" "I") (by decide +kernel)) (fun _ h9 => h9) rfl (by decide +kernel) rfl rfl (Nat.le_of_ble_eq_true rfl) dX5_addBytes_67 (fun H locs hP hD hS => ?_)
              have hP : va_P D vwCl [(h0, .inr (5, [.ref t0, .int (nI (len + 1)), .ref t2, .ref t3, .ref t4, .int (cn)])), (t0, .inl (ak 2, 1000, .inl (upd (f) ((nI len : Int32).toNatClampNeg) (vp_nar .char (x_4)))))] H := hP
              have hD : va_D A [(h0, .inr (5, [.ref t0, .int (nI (len + 1)), .ref t2, .ref t3, .ref t4, .int (cn)])), (t0, .inl (ak 2, 1000, .inl (upd (f) ((nI len : Int32).toNatClampNeg) (vp_nar .char (x_4)))))] := hD
              refine lv_iinc (v := (sA (8 - j0))) (lv' := [(3, .int (sA (8 - j0))), (4, .int (bA w (7 - j0))), (0, .ref h0), (1, .long (w))]) hx hb dX5_addBytes_70 hl (k := 1) rfl (sA_m8 j0 (by omega)) (by decide) rfl (fun ls hl => ?_)
              refine lv_goto (tgt := 3) hx hb dX5_addBytes_73 (by decide) ?_
              have hst : stp len (bA w (7 - j0)) = len + 1 := (by unfold stp; first | rw [if_pos ⟨by assumption, Or.inl (by assumption)⟩] | rw [if_pos ⟨by assumption, Or.inr ⟨by assumption, Int32.not_lt.mp (by assumption)⟩⟩])
              exact ih (j0) (len + 1) (upd (f) ((nI len : Int32).toNatClampNeg) (vp_nar .char (x_4))) _ _ _ (by omega) (by rw [← hst]; exact hL) (by rw [← hst]; exact stp_le _ hn) (by omega) (hP.sub [0, 1] rfl) (hD.sub [0, 1] (by decide) rfl) hS (lv_sub hl [0, 2, 3] rfl)

set_option maxHeartbeats 4000000 in
set_option maxRecDepth 100000 in
theorem c_X5_addBytes (l : Launch) (D : va_G) (ak : Nat → ClassId) (ad : Nat → Nat) (sz : Nat) (h0 : Nat) (t0 : Nat) (t2 : Nat) (t3 : Nat) (t4 : Nat) (cn : Int32) (w : Int64) (n : Nat) (f : Nat → Int32) (hn : n ≤ 1000) : Met l yX5_addBytes wsX5_addBytes ({ frames := 0, cells := 0, slots := 0, locals := 0 }) (cPre D ak ad [.ref h0, .long (w)] ([(h0, .inr (5, [.ref t0, .int (nI n), .ref t2, .ref t3, .ref t4, .int (cn)])), (t0, .inl (ak 2, 1000, .inl (f)))]) sz) (cV D (S := (Nat → Int32)) (fun (u : (Nat → Int32)) => True) (fun u => [(h0, .inr (5, [.ref t0, .int (nI (adN w 8 n)), .ref t2, .ref t3, .ref t4, .int (cn)])), (t0, .inl (ak 2, 1000, .inl (u)))]) ([(h0, .inr (5, [.ref t0, .int (nI n), .ref t2, .ref t3, .ref t4, .int (cn)])), (t0, .inl (ak 2, 1000, .inl (f)))]) sz) 0 0 (va_A ([(h0, .inr (5, [.ref t0, .int (nI n), .ref t2, .ref t3, .ref t4, .int (cn)])), (t0, .inl (ak 2, 1000, .inl (f)))]) sz) := by
  refine Met.ofW (cc := cX5_addBytes) (maxL := 5) (ret := none) (by decide) rfl ?_
  intro p e s m args below meth c s₁ B hml hv
  obtain ⟨rfl, hsz, hP, hE, hD0, hT⟩ := hv
  have hx := B.exec
  have hb := B.bytes
  have hr := B.returns
  have hts := atoms_spec (ws := wsX5_addBytes) B.pre
  have hown : s.vm.findClass RX5 = some m.cls := findClass_of_methodNamed B.named
  have hlocks := B.notSynchronized
  subst hsz
  have hD := hD0.self (sz := s.heap.size)
  generalize hAe : va_A ([(h0, .inr (5, [.ref t0, .int (nI n), .ref t2, .ref t3, .ref t4, .int (cn)])), (t0, .inl (ak 2, 1000, .inl (f)))]) s.heap.size = A at hD hT ⊢
  have hA : ∀ q : Nat, s.heap.size ≤ q → A q := fun q h => by rw [← hAe]; exact Or.inr h
  have hS : va_S A s.heap s.heap [] := va_S.rf
  have hl := lv_entry ([.ref h0, .long (w)]) (n := 5) (Nat.le_of_ble_eq_true rfl)
  rw [lg_entry_eq]
  generalize (lg_sl ([.ref h0, .long (w)]) ++ List.replicate (5 - (lg_sl ([.ref h0, .long (w)])).length) Slot.unset).toArray = ls at hl ⊢
  have hl : lv_has ls 5 [(0, .ref h0), (1, .long (w))] := hl
  have hP : va_P D vwCl [(h0, .inr (5, [.ref t0, .int (nI n), .ref t2, .ref t3, .ref t4, .int (cn)])), (t0, .inl (ak 2, 1000, .inl (f)))] s.heap := hP
  refine lv_bipush (v := 56) hx hb dX5_addBytes_0 (by decide) ?_
  refine lv_istore_n (lv' := [(3, .int (56)), (0, .ref h0), (1, .long (w))]) hx hb dX5_addBytes_2 rfl hl (by decide) rfl (fun ls hl => ?_)
  have hl : lv_has ls 5 [(3, .int (sA (8 - 8))), (0, .ref h0), (1, .long (w))] := hl
  refine lp_addBytes hx hb hown hts hml hE hT hA (h0) (t0) (t2) (t3) (t4) (cn) (w) (adN w 8 n)  ?_ _ (8) (n) (f) _ _ _ (Nat.le_refl _) (rfl) (hn) (Nat.lt_succ_self _) (hP.sub [0, 1] rfl) (hD.sub [0, 1] (by decide) rfl) hS (lv_sub hl [0, 1, 2] rfl)
  intro j_1 len_2 f_3 H locs ls hz_4 hP hD hS hl
  have hP : va_P D vwCl [(h0, .inr (5, [.ref t0, .int (nI len_2), .ref t2, .ref t3, .ref t4, .int (cn)])), (t0, .inl (ak 2, 1000, .inl (f_3)))] H := hP
  have hD : va_D A [(h0, .inr (5, [.ref t0, .int (nI len_2), .ref t2, .ref t3, .ref t4, .int (cn)])), (t0, .inl (ak 2, 1000, .inl (f_3)))] := hD
  have e9 : len_2 = adN w 8 n := hz_4.1
  subst e9
  have hP9 := hP.sub (ws' := [(h0, .inr (5, [.ref t0, .int (nI (adN w 8 n)), .ref t2, .ref t3, .ref t4, .int (cn)])), (t0, .inl (ak 2, 1000, .inl (f_3)))]) [0, 1] rfl
  have hD9 := hD.sub (ws' := [(h0, .inr (5, [.ref t0, .int (nI (adN w 8 n)), .ref t2, .ref t3, .ref t4, .int (cn)])), (t0, .inl (ak 2, 1000, .inl (f_3)))]) [0, 1] (by decide) rfl
  refine W.widen (k := 0) (n := 0) (Nat.le_of_ble_eq_true rfl) (Nat.le_of_ble_eq_true rfl) ?_
  exact W.vret hx hb hr (fun t ht hW => ⟨⟨(f_3), rfl, trivial, by rw [ht]; exact hP9, by rw [hAe]; exact hD9⟩, by rw [hAe]; exact hS.F ht⟩) hS.2.2 dX5_addBytes_76

set_option maxHeartbeats 4000000 in
set_option maxRecDepth 100000 in
theorem c_X7_feed (l : Launch) (D : va_G) (ak : Nat → ClassId) (ad : Nat → Nat) (sz : Nat) (h0 : Nat) (xt : Nat) (xe : Nat) (xr : Nat) (xh : Nat) (xw : Nat) (xf : Nat) (xm : Nat) (xd : Nat) (xs : Nat) (xl : Nat) (t0 : Nat) (t2 : Nat) (t3 : Nat) (t4 : Nat) (cn : Int32) (f : Nat → Int32) (w0 : Int64) (w1 : Int64) (w2 : Int64)  : Met l yX7_feed wsX7_feed ({ frames := 1, cells := 0, slots := 0, locals := 24 }) (cPre D ak ad [.ref h0, .long (w0), .long (w1), .long (w2)] ([(h0, .inr (6, [.ref xt, .ref xe, .ref xr, .ref xh, .ref xw, .ref xf, .ref xm, .ref xd, .ref xs, .ref xl])), (xt, .inr (5, [.ref t0, .int (0), .ref t2, .ref t3, .ref t4, .int (cn)])), (t0, .inl (ak 2, 1000, .inl (f)))]) sz) (cI D (S := Unit) (fun (r : Int32) (u : Unit) => r = nI (adN w2 8 (adN w1 8 (adN w0 8 0)))) (fun u => []) ([(h0, .inr (6, [.ref xt, .ref xe, .ref xr, .ref xh, .ref xw, .ref xf, .ref xm, .ref xd, .ref xs, .ref xl])), (xt, .inr (5, [.ref t0, .int (0), .ref t2, .ref t3, .ref t4, .int (cn)])), (t0, .inl (ak 2, 1000, .inl (f)))]) sz) 0 0 (va_A ([(h0, .inr (6, [.ref xt, .ref xe, .ref xr, .ref xh, .ref xw, .ref xf, .ref xm, .ref xd, .ref xs, .ref xl])), (xt, .inr (5, [.ref t0, .int (0), .ref t2, .ref t3, .ref t4, .int (cn)])), (t0, .inl (ak 2, 1000, .inl (f)))]) sz) := by
  refine Met.ofW (cc := cX7_feed) (maxL := 7) (ret := (some .int)) (by decide) rfl ?_
  intro p e s m args below meth c s₁ B hml hv
  obtain ⟨rfl, hsz, hP, hE, hD0, hT⟩ := hv
  have hx := B.exec
  have hb := B.bytes
  have hr := B.returns
  have hts := atoms_spec (ws := wsX7_feed) B.pre
  have hown : s.vm.findClass RX7 = some m.cls := findClass_of_methodNamed B.named
  have hlocks := B.notSynchronized
  subst hsz
  have hD := hD0.self (sz := s.heap.size)
  generalize hAe : va_A ([(h0, .inr (6, [.ref xt, .ref xe, .ref xr, .ref xh, .ref xw, .ref xf, .ref xm, .ref xd, .ref xs, .ref xl])), (xt, .inr (5, [.ref t0, .int (0), .ref t2, .ref t3, .ref t4, .int (cn)])), (t0, .inl (ak 2, 1000, .inl (f)))]) s.heap.size = A at hD hT ⊢
  have hA : ∀ q : Nat, s.heap.size ≤ q → A q := fun q h => by rw [← hAe]; exact Or.inr h
  have hS : va_S A s.heap s.heap [] := va_S.rf
  have hl := lv_entry ([.ref h0, .long (w0), .long (w1), .long (w2)]) (n := 7) (Nat.le_of_ble_eq_true rfl)
  rw [lg_entry_eq]
  generalize (lg_sl ([.ref h0, .long (w0), .long (w1), .long (w2)]) ++ List.replicate (7 - (lg_sl ([.ref h0, .long (w0), .long (w1), .long (w2)])).length) Slot.unset).toArray = ls at hl ⊢
  have hl : lv_has ls 7 [(0, .ref h0), (1, .long (w0)), (3, .long (w1)), (5, .long (w2))] := hl
  have hP : va_P D vwCl [(h0, .inr (6, [.ref xt, .ref xe, .ref xr, .ref xh, .ref xw, .ref xf, .ref xm, .ref xd, .ref xs, .ref xl])), (xt, .inr (5, [.ref t0, .int (0), .ref t2, .ref t3, .ref t4, .int (cn)])), (t0, .inl (ak 2, 1000, .inl (f)))] s.heap := hP
  refine lv_aload_n hx hb dX7_feed_0 rfl (lv_at hl 0 rfl) ?_
  refine va_get (D := D) (ci := 6) (v := .ref xt) (C := RX7) (T := TX7) (N := 10) hx hb hts (fun w h => List.mem_cons_of_mem _ (List.mem_append_left _ (List.mem_append_right _ h))) hown hE.1 hP 0 rfl rfl 0 (by decide) (hts (.fieldLink RX7 10 "WornLines" "tape" "LWornLines$Tape;") (by decide +kernel)) (fun _ h9 => h9) rfl dX7_feed_1 ?_
  refine lv_lload_n hx hb dX7_feed_4 rfl (lv_at hl 1 rfl) ?_
  refine kc_v (wc := [(xt, .inr (5, [.ref t0, .int (0), .ref t2, .ref t3, .ref t4, .int (cn)])), (t0, .inl (ak 2, 1000, .inl (f)))]) (wr := [(h0, .inr (6, [.ref xt, .ref xe, .ref xr, .ref xh, .ref xw, .ref xf, .ref xm, .ref xd, .ref xs, .ref xl]))]) hP hD hS hA [1, 2] [0] rfl rfl (by decide) (by decide) (va_runV (As := [.long (w0)]) (rest := []) ⟨hx, hb, hml, hown, hts⟩ (c_X5_addBytes l D ak ad _ (xt) (t0) (t2) (t3) (t4) (cn) (w0) (0) (f) (Nat.zero_le _)) (cwV 1 hts gX7_feed_X5_addBytes rfl rfl rfl (by decide +kernel) ⟨Nat.le_of_ble_eq_true rfl, Nat.le_of_ble_eq_true rfl⟩) (kc_preV (As := [.long (w0)]) (wc := [(xt, .inr (5, [.ref t0, .int (0), .ref t2, .ref t3, .ref t4, .int (cn)])), (t0, .inl (ak 2, 1000, .inl (f)))]) hE hT hP hD hS hA [1, 2] (by decide) rfl rfl 1 5 rfl rfl rfl) rfl rfl hl.1 rfl (lv_room (Nat.le_of_ble_eq_true rfl)) dX7_feed_5 ⟨Nat.le_of_ble_eq_true rfl, Nat.le_of_ble_eq_true rfl⟩) (fun f2_2 H locs hw_3 hP hD hS => ?_)
  have hP : va_P D vwCl [(h0, .inr (6, [.ref xt, .ref xe, .ref xr, .ref xh, .ref xw, .ref xf, .ref xm, .ref xd, .ref xs, .ref xl])), (xt, .inr (5, [.ref t0, .int (nI (adN w0 8 0)), .ref t2, .ref t3, .ref t4, .int (cn)])), (t0, .inl (ak 2, 1000, .inl (f2_2)))] H := hP
  have hD : va_D A [(h0, .inr (6, [.ref xt, .ref xe, .ref xr, .ref xh, .ref xw, .ref xf, .ref xm, .ref xd, .ref xs, .ref xl])), (xt, .inr (5, [.ref t0, .int (nI (adN w0 8 0)), .ref t2, .ref t3, .ref t4, .int (cn)])), (t0, .inl (ak 2, 1000, .inl (f2_2)))] := hD
  refine lv_aload_n hx hb dX7_feed_8 rfl (lv_at hl 0 rfl) ?_
  refine va_get (D := D) (ci := 6) (v := .ref xt) (C := RX7) (T := TX7) (N := 10) hx hb hts (fun w h => List.mem_cons_of_mem _ (List.mem_append_left _ (List.mem_append_right _ h))) hown hE.1 hP 0 rfl rfl 0 (by decide) (hts (.fieldLink RX7 10 "WornLines" "tape" "LWornLines$Tape;") (by decide +kernel)) (fun _ h9 => h9) rfl dX7_feed_9 ?_
  refine lv_lload_n hx hb dX7_feed_12 rfl (lv_at hl 2 rfl) ?_
  refine kc_v (wc := [(xt, .inr (5, [.ref t0, .int (nI (adN w0 8 0)), .ref t2, .ref t3, .ref t4, .int (cn)])), (t0, .inl (ak 2, 1000, .inl (f2_2)))]) (wr := [(h0, .inr (6, [.ref xt, .ref xe, .ref xr, .ref xh, .ref xw, .ref xf, .ref xm, .ref xd, .ref xs, .ref xl]))]) hP hD hS hA [1, 2] [0] rfl rfl (by decide) (by decide) (va_runV (As := [.long (w1)]) (rest := []) ⟨hx, hb, hml, hown, hts⟩ (c_X5_addBytes l D ak ad _ (xt) (t0) (t2) (t3) (t4) (cn) (w1) (adN w0 8 0) (f2_2) (adN_le _ _ _ (Nat.zero_le _))) (cwV 1 hts gX7_feed_X5_addBytes rfl rfl rfl (by decide +kernel) ⟨Nat.le_of_ble_eq_true rfl, Nat.le_of_ble_eq_true rfl⟩) (kc_preV (As := [.long (w1)]) (wc := [(xt, .inr (5, [.ref t0, .int (nI (adN w0 8 0)), .ref t2, .ref t3, .ref t4, .int (cn)])), (t0, .inl (ak 2, 1000, .inl (f2_2)))]) hE hT hP hD hS hA [1, 2] (by decide) rfl rfl 1 5 rfl rfl rfl) rfl rfl hl.1 rfl (lv_room (Nat.le_of_ble_eq_true rfl)) dX7_feed_13 ⟨Nat.le_of_ble_eq_true rfl, Nat.le_of_ble_eq_true rfl⟩) (fun f2_5 H locs hw_6 hP hD hS => ?_)
  have hP : va_P D vwCl [(h0, .inr (6, [.ref xt, .ref xe, .ref xr, .ref xh, .ref xw, .ref xf, .ref xm, .ref xd, .ref xs, .ref xl])), (xt, .inr (5, [.ref t0, .int (nI (adN w1 8 (adN w0 8 0))), .ref t2, .ref t3, .ref t4, .int (cn)])), (t0, .inl (ak 2, 1000, .inl (f2_5)))] H := hP
  have hD : va_D A [(h0, .inr (6, [.ref xt, .ref xe, .ref xr, .ref xh, .ref xw, .ref xf, .ref xm, .ref xd, .ref xs, .ref xl])), (xt, .inr (5, [.ref t0, .int (nI (adN w1 8 (adN w0 8 0))), .ref t2, .ref t3, .ref t4, .int (cn)])), (t0, .inl (ak 2, 1000, .inl (f2_5)))] := hD
  refine lv_aload_n hx hb dX7_feed_16 rfl (lv_at hl 0 rfl) ?_
  refine va_get (D := D) (ci := 6) (v := .ref xt) (C := RX7) (T := TX7) (N := 10) hx hb hts (fun w h => List.mem_cons_of_mem _ (List.mem_append_left _ (List.mem_append_right _ h))) hown hE.1 hP 0 rfl rfl 0 (by decide) (hts (.fieldLink RX7 10 "WornLines" "tape" "LWornLines$Tape;") (by decide +kernel)) (fun _ h9 => h9) rfl dX7_feed_17 ?_
  refine lv_lload hx hb dX7_feed_20 (lv_at hl 3 rfl) ?_
  refine kc_v (wc := [(xt, .inr (5, [.ref t0, .int (nI (adN w1 8 (adN w0 8 0))), .ref t2, .ref t3, .ref t4, .int (cn)])), (t0, .inl (ak 2, 1000, .inl (f2_5)))]) (wr := [(h0, .inr (6, [.ref xt, .ref xe, .ref xr, .ref xh, .ref xw, .ref xf, .ref xm, .ref xd, .ref xs, .ref xl]))]) hP hD hS hA [1, 2] [0] rfl rfl (by decide) (by decide) (va_runV (As := [.long (w2)]) (rest := []) ⟨hx, hb, hml, hown, hts⟩ (c_X5_addBytes l D ak ad _ (xt) (t0) (t2) (t3) (t4) (cn) (w2) (adN w1 8 (adN w0 8 0)) (f2_5) (adN_le _ _ _ (adN_le _ _ _ (Nat.zero_le _)))) (cwV 1 hts gX7_feed_X5_addBytes rfl rfl rfl (by decide +kernel) ⟨Nat.le_of_ble_eq_true rfl, Nat.le_of_ble_eq_true rfl⟩) (kc_preV (As := [.long (w2)]) (wc := [(xt, .inr (5, [.ref t0, .int (nI (adN w1 8 (adN w0 8 0))), .ref t2, .ref t3, .ref t4, .int (cn)])), (t0, .inl (ak 2, 1000, .inl (f2_5)))]) hE hT hP hD hS hA [1, 2] (by decide) rfl rfl 1 5 rfl rfl rfl) rfl rfl hl.1 rfl (lv_room (Nat.le_of_ble_eq_true rfl)) dX7_feed_22 ⟨Nat.le_of_ble_eq_true rfl, Nat.le_of_ble_eq_true rfl⟩) (fun f2_8 H locs hw_9 hP hD hS => ?_)
  have hP : va_P D vwCl [(h0, .inr (6, [.ref xt, .ref xe, .ref xr, .ref xh, .ref xw, .ref xf, .ref xm, .ref xd, .ref xs, .ref xl])), (xt, .inr (5, [.ref t0, .int (nI (adN w2 8 (adN w1 8 (adN w0 8 0)))), .ref t2, .ref t3, .ref t4, .int (cn)])), (t0, .inl (ak 2, 1000, .inl (f2_8)))] H := hP
  have hD : va_D A [(h0, .inr (6, [.ref xt, .ref xe, .ref xr, .ref xh, .ref xw, .ref xf, .ref xm, .ref xd, .ref xs, .ref xl])), (xt, .inr (5, [.ref t0, .int (nI (adN w2 8 (adN w1 8 (adN w0 8 0)))), .ref t2, .ref t3, .ref t4, .int (cn)])), (t0, .inl (ak 2, 1000, .inl (f2_8)))] := hD
  refine lv_aload_n hx hb dX7_feed_25 rfl (lv_at hl 0 rfl) ?_
  refine va_get (D := D) (ci := 6) (v := .ref xt) (C := RX7) (T := TX7) (N := 10) hx hb hts (fun w h => List.mem_cons_of_mem _ (List.mem_append_left _ (List.mem_append_right _ h))) hown hE.1 hP 0 rfl rfl 0 (by decide) (hts (.fieldLink RX7 10 "WornLines" "tape" "LWornLines$Tape;") (by decide +kernel)) (fun _ h9 => h9) rfl dX7_feed_26 ?_
  refine va_get (D := D) (ci := 5) (v := .int (nI (adN w2 8 (adN w1 8 (adN w0 8 0))))) (C := RX5) (T := TX5) (N := 6) hx hb hts (fun w h => List.mem_cons_of_mem _ (List.mem_append_right _ h)) hown hE.1 hP 1 rfl rfl 1 (by decide) (hts (.fieldLink RX7 75 "WornLines$Tape" "length" "I") (by decide +kernel)) (fun _ h9 => h9) rfl dX7_feed_29 ?_
  have hP9 := hP.sub (ws' := []) [] rfl
  have hD9 := hD.sub (ws' := []) [] (by decide) rfl
  refine W.widen (k := 0) (n := 0) (Nat.le_of_ble_eq_true rfl) (Nat.le_of_ble_eq_true rfl) ?_
  exact W.iret (v := nI (adN w2 8 (adN w1 8 (adN w0 8 0)))) hx hb hr (fun t ht hW => ⟨⟨nI (adN w2 8 (adN w1 8 (adN w0 8 0))), (()), rfl, rfl, by rw [ht]; exact hP9, by rw [hAe]; exact hD9⟩, by rw [hAe]; exact hS.F ht⟩) hS.2.2 dX7_feed_32
