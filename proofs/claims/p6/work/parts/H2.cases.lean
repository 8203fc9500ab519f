theorem dL_law_916 : decode cL_law 916 = .ok (.aload_n 1, 1) := by decide +kernel
theorem dL_law_917 : decode cL_law 917 = .ok (.aload_n 0, 1) := by decide +kernel
theorem dL_law_918 : decode cL_law 918 = .ok (.iload 4, 2) := by decide +kernel
theorem dL_law_920 : decode cL_law 920 = .ok (.iconst 1, 1) := by decide +kernel
theorem dL_law_921 : decode cL_law 921 = .ok (.iadd, 1) := by decide +kernel
theorem dL_law_922 : decode cL_law 922 = .ok (.iaload, 1) := by decide +kernel
theorem dL_law_926 : decode cL_law 926 = .ok (.pop, 1) := by decide +kernel
theorem dL_law_927 : decode cL_law 927 = .ok (.aload_n 2, 1) := by decide +kernel
theorem dL_law_928 : decode cL_law 928 = .ok (.aload_n 0, 1) := by decide +kernel
theorem dL_law_929 : decode cL_law 929 = .ok (.iload 4, 2) := by decide +kernel
theorem dL_law_931 : decode cL_law 931 = .ok (.iconst 1, 1) := by decide +kernel
theorem dL_law_932 : decode cL_law 932 = .ok (.iadd, 1) := by decide +kernel
theorem dL_law_933 : decode cL_law 933 = .ok (.iaload, 1) := by decide +kernel
theorem dL_law_934 : decode cL_law 934 = .ok (.invokevirtual 131, 3) := by decide +kernel
theorem dL_law_937 : decode cL_law 937 = .ok (.pop, 1) := by decide +kernel
theorem dL_law_938 : decode cL_law 938 = .ok (.goto 81, 3) := by decide +kernel
theorem dL_law_923 : decode cL_law 923 = .ok (.invokevirtual 128, 3) := by decide +kernel
theorem dL_law_941 : decode cL_law 941 = .ok (.aload_n 1, 1) := by decide +kernel
theorem dL_law_942 : decode cL_law 942 = .ok (.aload_n 0, 1) := by decide +kernel
theorem dL_law_943 : decode cL_law 943 = .ok (.iload 4, 2) := by decide +kernel
theorem dL_law_945 : decode cL_law 945 = .ok (.iconst 1, 1) := by decide +kernel
theorem dL_law_946 : decode cL_law 946 = .ok (.iadd, 1) := by decide +kernel
theorem dL_law_947 : decode cL_law 947 = .ok (.iaload, 1) := by decide +kernel
theorem dL_law_948 : decode cL_law 948 = .ok (.aload_n 0, 1) := by decide +kernel
theorem dL_law_949 : decode cL_law 949 = .ok (.iload 4, 2) := by decide +kernel
theorem dL_law_951 : decode cL_law 951 = .ok (.iconst 2, 1) := by decide +kernel
theorem dL_law_952 : decode cL_law 952 = .ok (.iadd, 1) := by decide +kernel
theorem dL_law_953 : decode cL_law 953 = .ok (.iaload, 1) := by decide +kernel
theorem dL_law_965 : decode cL_law 965 = .ok (.pop, 1) := by decide +kernel
theorem dL_law_966 : decode cL_law 966 = .ok (.aload_n 2, 1) := by decide +kernel
theorem dL_law_967 : decode cL_law 967 = .ok (.aload_n 0, 1) := by decide +kernel
theorem dL_law_968 : decode cL_law 968 = .ok (.iload 4, 2) := by decide +kernel
theorem dL_law_970 : decode cL_law 970 = .ok (.iconst 1, 1) := by decide +kernel
theorem dL_law_971 : decode cL_law 971 = .ok (.iadd, 1) := by decide +kernel
theorem dL_law_972 : decode cL_law 972 = .ok (.iaload, 1) := by decide +kernel
theorem dL_law_973 : decode cL_law 973 = .ok (.aload_n 0, 1) := by decide +kernel
theorem dL_law_974 : decode cL_law 974 = .ok (.iload 4, 2) := by decide +kernel
theorem dL_law_976 : decode cL_law 976 = .ok (.iconst 2, 1) := by decide +kernel
theorem dL_law_977 : decode cL_law 977 = .ok (.iadd, 1) := by decide +kernel
theorem dL_law_978 : decode cL_law 978 = .ok (.iaload, 1) := by decide +kernel
theorem dL_law_987 : decode cL_law 987 = .ok (.invokevirtual 136, 3) := by decide +kernel
theorem dL_law_990 : decode cL_law 990 = .ok (.pop, 1) := by decide +kernel
theorem dL_law_991 : decode cL_law 991 = .ok (.goto 28, 3) := by decide +kernel
theorem dL_law_979 : decode cL_law 979 = .ok (.ifCond .eq 7, 3) := by decide +kernel
theorem dL_law_986 : decode cL_law 986 = .ok (.iconst 0, 1) := by decide +kernel
theorem dL_law_982 : decode cL_law 982 = .ok (.iconst 1, 1) := by decide +kernel
theorem dL_law_983 : decode cL_law 983 = .ok (.goto 4, 3) := by decide +kernel
theorem dL_law_962 : decode cL_law 962 = .ok (.invokevirtual 132, 3) := by decide +kernel
theorem dL_law_954 : decode cL_law 954 = .ok (.ifCond .eq 7, 3) := by decide +kernel
theorem dL_law_961 : decode cL_law 961 = .ok (.iconst 0, 1) := by decide +kernel
theorem dL_law_957 : decode cL_law 957 = .ok (.iconst 1, 1) := by decide +kernel
theorem dL_law_958 : decode cL_law 958 = .ok (.goto 4, 3) := by decide +kernel
set_option maxHeartbeats 4000000 in
set_option maxRecDepth 100000 in
theorem lk_24 {p : Program} {e : Env} {s : State} {m : MethodId} {below : List Frame} {meth : Method} {c : Code} (l : Launch) {b L : Nat} {xs : Nat → Int32} (C0 : lw_At p s m meth c b L xs) {A : Nat → Prop} (hAe : A = fun q => s.heap.size ≤ q) {D : va_G} {ak : Nat → ClassId} {ad : Nat → Nat} (hl0 : l.stackTraces = false) (hE : EV D ak s) (hT : ST D ak ad A s s.heap) (hXE : XE A s s.heap) {o0 m0 x0 : Nat} {i : Int32} {k cells slots : Nat} (hi : i = nI k) (hk : k + 7 ≤ L) (hL : L ≤ 3584) (hc : cells + 15 ≤ room_1.cells) (hs : slots + 1133 ≤ room_1.slots) (kk : LGo p l e s m b below meth c D ak ad A o0 m0 x0 i 1019 (cells + 15) (slots + 1133)) : LGo p l e s m b below meth c D ak ad A o0 m0 x0 i 916 cells slots := by
  obtain ⟨hx, hb, hr, hml, hown, hts, hX, hbl, hlocks, hgv⟩ := id C0
  have hown : s.vm.findClass RL = some m.cls := hown
  have hA : ∀ q : Nat, s.heap.size ≤ q → A q := fun q h => by rw [hAe]; exact h
  have hbA : ¬ A b := by rw [hAe]; exact Nat.not_le.mpr hbl
  intro v LX LM fo H locs ls hI hJ hP hD hS hl
  refine lv_aload_n hx hb dL_law_916 rfl (lv_at hl 3 rfl) ?_
  refine lv_aload_n hx hb dL_law_917 rfl (lv_at hl 4 rfl) ?_
  refine lv_iload hx hb dL_law_918 (lv_at hl 0 rfl) ?_
  refine lv_iconst (v := 1) hx hb dL_law_920 (by decide) ?_
  refine lv_iadd hx hb dL_law_921 ?_
  refine va_sld hx hb hX hbl hbA hS (lk_in (d := 1) hi hk hL (by decide)) dL_law_922 ?_
  refine lv_topi (fun a1 ea1 => ?_)
  obtain ⟨q1, hh1⟩ := hI.head
  have kc : ∀ (r1 : Int32) (LX : va_W) (H : Heap) (locs : List Loc), r1 = f_same v a1 ∧ IX ak ad x0 v LX → va_P D vwCl (LM ++ (LX ++ [(o0, .inl (ak 1, 1, .inr (.inl fo)))])) H → va_D A (LM ++ (LX ++ [(o0, .inl (ak 1, 1, .inr (.inl fo)))])) → va_S A s.heap H locs → W p l e room_1 s m #[Value.ref b] below meth c H locs (cells + 0) (slots + 0) (lw_Z below #[Value.ref b] s) (F0 m 926 ls (.int r1 :: [])) := by
    intro r1 LX H locs hR hP hD hS
    obtain ⟨er1, hI⟩ := hR
    refine lv_pop hx hb dL_law_926 rfl ?_
    refine lv_aload_n hx hb dL_law_927 rfl (lv_at hl 2 rfl) ?_
    refine lv_aload_n hx hb dL_law_928 rfl (lv_at hl 4 rfl) ?_
    refine lv_iload hx hb dL_law_929 (lv_at hl 0 rfl) ?_
    refine lv_iconst (v := 1) hx hb dL_law_931 (by decide) ?_
    refine lv_iadd hx hb dL_law_932 ?_
    refine va_sld hx hb hX hbl hbA hS (lk_in (d := 1) hi hk hL (by decide)) dL_law_933 ?_
    refine W.eq (g2 := F0 m 934 ls (.int a1 :: .ref m0 :: [])) (by rw [ea1]) ?_
    obtain ⟨q2, hh2⟩ := hJ.head
    refine lc_i (U := []) (C := LM) (V := LX ++ [(o0, .inl (ak 1, 1, .inr (.inl fo)))]) hP hD hS hA (va_runV (As := [.int a1]) (rest := []) ⟨hx, hb, hml, hown, hts⟩ (m_same l D ak ad _ m0 v LM a1 hJ) (cwV 1 hts hG_X8_same rfl rfl rfl (by decide +kernel) ⟨Nat.le_of_ble_eq_true rfl, Nat.le_of_ble_eq_true rfl⟩) (lc_preV (U := []) (C := LM) (V := LX ++ [(o0, .inl (ak 1, 1, .inr (.inl fo)))]) (As := [.int a1]) hE hT hP hD hS hA 0 7 rfl rfl hh2) rfl rfl hl.1 rfl (lv_room (Nat.le_of_ble_eq_true rfl)) dL_law_934 ⟨by omega, by omega⟩) (fun r2 LM H locs hR hP hD hS => ?_)
    obtain ⟨er2, hJ⟩ := hR
    have hP : va_P D vwCl (LM ++ (LX ++ [(o0, .inl (ak 1, 1, .inr (.inl fo)))])) H := hP
    have hD : va_D A (LM ++ (LX ++ [(o0, .inl (ak 1, 1, .inr (.inl fo)))])) := hD
    refine lv_pop hx hb dL_law_937 rfl ?_
    refine lv_goto (tgt := 1019) hx hb dL_law_938 (by decide) ?_
    refine W.widen (k := cells + 15) (n := slots + 1133) (by omega) (by omega) ?_
    exact kk _ LX LM fo H locs ls hI hJ hP hD hS (lv_sub hl [0, 1, 2, 3, 4] rfl)
  rcases pk_ix a1 (n := 4) (by decide) with h9 | h9 | ⟨k9, hk9, ek⟩
  · exact lc_i (U := LM) (C := LX) (V := [(o0, .inl (ak 1, 1, .inr (.inl fo)))]) hP hD hS hA (va_runV (As := [.int a1]) (rest := []) ⟨hx, hb, hml, hown, hts⟩ (x_samex l D ak ad _ x0 v LX a1 hI (Or.inl h9)) (cwV 1 hts hG_X7_same rfl rfl rfl (by decide +kernel) ⟨Nat.le_of_ble_eq_true rfl, Nat.le_of_ble_eq_true rfl⟩) (lc_preV (U := LM) (C := LX) (V := [(o0, .inl (ak 1, 1, .inr (.inl fo)))]) (As := [.int a1]) hE hT hP hD hS hA 0 6 rfl rfl hh1) rfl rfl hl.1 rfl (lv_room (Nat.le_of_ble_eq_true rfl)) dL_law_923 ⟨by omega, by omega⟩) kc
  · exact lc_i (U := LM) (C := LX) (V := [(o0, .inl (ak 1, 1, .inr (.inl fo)))]) hP hD hS hA (va_runV (As := [.int a1]) (rest := []) ⟨hx, hb, hml, hown, hts⟩ (x_samex l D ak ad _ x0 v LX a1 hI (Or.inr h9)) (cwV 1 hts hG_X7_same rfl rfl rfl (by decide +kernel) ⟨Nat.le_of_ble_eq_true rfl, Nat.le_of_ble_eq_true rfl⟩) (lc_preV (U := LM) (C := LX) (V := [(o0, .inl (ak 1, 1, .inr (.inl fo)))]) (As := [.int a1]) hE hT hP hD hS hA 0 6 rfl rfl hh1) rfl rfl hl.1 rfl (lv_room (Nat.le_of_ble_eq_true rfl)) dL_law_923 ⟨by omega, by omega⟩) kc
  · match k9, hk9, ek with
    | 0, _, ek =>
      refine W.eq (g2 := F0 m 923 ls (.int (0) :: .ref x0 :: [])) (by rw [ek]; rfl) ?_
      exact lc_i (U := LM) (C := LX) (V := [(o0, .inl (ak 1, 1, .inr (.inl fo)))]) hP hD hS hA (va_runV (As := [.int (0)]) (rest := []) ⟨hx, hb, hml, hown, hts⟩ (x_same0 l D ak ad _ x0 v LX  hI) (cwV 1 hts hG_X7_same rfl rfl rfl (by decide +kernel) ⟨Nat.le_of_ble_eq_true rfl, Nat.le_of_ble_eq_true rfl⟩) (lc_preV (U := LM) (C := LX) (V := [(o0, .inl (ak 1, 1, .inr (.inl fo)))]) (As := [.int (0)]) hE hT hP hD hS hA 0 6 rfl rfl hh1) rfl rfl hl.1 rfl (lv_room (Nat.le_of_ble_eq_true rfl)) dL_law_923 ⟨by omega, by omega⟩) (fun r LX H locs hR hP hD hS => kc r LX H locs ⟨by rw [ek]; exact hR.1, hR.2⟩ hP hD hS)
    | 1, _, ek =>
      refine W.eq (g2 := F0 m 923 ls (.int (1) :: .ref x0 :: [])) (by rw [ek]; rfl) ?_
      exact lc_i (U := LM) (C := LX) (V := [(o0, .inl (ak 1, 1, .inr (.inl fo)))]) hP hD hS hA (va_runV (As := [.int (1)]) (rest := []) ⟨hx, hb, hml, hown, hts⟩ (x_same1 l D ak ad _ x0 v LX  hI) (cwV 1 hts hG_X7_same rfl rfl rfl (by decide +kernel) ⟨Nat.le_of_ble_eq_true rfl, Nat.le_of_ble_eq_true rfl⟩) (lc_preV (U := LM) (C := LX) (V := [(o0, .inl (ak 1, 1, .inr (.inl fo)))]) (As := [.int (1)]) hE hT hP hD hS hA 0 6 rfl rfl hh1) rfl rfl hl.1 rfl (lv_room (Nat.le_of_ble_eq_true rfl)) dL_law_923 ⟨by omega, by omega⟩) (fun r LX H locs hR hP hD hS => kc r LX H locs ⟨by rw [ek]; exact hR.1, hR.2⟩ hP hD hS)
    | 2, _, ek =>
      refine W.eq (g2 := F0 m 923 ls (.int (2) :: .ref x0 :: [])) (by rw [ek]; rfl) ?_
      exact lc_i (U := LM) (C := LX) (V := [(o0, .inl (ak 1, 1, .inr (.inl fo)))]) hP hD hS hA (va_runV (As := [.int (2)]) (rest := []) ⟨hx, hb, hml, hown, hts⟩ (x_same2 l D ak ad _ x0 v LX  hI) (cwV 1 hts hG_X7_same rfl rfl rfl (by decide +kernel) ⟨Nat.le_of_ble_eq_true rfl, Nat.le_of_ble_eq_true rfl⟩) (lc_preV (U := LM) (C := LX) (V := [(o0, .inl (ak 1, 1, .inr (.inl fo)))]) (As := [.int (2)]) hE hT hP hD hS hA 0 6 rfl rfl hh1) rfl rfl hl.1 rfl (lv_room (Nat.le_of_ble_eq_true rfl)) dL_law_923 ⟨by omega, by omega⟩) (fun r LX H locs hR hP hD hS => kc r LX H locs ⟨by rw [ek]; exact hR.1, hR.2⟩ hP hD hS)
    | 3, _, ek =>
      refine W.eq (g2 := F0 m 923 ls (.int (3) :: .ref x0 :: [])) (by rw [ek]; rfl) ?_
      exact lc_i (U := LM) (C := LX) (V := [(o0, .inl (ak 1, 1, .inr (.inl fo)))]) hP hD hS hA (va_runV (As := [.int (3)]) (rest := []) ⟨hx, hb, hml, hown, hts⟩ (x_same3 l D ak ad _ x0 v LX  hI) (cwV 1 hts hG_X7_same rfl rfl rfl (by decide +kernel) ⟨Nat.le_of_ble_eq_true rfl, Nat.le_of_ble_eq_true rfl⟩) (lc_preV (U := LM) (C := LX) (V := [(o0, .inl (ak 1, 1, .inr (.inl fo)))]) (As := [.int (3)]) hE hT hP hD hS hA 0 6 rfl rfl hh1) rfl rfl hl.1 rfl (lv_room (Nat.le_of_ble_eq_true rfl)) dL_law_923 ⟨by omega, by omega⟩) (fun r LX H locs hR hP hD hS => kc r LX H locs ⟨by rw [ek]; exact hR.1, hR.2⟩ hP hD hS)
set_option maxHeartbeats 4000000 in
set_option maxRecDepth 100000 in
theorem lk_25 {p : Program} {e : Env} {s : State} {m : MethodId} {below : List Frame} {meth : Method} {c : Code} (l : Launch) {b L : Nat} {xs : Nat → Int32} (C0 : lw_At p s m meth c b L xs) {A : Nat → Prop} (hAe : A = fun q => s.heap.size ≤ q) {D : va_G} {ak : Nat → ClassId} {ad : Nat → Nat} (hl0 : l.stackTraces = false) (hE : EV D ak s) (hT : ST D ak ad A s s.heap) (hXE : XE A s s.heap) {o0 m0 x0 : Nat} {i : Int32} {k cells slots : Nat} (hi : i = nI k) (hk : k + 7 ≤ L) (hL : L ≤ 3584) (hc : cells + 15 ≤ room_1.cells) (hs : slots + 1133 ≤ room_1.slots) (kk : LGo p l e s m b below meth c D ak ad A o0 m0 x0 i 1019 (cells + 15) (slots + 1133)) : LGo p l e s m b below meth c D ak ad A o0 m0 x0 i 941 cells slots := by
  obtain ⟨hx, hb, hr, hml, hown, hts, hX, hbl, hlocks, hgv⟩ := id C0
  have hown : s.vm.findClass RL = some m.cls := hown
  have hA : ∀ q : Nat, s.heap.size ≤ q → A q := fun q h => by rw [hAe]; exact h
  have hbA : ¬ A b := by rw [hAe]; exact Nat.not_le.mpr hbl
  intro v LX LM fo H locs ls hI hJ hP hD hS hl
  refine lv_aload_n hx hb dL_law_941 rfl (lv_at hl 3 rfl) ?_
  refine lv_aload_n hx hb dL_law_942 rfl (lv_at hl 4 rfl) ?_
  refine lv_iload hx hb dL_law_943 (lv_at hl 0 rfl) ?_
  refine lv_iconst (v := 1) hx hb dL_law_945 (by decide) ?_
  refine lv_iadd hx hb dL_law_946 ?_
  refine va_sld hx hb hX hbl hbA hS (lk_in (d := 1) hi hk hL (by decide)) dL_law_947 ?_
  refine lv_topi (fun a1 ea1 => ?_)
  refine lv_aload_n hx hb dL_law_948 rfl (lv_at hl 4 rfl) ?_
  refine lv_iload hx hb dL_law_949 (lv_at hl 0 rfl) ?_
  refine lv_iconst (v := 2) hx hb dL_law_951 (by decide) ?_
  refine lv_iadd hx hb dL_law_952 ?_
  refine va_sld hx hb hX hbl hbA hS (lk_in (d := 2) hi hk hL (by decide)) dL_law_953 ?_
  refine lv_topi (fun a2 ea2 => ?_)
  have kj : ∀ b1 : Int32, b1 = (if a2 = 0 then 0 else 1) → W p l e room_1 s m #[Value.ref b] below meth c H locs (cells) (slots) (lw_Z below #[Value.ref b] s) (F0 m 962 ls (.int b1 :: .int a1 :: .ref x0 :: [])) := by
    intro b1 eb1
    obtain ⟨q1, hh1⟩ := hI.head
    have kc : ∀ (r1 : Int32) (LX : va_W) (H : Heap) (locs : List Loc), ((∀ k, k < 4 → a1 = nI k → r1 = f_mark v k b1 ∧ IX ak ad x0 (s_mark v k b1) LX) ∧ ((a1 < 0 ∨ 4 ≤ a1) → r1 = 0 ∧ IX ak ad x0 v LX)) → va_P D vwCl (LM ++ (LX ++ [(o0, .inl (ak 1, 1, .inr (.inl fo)))])) H → va_D A (LM ++ (LX ++ [(o0, .inl (ak 1, 1, .inr (.inl fo)))])) → va_S A s.heap H locs → W p l e room_1 s m #[Value.ref b] below meth c H locs (cells + 0) (slots + 0) (lw_Z below #[Value.ref b] s) (F0 m 965 ls (.int r1 :: [])) := by
      intro r1 LX H locs hMX hP hD hS
      refine lv_pop hx hb dL_law_965 rfl ?_
      refine lv_aload_n hx hb dL_law_966 rfl (lv_at hl 2 rfl) ?_
      refine lv_aload_n hx hb dL_law_967 rfl (lv_at hl 4 rfl) ?_
      refine lv_iload hx hb dL_law_968 (lv_at hl 0 rfl) ?_
      refine lv_iconst (v := 1) hx hb dL_law_970 (by decide) ?_
      refine lv_iadd hx hb dL_law_971 ?_
      refine va_sld hx hb hX hbl hbA hS (lk_in (d := 1) hi hk hL (by decide)) dL_law_972 ?_
      refine W.eq (g2 := F0 m 973 ls (.int a1 :: .ref m0 :: [])) (by rw [ea1]) ?_
      refine lv_aload_n hx hb dL_law_973 rfl (lv_at hl 4 rfl) ?_
      refine lv_iload hx hb dL_law_974 (lv_at hl 0 rfl) ?_
      refine lv_iconst (v := 2) hx hb dL_law_976 (by decide) ?_
      refine lv_iadd hx hb dL_law_977 ?_
      refine va_sld hx hb hX hbl hbA hS (lk_in (d := 2) hi hk hL (by decide)) dL_law_978 ?_
      refine W.eq (g2 := F0 m 979 ls (.int a2 :: .int a1 :: .ref m0 :: [])) (by rw [ea2]) ?_
      have kj : ∀ b2 : Int32, b2 = (if a2 = 0 then 0 else 1) → W p l e room_1 s m #[Value.ref b] below meth c H locs (cells + 0) (slots + 0) (lw_Z below #[Value.ref b] s) (F0 m 987 ls (.int b2 :: .int a1 :: .ref m0 :: [])) := by
        intro b2 eb2
        have e12 : b1 = b2 := eb1.trans eb2.symm
        rw [e12] at hMX
        obtain ⟨q2, hh2⟩ := hJ.head
        refine lc_i (U := []) (C := LM) (V := LX ++ [(o0, .inl (ak 1, 1, .inr (.inl fo)))]) hP hD hS hA (va_runV (As := [.int a1, .int b2]) (rest := []) ⟨hx, hb, hml, hown, hts⟩ (m_mark l D ak ad _ m0 v LM a1 b2 hJ) (cwV 2 hts hG_X8_mark rfl rfl rfl (by decide +kernel) ⟨Nat.le_of_ble_eq_true rfl, Nat.le_of_ble_eq_true rfl⟩) (lc_preV (U := []) (C := LM) (V := LX ++ [(o0, .inl (ak 1, 1, .inr (.inl fo)))]) (As := [.int a1, .int b2]) hE hT hP hD hS hA 0 7 rfl rfl hh2) rfl rfl hl.1 rfl (lv_room (Nat.le_of_ble_eq_true rfl)) dL_law_987 ⟨by omega, by omega⟩) (fun r2 LM H locs hR hP hD hS => ?_)
        have hMM := hR
        have hP : va_P D vwCl (LM ++ (LX ++ [(o0, .inl (ak 1, 1, .inr (.inl fo)))])) H := hP
        have hD : va_D A (LM ++ (LX ++ [(o0, .inl (ak 1, 1, .inr (.inl fo)))])) := hD
        refine lv_pop hx hb dL_law_990 rfl ?_
        refine lv_goto (tgt := 1019) hx hb dL_law_991 (by decide) ?_
        refine W.widen (k := cells + 15) (n := slots + 1133) (by omega) (by omega) ?_
        rcases pk_ix a1 (n := 4) (by decide) with h9 | h9 | ⟨k9, hk9, ek⟩
        · exact kk _ LX LM fo H locs ls (hMX.2 (Or.inl h9)).2 (hMM.2 (Or.inl h9)).2 hP hD hS (lv_sub hl [0, 1, 2, 3, 4] rfl)
        · exact kk _ LX LM fo H locs ls (hMX.2 (Or.inr h9)).2 (hMM.2 (Or.inr h9)).2 hP hD hS (lv_sub hl [0, 1, 2, 3, 4] rfl)
        · exact kk _ LX LM fo H locs ls (hMX.1 k9 hk9 ek).2 (hMM.1 k9 hk9 ek).2 hP hD hS (lv_sub hl [0, 1, 2, 3, 4] rfl)
      refine lv_if_eq (tgt := 986) hx hb dL_law_979 (by decide) (fun c_ => ?_) (fun c_ => ?_)
      · refine lv_iconst (v := 0) hx hb dL_law_986 (by decide) ?_
        exact kj 0 (by rw [if_pos c_])
      · refine lv_iconst (v := 1) hx hb dL_law_982 (by decide) ?_
        refine lv_goto (tgt := 987) hx hb dL_law_983 (by decide) ?_
        exact kj 1 (by rw [if_neg c_])
    rcases pk_ix a1 (n := 4) (by decide) with h9 | h9 | ⟨k9, hk9, ek⟩
    · exact lc_i (U := LM) (C := LX) (V := [(o0, .inl (ak 1, 1, .inr (.inl fo)))]) hP hD hS hA (va_runV (As := [.int a1, .int b1]) (rest := []) ⟨hx, hb, hml, hown, hts⟩ (x_markx l D ak ad _ x0 v LX a1 b1 hI (Or.inl h9)) (cwV 2 hts hG_X7_mark rfl rfl rfl (by decide +kernel) ⟨Nat.le_of_ble_eq_true rfl, Nat.le_of_ble_eq_true rfl⟩) (lc_preV (U := LM) (C := LX) (V := [(o0, .inl (ak 1, 1, .inr (.inl fo)))]) (As := [.int a1, .int b1]) hE hT hP hD hS hA 0 6 rfl rfl hh1) rfl rfl hl.1 rfl (lv_room (Nat.le_of_ble_eq_true rfl)) dL_law_962 ⟨by omega, by omega⟩) (fun r LX H locs hR hP hD hS => kc r LX H locs ⟨fun k hk e => absurd h9 (by rw [e]; exact nI_pos (by omega)), fun _ => hR⟩ hP hD hS)
    · exact lc_i (U := LM) (C := LX) (V := [(o0, .inl (ak 1, 1, .inr (.inl fo)))]) hP hD hS hA (va_runV (As := [.int a1, .int b1]) (rest := []) ⟨hx, hb, hml, hown, hts⟩ (x_markx l D ak ad _ x0 v LX a1 b1 hI (Or.inr h9)) (cwV 2 hts hG_X7_mark rfl rfl rfl (by decide +kernel) ⟨Nat.le_of_ble_eq_true rfl, Nat.le_of_ble_eq_true rfl⟩) (lc_preV (U := LM) (C := LX) (V := [(o0, .inl (ak 1, 1, .inr (.inl fo)))]) (As := [.int a1, .int b1]) hE hT hP hD hS hA 0 6 rfl rfl hh1) rfl rfl hl.1 rfl (lv_room (Nat.le_of_ble_eq_true rfl)) dL_law_962 ⟨by omega, by omega⟩) (fun r LX H locs hR hP hD hS => kc r LX H locs ⟨fun k hk e => absurd h9 (by rw [e]; exact nI_ge hk (by decide)), fun _ => hR⟩ hP hD hS)
    · match k9, hk9, ek with
      | 0, _, ek =>
        refine W.eq (g2 := F0 m 962 ls (.int b1 :: .int (0) :: .ref x0 :: [])) (by rw [ek]; rfl) ?_
        exact lc_i (U := LM) (C := LX) (V := [(o0, .inl (ak 1, 1, .inr (.inl fo)))]) hP hD hS hA (va_runV (As := [.int (0), .int b1]) (rest := []) ⟨hx, hb, hml, hown, hts⟩ (x_mark0 l D ak ad _ x0 v LX b1 hI) (cwV 2 hts hG_X7_mark rfl rfl rfl (by decide +kernel) ⟨Nat.le_of_ble_eq_true rfl, Nat.le_of_ble_eq_true rfl⟩) (lc_preV (U := LM) (C := LX) (V := [(o0, .inl (ak 1, 1, .inr (.inl fo)))]) (As := [.int (0), .int b1]) hE hT hP hD hS hA 0 6 rfl rfl hh1) rfl rfl hl.1 rfl (lv_room (Nat.le_of_ble_eq_true rfl)) dL_law_962 ⟨by omega, by omega⟩) (fun r LX H locs hR hP hD hS => kc r LX H locs ⟨fun k hk e => by
          have e9 : k = 0 := (nI_eq (by omega) (by decide)).mp (e.symm.trans ek)
          subst e9
          exact hR, fun h => absurd h (by rw [ek]; decide)⟩ hP hD hS)
      | 1, _, ek =>
        refine W.eq (g2 := F0 m 962 ls (.int b1 :: .int (1) :: .ref x0 :: [])) (by rw [ek]; rfl) ?_
        exact lc_i (U := LM) (C := LX) (V := [(o0, .inl (ak 1, 1, .inr (.inl fo)))]) hP hD hS hA (va_runV (As := [.int (1), .int b1]) (rest := []) ⟨hx, hb, hml, hown, hts⟩ (x_mark1 l D ak ad _ x0 v LX b1 hI) (cwV 2 hts hG_X7_mark rfl rfl rfl (by decide +kernel) ⟨Nat.le_of_ble_eq_true rfl, Nat.le_of_ble_eq_true rfl⟩) (lc_preV (U := LM) (C := LX) (V := [(o0, .inl (ak 1, 1, .inr (.inl fo)))]) (As := [.int (1), .int b1]) hE hT hP hD hS hA 0 6 rfl rfl hh1) rfl rfl hl.1 rfl (lv_room (Nat.le_of_ble_eq_true rfl)) dL_law_962 ⟨by omega, by omega⟩) (fun r LX H locs hR hP hD hS => kc r LX H locs ⟨fun k hk e => by
          have e9 : k = 1 := (nI_eq (by omega) (by decide)).mp (e.symm.trans ek)
          subst e9
          exact hR, fun h => absurd h (by rw [ek]; decide)⟩ hP hD hS)
      | 2, _, ek =>
        refine W.eq (g2 := F0 m 962 ls (.int b1 :: .int (2) :: .ref x0 :: [])) (by rw [ek]; rfl) ?_
        exact lc_i (U := LM) (C := LX) (V := [(o0, .inl (ak 1, 1, .inr (.inl fo)))]) hP hD hS hA (va_runV (As := [.int (2), .int b1]) (rest := []) ⟨hx, hb, hml, hown, hts⟩ (x_mark2 l D ak ad _ x0 v LX b1 hI) (cwV 2 hts hG_X7_mark rfl rfl rfl (by decide +kernel) ⟨Nat.le_of_ble_eq_true rfl, Nat.le_of_ble_eq_true rfl⟩) (lc_preV (U := LM) (C := LX) (V := [(o0, .inl (ak 1, 1, .inr (.inl fo)))]) (As := [.int (2), .int b1]) hE hT hP hD hS hA 0 6 rfl rfl hh1) rfl rfl hl.1 rfl (lv_room (Nat.le_of_ble_eq_true rfl)) dL_law_962 ⟨by omega, by omega⟩) (fun r LX H locs hR hP hD hS => kc r LX H locs ⟨fun k hk e => by
          have e9 : k = 2 := (nI_eq (by omega) (by decide)).mp (e.symm.trans ek)
          subst e9
          exact hR, fun h => absurd h (by rw [ek]; decide)⟩ hP hD hS)
      | 3, _, ek =>
        refine W.eq (g2 := F0 m 962 ls (.int b1 :: .int (3) :: .ref x0 :: [])) (by rw [ek]; rfl) ?_
        exact lc_i (U := LM) (C := LX) (V := [(o0, .inl (ak 1, 1, .inr (.inl fo)))]) hP hD hS hA (va_runV (As := [.int (3), .int b1]) (rest := []) ⟨hx, hb, hml, hown, hts⟩ (x_mark3 l D ak ad _ x0 v LX b1 hI) (cwV 2 hts hG_X7_mark rfl rfl rfl (by decide +kernel) ⟨Nat.le_of_ble_eq_true rfl, Nat.le_of_ble_eq_true rfl⟩) (lc_preV (U := LM) (C := LX) (V := [(o0, .inl (ak 1, 1, .inr (.inl fo)))]) (As := [.int (3), .int b1]) hE hT hP hD hS hA 0 6 rfl rfl hh1) rfl rfl hl.1 rfl (lv_room (Nat.le_of_ble_eq_true rfl)) dL_law_962 ⟨by omega, by omega⟩) (fun r LX H locs hR hP hD hS => kc r LX H locs ⟨fun k hk e => by
          have e9 : k = 3 := (nI_eq (by omega) (by decide)).mp (e.symm.trans ek)
          subst e9
          exact hR, fun h => absurd h (by rw [ek]; decide)⟩ hP hD hS)
  refine lv_if_eq (tgt := 961) hx hb dL_law_954 (by decide) (fun c_ => ?_) (fun c_ => ?_)
  · refine lv_iconst (v := 0) hx hb dL_law_961 (by decide) ?_
    exact kj 0 (by rw [if_pos c_])
  · refine lv_iconst (v := 1) hx hb dL_law_957 (by decide) ?_
    refine lv_goto (tgt := 962) hx hb dL_law_958 (by decide) ?_
    exact kj 1 (by rw [if_neg c_])
