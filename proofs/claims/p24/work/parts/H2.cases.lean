section
theorem dL_law_916 : decode cL_law 916 = .ok (.aload_n 1, 1) := by decide +kernel
theorem dL_law_917 : decode cL_law 917 = .ok (.aload_n 0, 1) := by decide +kernel
theorem dL_law_918 : decode cL_law 918 = .ok (.iload 4, 2) := by decide +kernel
theorem dL_law_920 : decode cL_law 920 = .ok (.iconst 1, 1) := by decide +kernel
theorem dL_law_921 : decode cL_law 921 = .ok (.iadd, 1) := by decide +kernel
theorem dL_law_922 : decode cL_law 922 = .ok (.iaload, 1) := by decide +kernel
theorem dL_law_926 : decode cL_law 926 = .ok (.pop, 1) := by decide +kernel
theorem dL_law_927 : decode cL_law 927 = .ok (.aload_n 2, 1) := by decide +kernel
theorem dL_law_928 : decode cL_law 928 = .ok (.aload_n 0, 1) := by decide +kernel
theorem dL_law_929 : decode cL_law 929 = .ok (.iload 4, 2) := by decide +kernel
theorem dL_law_931 : decode cL_law 931 = .ok (.iconst 1, 1) := by decide +kernel
theorem dL_law_932 : decode cL_law 932 = .ok (.iadd, 1) := by decide +kernel
theorem dL_law_933 : decode cL_law 933 = .ok (.iaload, 1) := by decide +kernel
theorem dL_law_934 : decode cL_law 934 = .ok (.invokevirtual 131, 3) := by decide +kernel
theorem dL_law_937 : decode cL_law 937 = .ok (.pop, 1) := by decide +kernel
theorem dL_law_938 : decode cL_law 938 = .ok (.goto 81, 3) := by decide +kernel
theorem dL_law_923 : decode cL_law 923 = .ok (.invokevirtual 128, 3) := by decide +kernel
theorem dL_law_941 : decode cL_law 941 = .ok (.aload_n 1, 1) := by decide +kernel
theorem dL_law_942 : decode cL_law 942 = .ok (.aload_n 0, 1) := by decide +kernel
theorem dL_law_943 : decode cL_law 943 = .ok (.iload 4, 2) := by decide +kernel
theorem dL_law_945 : decode cL_law 945 = .ok (.iconst 1, 1) := by decide +kernel
theorem dL_law_946 : decode cL_law 946 = .ok (.iadd, 1) := by decide +kernel
theorem dL_law_947 : decode cL_law 947 = .ok (.iaload, 1) := by decide +kernel
theorem dL_law_948 : decode cL_law 948 = .ok (.aload_n 0, 1) := by decide +kernel
theorem dL_law_949 : decode cL_law 949 = .ok (.iload 4, 2) := by decide +kernel
theorem dL_law_951 : decode cL_law 951 = .ok (.iconst 2, 1) := by decide +kernel
theorem dL_law_952 : decode cL_law 952 = .ok (.iadd, 1) := by decide +kernel
theorem dL_law_953 : decode cL_law 953 = .ok (.iaload, 1) := by decide +kernel
theorem dL_law_965 : decode cL_law 965 = .ok (.pop, 1) := by decide +kernel
theorem dL_law_966 : decode cL_law 966 = .ok (.aload_n 2, 1) := by decide +kernel
theorem dL_law_967 : decode cL_law 967 = .ok (.aload_n 0, 1) := by decide +kernel
theorem dL_law_968 : decode cL_law 968 = .ok (.iload 4, 2) := by decide +kernel
theorem dL_law_970 : decode cL_law 970 = .ok (.iconst 1, 1) := by decide +kernel
theorem dL_law_971 : decode cL_law 971 = .ok (.iadd, 1) := by decide +kernel
theorem dL_law_972 : decode cL_law 972 = .ok (.iaload, 1) := by decide +kernel
theorem dL_law_973 : decode cL_law 973 = .ok (.aload_n 0, 1) := by decide +kernel
theorem dL_law_974 : decode cL_law 974 = .ok (.iload 4, 2) := by decide +kernel
theorem dL_law_976 : decode cL_law 976 = .ok (.iconst 2, 1) := by decide +kernel
theorem dL_law_977 : decode cL_law 977 = .ok (.iadd, 1) := by decide +kernel
theorem dL_law_978 : decode cL_law 978 = .ok (.iaload, 1) := by decide +kernel
theorem dL_law_987 : decode cL_law 987 = .ok (.invokevirtual 136, 3) := by decide +kernel
theorem dL_law_990 : decode cL_law 990 = .ok (.pop, 1) := by decide +kernel
theorem dL_law_991 : decode cL_law 991 = .ok (.goto 28, 3) := by decide +kernel
theorem dL_law_979 : decode cL_law 979 = .ok (.ifCond .eq 7, 3) := by decide +kernel
theorem dL_law_986 : decode cL_law 986 = .ok (.iconst 0, 1) := by decide +kernel
theorem dL_law_982 : decode cL_law 982 = .ok (.iconst 1, 1) := by decide +kernel
theorem dL_law_983 : decode cL_law 983 = .ok (.goto 4, 3) := by decide +kernel
theorem dL_law_962 : decode cL_law 962 = .ok (.invokevirtual 132, 3) := by decide +kernel
theorem dL_law_954 : decode cL_law 954 = .ok (.ifCond .eq 7, 3) := by decide +kernel
theorem dL_law_961 : decode cL_law 961 = .ok (.iconst 0, 1) := by decide +kernel
theorem dL_law_957 : decode cL_law 957 = .ok (.iconst 1, 1) := by decide +kernel
theorem dL_law_958 : decode cL_law 958 = .ok (.goto 4, 3) := by decide +kernel
set_option maxHeartbeats 4000000 in
set_option maxRecDepth 100000 in
theorem lk_24 {p : Program} {e : Env} {s : State} {m : MethodId} {below : List Frame} {meth : Method} {c : Code} (l : Launch) {b L : Nat} {xs : Nat → Int32} (C0 : lw_At p s m meth c b L xs) {A : Nat → Prop} (hAe : A = fun q => s.heap.size ≤ q) {D : va_G} {ak : Nat → ClassId} {ad : Nat → Nat} (hl0 : l.stackTraces = false) (hE : EV D ak s) (hT : ST D ak ad A s s.heap) (hXE : XE A s s.heap) {o0 m0 x0 : Nat} {i : Int32} {k cells slots : Nat} (hi : i = nI k) (hk : k + 7 ≤ L) (hL : L ≤ 3584) (hc : cells + 15 ≤ room_1.cells) (hs : slots + 1133 ≤ room_1.slots) (kk : LGo p l e s m b below meth c D ak ad A o0 m0 x0 i 1019 (cells + 15) (slots + 1133)) : LGo p l e s m b below meth c D ak ad A o0 m0 x0 i 916 cells slots := by
  obtain ⟨hx, hb, hr, hml, hown, hts, hX, hbl, hlocks, hgv⟩ := id C0
  have hown : s.vm.findClass RL = some m.cls := hown
  have hA : ∀ q : Nat, s.heap.size ≤ q → A q := fun q h => by rw [hAe]; exact h
  have hbA : ¬ A b := by rw [hAe]; exact Nat.not_le.mpr hbl
  intro v LX LM fo H locs ls hI hJ hP hD hS hl
  refine lv_aload_n hx hb dL_law_916 rfl (lv_at hl 3 rfl) ?_
  refine lv_aload_n hx hb dL_law_917 rfl (lv_at hl 4 rfl) ?_
  refine lv_iload hx hb dL_law_918 (lv_at hl 0 rfl) ?_
  refine lv_iconst (v := 1) hx hb dL_law_920 (by decide) ?_
  refine lv_iadd hx hb dL_law_921 ?_
  refine va_sld hx hb hX hbl hbA hS (lk_in (d := 1) hi hk hL (by decide)) dL_law_922 ?_
  refine lv_topi (fun a1 ea1 => ?_)
  obtain ⟨q1, hh1⟩ := hI.head
  have kc : ∀ (r1 : Int32) (LX : va_W) (H : Heap) (locs : List Loc), r1 = f_same v a1 ∧ IX ak ad x0 v LX → va_P D vwCl (LM ++ (LX ++ [(o0, .inl (ak 1, 1, .inr (.inl fo)))])) H → va_D A (LM ++ (LX ++ [(o0, .inl (ak 1, 1, .inr (.inl fo)))])) → va_S A s.heap H locs → W p l e room_1 s m #[Value.ref b] below meth c H locs (cells + 0) (slots + 0) (lw_Z below #[Value.ref b] s) (F0 m 926 ls (.int r1 :: [])) := by
    intro r1 LX H locs hR hP hD hS
    obtain ⟨er1, hI⟩ := hR
    refine lv_pop hx hb dL_law_926 rfl ?_
    refine lv_aload_n hx hb dL_law_927 rfl (lv_at hl 2 rfl) ?_
    refine lv_aload_n hx hb dL_law_928 rfl (lv_at hl 4 rfl) ?_
    refine lv_iload hx hb dL_law_929 (lv_at hl 0 rfl) ?_
    refine lv_iconst (v := 1) hx hb dL_law_931 (by decide) ?_
    refine lv_iadd hx hb dL_law_932 ?_
    refine va_sld hx hb hX hbl hbA hS (lk_in (d := 1) hi hk hL (by decide)) dL_law_933 ?_
    refine W.eq (g2 := F0 m 934 ls (.int a1 :: .ref m0 :: [])) (by rw [ea1]) ?_
    obtain ⟨q2, hh2⟩ := hJ.head
    refine lc_i (U := []) (C := LM) (V := LX ++ [(o0, .inl (ak 1, 1, .inr (.inl fo)))]) hP hD hS hA (va_runV (As := [.int a1]) (rest := []) ⟨hx, hb, hml, hown, hts⟩ (m_same l D ak ad _ m0 v LM a1 hJ) (cwV 1 hts hG_X8_same rfl rfl rfl hv_X8_same ⟨Nat.le_of_ble_eq_true rfl, Nat.le_of_ble_eq_true rfl⟩) (lc_preV (U := []) (C := LM) (V := LX ++ [(o0, .inl (ak 1, 1, .inr (.inl fo)))]) (As := [.int a1]) hE hT hP hD hS hA 0 7 rfl rfl hh2) rfl rfl hl.1 rfl (lv_room (Nat.le_of_ble_eq_true rfl)) dL_law_934 ⟨by omega, by omega⟩) (fun r2 LM H locs hR hP hD hS => ?_)
    obtain ⟨er2, hJ⟩ := hR
    have hP : va_P D vwCl (LM ++ (LX ++ [(o0, .inl (ak 1, 1, .inr (.inl fo)))])) H := hP
    have hD : va_D A (LM ++ (LX ++ [(o0, .inl (ak 1, 1, .inr (.inl fo)))])) := hD
    refine lv_pop hx hb dL_law_937 rfl ?_
    refine lv_goto (tgt := 1019) hx hb dL_law_938 (by decide) ?_
    refine W.widen (k := cells + 15) (n := slots + 1133) (by omega) (by omega) ?_
    exact kk _ LX LM fo H locs ls hI hJ hP hD hS (lv_sub hl [0, 1, 2, 3, 4] rfl)
  rcases pk_ix a1 (n := 4) (by decide) with h9 | h9 | ⟨k9, hk9, ek⟩
  · exact lc_i (U := LM) (C := LX) (V := [(o0, .inl (ak 1, 1, .inr (.inl fo)))]) hP hD hS hA (va_runV (As := [.int a1]) (rest := []) ⟨hx, hb, hml, hown, hts⟩ (x_samex l D ak ad _ x0 v LX a1 hI (Or.inl h9)) (cwV 1 hts hG_X7_same rfl rfl rfl hv_X7_same ⟨Nat.le_of_ble_eq_true rfl, Nat.le_of_ble_eq_true rfl⟩) (lc_preV (U := LM) (C := LX) (V := [(o0, .inl (ak 1, 1, .inr (.inl fo)))]) (As := [.int a1]) hE hT hP hD hS hA 0 6 rfl rfl hh1) rfl rfl hl.1 rfl (lv_room (Nat.le_of_ble_eq_true rfl)) dL_law_923 ⟨by omega, by omega⟩) kc
  · exact lc_i (U := LM) (C := LX) (V := [(o0, .inl (ak 1, 1, .inr (.inl fo)))]) hP hD hS hA (va_runV (As := [.int a1]) (rest := []) ⟨hx, hb, hml, hown, hts⟩ (x_samex l D ak ad _ x0 v LX a1 hI (Or.inr h9)) (cwV 1 hts hG_X7_same rfl rfl rfl hv_X7_same ⟨Nat.le_of_ble_eq_true rfl, Nat.le_of_ble_eq_true rfl⟩) (lc_preV (U := LM) (C := LX) (V := [(o0, .inl (ak 1, 1, .inr (.inl fo)))]) (As := [.int a1]) hE hT hP hD hS hA 0 6 rfl rfl hh1) rfl rfl hl.1 rfl (lv_room (Nat.le_of_ble_eq_true rfl)) dL_law_923 ⟨by omega, by omega⟩) kc
  · match k9, hk9, ek with
    | 0, _, ek =>
      refine W.eq (g2 := F0 m 923 ls (.int (0) :: .ref x0 :: [])) (by rw [ek]; rfl) ?_
      exact lc_i (U := LM) (C := LX) (V := [(o0, .inl (ak 1, 1, .inr (.inl fo)))]) hP hD hS hA (va_runV (As := [.int (0)]) (rest := []) ⟨hx, hb, hml, hown, hts⟩ (x_same0 l D ak ad _ x0 v LX  hI) (cwV 1 hts hG_X7_same rfl rfl rfl hv_X7_same ⟨Nat.le_of_ble_eq_true rfl, Nat.le_of_ble_eq_true rfl⟩) (lc_preV (U := LM) (C := LX) (V := [(o0, .inl (ak 1, 1, .inr (.inl fo)))]) (As := [.int (0)]) hE hT hP hD hS hA 0 6 rfl rfl hh1) rfl rfl hl.1 rfl (lv_room (Nat.le_of_ble_eq_true rfl)) dL_law_923 ⟨by omega, by omega⟩) (fun r LX H locs hR hP hD hS => kc r LX H locs ⟨by rw [ek]; exact hR.1, hR.2⟩ hP hD hS)
    | 1, _, ek =>
      refine W.eq (g2 := F0 m 923 ls (.int (1) :: .ref x0 :: [])) (by rw [ek]; rfl) ?_
      exact lc_i (U := LM) (C := LX) (V := [(o0, .inl (ak 1, 1, .inr (.inl fo)))]) hP hD hS hA (va_runV (As := [.int (1)]) (rest := []) ⟨hx, hb, hml, hown, hts⟩ (x_same1 l D ak ad _ x0 v LX  hI) (cwV 1 hts hG_X7_same rfl rfl rfl hv_X7_same ⟨Nat.le_of_ble_eq_true rfl, Nat.le_of_ble_eq_true rfl⟩) (lc_preV (U := LM) (C := LX) (V := [(o0, .inl (ak 1, 1, .inr (.inl fo)))]) (As := [.int (1)]) hE hT hP hD hS hA 0 6 rfl rfl hh1) rfl rfl hl.1 rfl (lv_room (Nat.le_of_ble_eq_true rfl)) dL_law_923 ⟨by omega, by omega⟩) (fun r LX H locs hR hP hD hS => kc r LX H locs ⟨by rw [ek]; exact hR.1, hR.2⟩ hP hD hS)
    | 2, _, ek =>
      refine W.eq (g2 := F0 m 923 ls (.int (2) :: .ref x0 :: [])) (by rw [ek]; rfl) ?_
      exact lc_i (U := LM) (C := LX) (V := [(o0, .inl (ak 1, 1, .inr (.inl fo)))]) hP hD hS hA (va_runV (As := [.int (2)]) (rest := []) ⟨hx, hb, hml, hown, hts⟩ (x_same2 l D ak ad _ x0 v LX  hI) (cwV 1 hts hG_X7_same rfl rfl rfl hv_X7_same ⟨Nat.le_of_ble_eq_true rfl, Nat.le_of_ble_eq_true rfl⟩) (lc_preV (U := LM) (C := LX) (V := [(o0, .inl (ak 1, 1, .inr (.inl fo)))]) (As := [.int (2)]) hE hT hP hD hS hA 0 6 rfl rfl hh1) rfl rfl hl.1 rfl (lv_room (Nat.le_of_ble_eq_true rfl)) dL_law_923 ⟨by omega, by omega⟩) (fun r LX H locs hR hP hD hS => kc r LX H locs ⟨by rw [ek]; exact hR.1, hR.2⟩ hP hD hS)
    | 3, _, ek =>
      refine W.eq (g2 := F0 m 923 ls (.int (3) :: .ref x0 :: [])) (by rw [ek]; rfl) ?_
      exact lc_i (U := LM) (C := LX) (V := [(o0, .inl (ak 1, 1, .inr (.inl fo)))]) hP hD hS hA (va_runV (As := [.int (3)]) (rest := []) ⟨hx, hb, hml, hown, hts⟩ (x_same3 l D ak ad _ x0 v LX  hI) (cwV 1 hts hG_X7_same rfl rfl rfl hv_X7_same ⟨Nat.le_of_ble_eq_true rfl, Nat.le_of_ble_eq_true rfl⟩) (lc_preV (U := LM) (C := LX) (V := [(o0, .inl (ak 1, 1, .inr (.inl fo)))]) (As := [.int (3)]) hE hT hP hD hS hA 0 6 rfl rfl hh1) rfl rfl hl.1 rfl (lv_room (Nat.le_of_ble_eq_true rfl)) dL_law_923 ⟨by omega, by omega⟩) (fun r LX H locs hR hP hD hS => kc r LX H locs ⟨by rw [ek]; exact hR.1, hR.2⟩ hP hD hS)
set_option maxHeartbeats 4000000 in
set_option maxRecDepth 100000 in
theorem lk_25 {p : Program} {e : Env} {s : State} {m : MethodId} {below : List Frame} {meth : Method} {c : Code} (l : Launch) {b L : Nat} {xs : Nat → Int32} (C0 : lw_At p s m meth c b L xs) {A : Nat → Prop} (hAe : A = fun q => s.heap.size ≤ q) {D : va_G} {ak : Nat → ClassId} {ad : Nat → Nat} (hl0 : l.stackTraces = false) (hE : EV D ak s) (hT : ST D ak ad A s s.heap) (hXE : XE A s s.heap) {o0 m0 x0 : Nat} {i : Int32} {k cells slots : Nat} (hi : i = nI k) (hk : k + 7 ≤ L) (hL : L ≤ 3584) (hc : cells + 15 ≤ room_1.cells) (hs : slots + 1133 ≤ room_1.slots) (kk : LGo p l e s m b below meth c D ak ad A o0 m0 x0 i 1019 (cells + 15) (slots + 1133)) : LGo p l e s m b below meth c D ak ad A o0 m0 x0 i 941 cells slots := by
  obtain ⟨hx, hb, hr, hml, hown, hts, hX, hbl, hlocks, hgv⟩ := id C0
  have hown : s.vm.findClass RL = some m.cls := hown
  have hA : ∀ q : Nat, s.heap.size ≤ q → A q := fun q h => by rw [hAe]; exact h
  have hbA : ¬ A b := by rw [hAe]; exact Nat.not_le.mpr hbl
  intro v LX LM fo H locs ls hI hJ hP hD hS hl
  refine lv_aload_n hx hb dL_law_941 rfl (lv_at hl 3 rfl) ?_
  refine lv_aload_n hx hb dL_law_942 rfl (lv_at hl 4 rfl) ?_
  refine lv_iload hx hb dL_law_943 (lv_at hl 0 rfl) ?_
  refine lv_iconst (v := 1) hx hb dL_law_945 (by decide) ?_
  refine lv_iadd hx hb dL_law_946 ?_
  refine va_sld hx hb hX hbl hbA hS (lk_in (d := 1) hi hk hL (by decide)) dL_law_947 ?_
  refine lv_topi (fun a1 ea1 => ?_)
  refine lv_aload_n hx hb dL_law_948 rfl (lv_at hl 4 rfl) ?_
  refine lv_iload hx hb dL_law_949 (lv_at hl 0 rfl) ?_
  refine lv_iconst (v := 2) hx hb dL_law_951 (by decide) ?_
  refine lv_iadd hx hb dL_law_952 ?_
  refine va_sld hx hb hX hbl hbA hS (lk_in (d := 2) hi hk hL (by decide)) dL_law_953 ?_
  refine lv_topi (fun a2 ea2 => ?_)
  have kj : ∀ b1 : Int32, b1 = (if a2 = 0 then 0 else 1) → W p l e room_1 s m #[Value.ref b] below meth c H locs (cells) (slots) (lw_Z below #[Value.ref b] s) (F0 m 962 ls (.int b1 :: .int a1 :: .ref x0 :: [])) := by
    intro b1 eb1
    obtain ⟨q1, hh1⟩ := hI.head
    have kc : ∀ (r1 : Int32) (LX : va_W) (H : Heap) (locs : List Loc), ((∀ k, k < 4 → a1 = nI k → r1 = f_mark v k b1 ∧ IX ak ad x0 (s_mark v k b1) LX) ∧ ((a1 < 0 ∨ 4 ≤ a1) → r1 = 0 ∧ IX ak ad x0 v LX)) → va_P D vwCl (LM ++ (LX ++ [(o0, .inl (ak 1, 1, .inr (.inl fo)))])) H → va_D A (LM ++ (LX ++ [(o0, .inl (ak 1, 1, .inr (.inl fo)))])) → va_S A s.heap H locs → W p l e room_1 s m #[Value.ref b] below meth c H locs (cells + 0) (slots + 0) (lw_Z below #[Value.ref b] s) (F0 m 965 ls (.int r1 :: [])) := by
      intro r1 LX H locs hMX hP hD hS
      refine lv_pop hx hb dL_law_965 rfl ?_
      refine lv_aload_n hx hb dL_law_966 rfl (lv_at hl 2 rfl) ?_
      refine lv_aload_n hx hb dL_law_967 rfl (lv_at hl 4 rfl) ?_
      refine lv_iload hx hb dL_law_968 (lv_at hl 0 rfl) ?_
      refine lv_iconst (v := 1) hx hb dL_law_970 (by decide) ?_
      refine lv_iadd hx hb dL_law_971 ?_
      refine va_sld hx hb hX hbl hbA hS (lk_in (d := 1) hi hk hL (by decide)) dL_law_972 ?_
      refine W.eq (g2 := F0 m 973 ls (.int a1 :: .ref m0 :: [])) (by rw [ea1]) ?_
      refine lv_aload_n hx hb dL_law_973 rfl (lv_at hl 4 rfl) ?_
      refine lv_iload hx hb dL_law_974 (lv_at hl 0 rfl) ?_
      refine lv_iconst (v := 2) hx hb dL_law_976 (by decide) ?_
      refine lv_iadd hx hb dL_law_977 ?_
      refine va_sld hx hb hX hbl hbA hS (lk_in (d := 2) hi hk hL (by decide)) dL_law_978 ?_
      refine W.eq (g2 := F0 m 979 ls (.int a2 :: .int a1 :: .ref m0 :: [])) (by rw [ea2]) ?_
      have kj : ∀ b2 : Int32, b2 = (if a2 = 0 then 0 else 1) → W p l e room_1 s m #[Value.ref b] below meth c H locs (cells + 0) (slots + 0) (lw_Z below #[Value.ref b] s) (F0 m 987 ls (.int b2 :: .int a1 :: .ref m0 :: [])) := by
        intro b2 eb2
        have e12 : b1 = b2 := eb1.trans eb2.symm
        rw [e12] at hMX
        obtain ⟨q2, hh2⟩ := hJ.head
        refine lc_i (U := []) (C := LM) (V := LX ++ [(o0, .inl (ak 1, 1, .inr (.inl fo)))]) hP hD hS hA (va_runV (As := [.int a1, .int b2]) (rest := []) ⟨hx, hb, hml, hown, hts⟩ (m_mark l D ak ad _ m0 v LM a1 b2 hJ) (cwV 2 hts hG_X8_mark rfl rfl rfl hv_X8_mark ⟨Nat.le_of_ble_eq_true rfl, Nat.le_of_ble_eq_true rfl⟩) (lc_preV (U := []) (C := LM) (V := LX ++ [(o0, .inl (ak 1, 1, .inr (.inl fo)))]) (As := [.int a1, .int b2]) hE hT hP hD hS hA 0 7 rfl rfl hh2) rfl rfl hl.1 rfl (lv_room (Nat.le_of_ble_eq_true rfl)) dL_law_987 ⟨by omega, by omega⟩) (fun r2 LM H locs hR hP hD hS => ?_)
        have hMM := hR
        have hP : va_P D vwCl (LM ++ (LX ++ [(o0, .inl (ak 1, 1, .inr (.inl fo)))])) H := hP
        have hD : va_D A (LM ++ (LX ++ [(o0, .inl (ak 1, 1, .inr (.inl fo)))])) := hD
        refine lv_pop hx hb dL_law_990 rfl ?_
        refine lv_goto (tgt := 1019) hx hb dL_law_991 (by decide) ?_
        refine W.widen (k := cells + 15) (n := slots + 1133) (by omega) (by omega) ?_
        rcases pk_ix a1 (n := 4) (by decide) with h9 | h9 | ⟨k9, hk9, ek⟩
        · exact kk _ LX LM fo H locs ls (hMX.2 (Or.inl h9)).2 (hMM.2 (Or.inl h9)).2 hP hD hS (lv_sub hl [0, 1, 2, 3, 4] rfl)
        · exact kk _ LX LM fo H locs ls (hMX.2 (Or.inr h9)).2 (hMM.2 (Or.inr h9)).2 hP hD hS (lv_sub hl [0, 1, 2, 3, 4] rfl)
        · exact kk _ LX LM fo H locs ls (hMX.1 k9 hk9 ek).2 (hMM.1 k9 hk9 ek).2 hP hD hS (lv_sub hl [0, 1, 2, 3, 4] rfl)
      refine lv_if_eq (tgt := 986) hx hb dL_law_979 (by decide) (fun c_ => ?_) (fun c_ => ?_)
      · refine lv_iconst (v := 0) hx hb dL_law_986 (by decide) ?_
        exact kj 0 (by rw [if_pos c_])
      · refine lv_iconst (v := 1) hx hb dL_law_982 (by decide) ?_
        refine lv_goto (tgt := 987) hx hb dL_law_983 (by decide) ?_
        exact kj 1 (by rw [if_neg c_])
    rcases pk_ix a1 (n := 4) (by decide) with h9 | h9 | ⟨k9, hk9, ek⟩
    · exact lc_i (U := LM) (C := LX) (V := [(o0, .inl (ak 1, 1, .inr (.inl fo)))]) hP hD hS hA (va_runV (As := [.int a1, .int b1]) (rest := []) ⟨hx, hb, hml, hown, hts⟩ (x_markx l D ak ad _ x0 v LX a1 b1 hI (Or.inl h9)) (cwV 2 hts hG_X7_mark rfl rfl rfl hv_X7_mark ⟨Nat.le_of_ble_eq_true rfl, Nat.le_of_ble_eq_true rfl⟩) (lc_preV (U := LM) (C := LX) (V := [(o0, .inl (ak 1, 1, .inr (.inl fo)))]) (As := [.int a1, .int b1]) hE hT hP hD hS hA 0 6 rfl rfl hh1) rfl rfl hl.1 rfl (lv_room (Nat.le_of_ble_eq_true rfl)) dL_law_962 ⟨by omega, by omega⟩) (fun r LX H locs hR hP hD hS => kc r LX H locs ⟨fun k hk e => absurd h9 (by rw [e]; exact nI_pos (by omega)), fun _ => hR⟩ hP hD hS)
    · exact lc_i (U := LM) (C := LX) (V := [(o0, .inl (ak 1, 1, .inr (.inl fo)))]) hP hD hS hA (va_runV (As := [.int a1, .int b1]) (rest := []) ⟨hx, hb, hml, hown, hts⟩ (x_markx l D ak ad _ x0 v LX a1 b1 hI (Or.inr h9)) (cwV 2 hts hG_X7_mark rfl rfl rfl hv_X7_mark ⟨Nat.le_of_ble_eq_true rfl, Nat.le_of_ble_eq_true rfl⟩) (lc_preV (U := LM) (C := LX) (V := [(o0, .inl (ak 1, 1, .inr (.inl fo)))]) (As := [.int a1, .int b1]) hE hT hP hD hS hA 0 6 rfl rfl hh1) rfl rfl hl.1 rfl (lv_room (Nat.le_of_ble_eq_true rfl)) dL_law_962 ⟨by omega, by omega⟩) (fun r LX H locs hR hP hD hS => kc r LX H locs ⟨fun k hk e => absurd h9 (by rw [e]; exact nI_ge hk (by decide)), fun _ => hR⟩ hP hD hS)
    · match k9, hk9, ek with
      | 0, _, ek =>
        refine W.eq (g2 := F0 m 962 ls (.int b1 :: .int (0) :: .ref x0 :: [])) (by rw [ek]; rfl) ?_
        exact lc_i (U := LM) (C := LX) (V := [(o0, .inl (ak 1, 1, .inr (.inl fo)))]) hP hD hS hA (va_runV (As := [.int (0), .int b1]) (rest := []) ⟨hx, hb, hml, hown, hts⟩ (x_mark0 l D ak ad _ x0 v LX b1 hI) (cwV 2 hts hG_X7_mark rfl rfl rfl hv_X7_mark ⟨Nat.le_of_ble_eq_true rfl, Nat.le_of_ble_eq_true rfl⟩) (lc_preV (U := LM) (C := LX) (V := [(o0, .inl (ak 1, 1, .inr (.inl fo)))]) (As := [.int (0), .int b1]) hE hT hP hD hS hA 0 6 rfl rfl hh1) rfl rfl hl.1 rfl (lv_room (Nat.le_of_ble_eq_true rfl)) dL_law_962 ⟨by omega, by omega⟩) (fun r LX H locs hR hP hD hS => kc r LX H locs ⟨fun k hk e => by
          have e9 : k = 0 := (nI_eq (by omega) (by decide)).mp (e.symm.trans ek)
          subst e9
          exact hR, fun h => absurd h (by rw [ek]; decide)⟩ hP hD hS)
      | 1, _, ek =>
        refine W.eq (g2 := F0 m 962 ls (.int b1 :: .int (1) :: .ref x0 :: [])) (by rw [ek]; rfl) ?_
        exact lc_i (U := LM) (C := LX) (V := [(o0, .inl (ak 1, 1, .inr (.inl fo)))]) hP hD hS hA (va_runV (As := [.int (1), .int b1]) (rest := []) ⟨hx, hb, hml, hown, hts⟩ (x_mark1 l D ak ad _ x0 v LX b1 hI) (cwV 2 hts hG_X7_mark rfl rfl rfl hv_X7_mark ⟨Nat.le_of_ble_eq_true rfl, Nat.le_of_ble_eq_true rfl⟩) (lc_preV (U := LM) (C := LX) (V := [(o0, .inl (ak 1, 1, .inr (.inl fo)))]) (As := [.int (1), .int b1]) hE hT hP hD hS hA 0 6 rfl rfl hh1) rfl rfl hl.1 rfl (lv_room (Nat.le_of_ble_eq_true rfl)) dL_law_962 ⟨by omega, by omega⟩) (fun r LX H locs hR hP hD hS => kc r LX H locs ⟨fun k hk e => by
          have e9 : k = 1 := (nI_eq (by omega) (by decide)).mp (e.symm.trans ek)
          subst e9
          exact hR, fun h => absurd h (by rw [ek]; decide)⟩ hP hD hS)
      | 2, _, ek =>
        refine W.eq (g2 := F0 m 962 ls (.int b1 :: .int (2) :: .ref x0 :: [])) (by rw [ek]; rfl) ?_
        exact lc_i (U := LM) (C := LX) (V := [(o0, .inl (ak 1, 1, .inr (.inl fo)))]) hP hD hS hA (va_runV (As := [.int (2), .int b1]) (rest := []) ⟨hx, hb, hml, hown, hts⟩ (x_mark2 l D ak ad _ x0 v LX b1 hI) (cwV 2 hts hG_X7_mark rfl rfl rfl hv_X7_mark ⟨Nat.le_of_ble_eq_true rfl, Nat.le_of_ble_eq_true rfl⟩) (lc_preV (U := LM) (C := LX) (V := [(o0, .inl (ak 1, 1, .inr (.inl fo)))]) (As := [.int (2), .int b1]) hE hT hP hD hS hA 0 6 rfl rfl hh1) rfl rfl hl.1 rfl (lv_room (Nat.le_of_ble_eq_true rfl)) dL_law_962 ⟨by omega, by omega⟩) (fun r LX H locs hR hP hD hS => kc r LX H locs ⟨fun k hk e => by
          have e9 : k = 2 := (nI_eq (by omega) (by decide)).mp (e.symm.trans ek)
          subst e9
          exact hR, fun h => absurd h (by rw [ek]; decide)⟩ hP hD hS)
      | 3, _, ek =>
        refine W.eq (g2 := F0 m 962 ls (.int b1 :: .int (3) :: .ref x0 :: [])) (by rw [ek]; rfl) ?_
        exact lc_i (U := LM) (C := LX) (V := [(o0, .inl (ak 1, 1, .inr (.inl fo)))]) hP hD hS hA (va_runV (As := [.int (3), .int b1]) (rest := []) ⟨hx, hb, hml, hown, hts⟩ (x_mark3 l D ak ad _ x0 v LX b1 hI) (cwV 2 hts hG_X7_mark rfl rfl rfl hv_X7_mark ⟨Nat.le_of_ble_eq_true rfl, Nat.le_of_ble_eq_true rfl⟩) (lc_preV (U := LM) (C := LX) (V := [(o0, .inl (ak 1, 1, .inr (.inl fo)))]) (As := [.int (3), .int b1]) hE hT hP hD hS hA 0 6 rfl rfl hh1) rfl rfl hl.1 rfl (lv_room (Nat.le_of_ble_eq_true rfl)) dL_law_962 ⟨by omega, by omega⟩) (fun r LX H locs hR hP hD hS => kc r LX H locs ⟨fun k hk e => by
          have e9 : k = 3 := (nI_eq (by omega) (by decide)).mp (e.symm.trans ek)
          subst e9
          exact hR, fun h => absurd h (by rw [ek]; decide)⟩ hP hD hS)
  refine lv_if_eq (tgt := 961) hx hb dL_law_954 (by decide) (fun c_ => ?_) (fun c_ => ?_)
  · refine lv_iconst (v := 0) hx hb dL_law_961 (by decide) ?_
    exact kj 0 (by rw [if_pos c_])
  · refine lv_iconst (v := 1) hx hb dL_law_957 (by decide) ?_
    refine lv_goto (tgt := 962) hx hb dL_law_958 (by decide) ?_
    exact kj 1 (by rw [if_neg c_])
end
section
theorem dL_law_1019 : decode cL_law 1019 = .ok (.iinc 4 7, 3) := by decide +kernel
theorem dL_law_1022 : decode cL_law 1022 = .ok (.goto (-999), 3) := by decide +kernel
theorem dL_law_23 : decode cL_law 23 = .ok (.iload 4, 2) := by decide +kernel
theorem dL_law_25 : decode cL_law 25 = .ok (.aload_n 0, 1) := by decide +kernel
theorem dL_law_26 : decode cL_law 26 = .ok (.arraylength, 1) := by decide +kernel
theorem dL_law_27 : decode cL_law 27 = .ok (.bipush 7, 2) := by decide +kernel
theorem dL_law_29 : decode cL_law 29 = .ok (.isub, 1) := by decide +kernel
theorem dL_law_30 : decode cL_law 30 = .ok (.if_icmp .gt 995, 3) := by decide +kernel
theorem dL_law_1025 : decode cL_law 1025 = .ok (.iconst 1, 1) := by decide +kernel
theorem dL_law_1026 : decode cL_law 1026 = .ok (.ireturn, 1) := by decide +kernel
theorem dL_law_33 : decode cL_law 33 = .ok (.aload_n 0, 1) := by decide +kernel
theorem dL_law_34 : decode cL_law 34 = .ok (.iload 4, 2) := by decide +kernel
theorem dL_law_36 : decode cL_law 36 = .ok (.iaload, 1) := by decide +kernel
theorem dL_law_37 : decode cL_law 37 = .ok (.bipush 31, 2) := by decide +kernel
theorem dL_law_39 : decode cL_law 39 = .ok (.iand, 1) := by decide +kernel
theorem dL_law_40 : decode cL_law 40 = .ok (.tableswitch 979 0 26 #[124, 271, 284, 321, 358, 407, 420, 433, 470, 495, 520, 545, 573, 601, 614, 639, 664, 701, 714, 739, 752, 777, 802, 851, 876, 901, 954], 124) := by decide +kernel
theorem lk_cmp {k L : Nat} (hk : k ≤ 3591) (hL : L ≤ 3584) : (nI L - 7 < nI k) ↔ L < k + 7 := by
  rw [Int32.lt_iff_toInt_lt, show (7 : Int32) = nI 7 from rfl, pk_sub_toInt (by omega) (by decide), nI_toInt (by omega)]
  omega
set_option maxRecDepth 20000 in
theorem lk_next {p : Program} {e : Env} {s : State} {m : MethodId} {below : List Frame} {meth : Method} {c : Code} (l : Launch) {b L : Nat} {xs : Nat → Int32} (C0 : lw_At p s m meth c b L xs) {A : Nat → Prop} (hAe : A = fun q => s.heap.size ≤ q) {D : va_G} {ak : Nat → ClassId} {ad : Nat → Nat} (hl0 : l.stackTraces = false) (hE : EV D ak s) (hT : ST D ak ad A s s.heap) (hXE : XE A s s.heap) {o0 m0 x0 : Nat} {k cells slots : Nat} (kk : LGo p l e s m b below meth c D ak ad A o0 m0 x0 (nI (k + 7)) 23 cells slots) : LGo p l e s m b below meth c D ak ad A o0 m0 x0 (nI k) 1019 cells slots := by
  obtain ⟨hx, hb, hr, hml, hown, hts, hX, hbl, hlocks, hgv⟩ := id C0
  have hown : s.vm.findClass RL = some m.cls := hown
  have hA : ∀ q : Nat, s.heap.size ≤ q → A q := fun q h => by rw [hAe]; exact h
  have hbA : ¬ A b := by rw [hAe]; exact Nat.not_le.mpr hbl
  intro v LX LM fo H locs ls hI hJ hP hD hS hl
  refine lv_iinc (v := nI (k + 7)) (lv' := [(4, .int (nI (k + 7))), (3, .ref o0), (2, .ref m0), (1, .ref x0), (0, .ref b)]) hx hb dL_law_1019 hl (k := 0) rfl (nI_add k 7) (by decide) rfl (fun ls hl => ?_)
  refine lv_goto (tgt := 23) hx hb dL_law_1022 (by decide) ?_
  exact kk v LX LM fo H locs ls hI hJ hP hD hS hl
set_option maxHeartbeats 4000000 in
set_option maxRecDepth 100000 in
theorem lk_step {p : Program} {e : Env} {s : State} {m : MethodId} {below : List Frame} {meth : Method} {c : Code} (l : Launch) {b L : Nat} {xs : Nat → Int32} (C0 : lw_At p s m meth c b L xs) {A : Nat → Prop} (hAe : A = fun q => s.heap.size ≤ q) {D : va_G} {ak : Nat → ClassId} {ad : Nat → Nat} (hl0 : l.stackTraces = false) (hE : EV D ak s) (hT : ST D ak ad A s s.heap) (hXE : XE A s s.heap) {o0 m0 x0 : Nat} {k cells slots : Nat} (hk : k ≤ 3591) (hL : L ≤ 3584) (hc : cells + 15 ≤ room_1.cells) (hs : slots + 1133 ≤ room_1.slots) (kk : k + 7 ≤ L → LGo p l e s m b below meth c D ak ad A o0 m0 x0 (nI (k + 7)) 23 (cells + 15) (slots + 1133)) : LGo p l e s m b below meth c D ak ad A o0 m0 x0 (nI k) 23 cells slots := by
  obtain ⟨hx, hb, hr, hml, hown, hts, hX, hbl, hlocks, hgv⟩ := id C0
  have hown : s.vm.findClass RL = some m.cls := hown
  have hA : ∀ q : Nat, s.heap.size ≤ q → A q := fun q h => by rw [hAe]; exact h
  have hbA : ¬ A b := by rw [hAe]; exact Nat.not_le.mpr hbl
  intro v LX LM fo H locs ls hI hJ hP hD hS hl
  refine lv_iload hx hb dL_law_23 (lv_at hl 0 rfl) ?_
  refine lv_aload_n hx hb dL_law_25 rfl (lv_at hl 4 rfl) ?_
  refine va_slen hx hb hX hbl hbA hS dL_law_26 ?_
  refine lv_bipush (v := 7) hx hb dL_law_27 (by decide) ?_
  refine lv_isub hx hb dL_law_29 ?_
  refine lv_icmp_gt (tgt := 1025) hx hb dL_law_30 (by decide) (fun c_30 => ?_) (fun c_30 => ?_)
  · refine lv_iconst (v := 1) hx hb dL_law_1025 (by decide) ?_
    refine va_forget (fun q hq => by have h9 := hS.2.2 q hq; rw [hAe] at h9; exact h9) ?_
    refine W.widen (k := 601024) (n := 7293034) (by have : room_1.cells = 601024 := rfl; omega) (by have : room_1.slots = 7293034 := rfl; omega) ?_
    exact lw_ret hx hb hr hlocks dL_law_1026
  · have h7 : k + 7 ≤ L := Nat.not_lt.mp (fun h => c_30 ((lk_cmp hk hL).mpr h))
    have hn := lk_next l C0 hAe hl0 hE hT hXE (kk h7)
    refine lv_aload_n hx hb dL_law_33 rfl (lv_at hl 4 rfl) ?_
    refine lv_iload hx hb dL_law_34 (lv_at hl 0 rfl) ?_
    refine va_sld hx hb hX hbl hbA hS (pk_in k L (by omega) rfl (by omega)) dL_law_36 ?_
    refine lv_bipush (v := 31) hx hb dL_law_37 (by decide) ?_
    refine lv_iand hx hb dL_law_39 ?_
    refine lv_topi (fun sc esc => ?_)
    by_cases k_0 : sc = (0 : Int32)
    · refine lv_tableIn (tgt := 164) hx hb dL_law_40 (by rw [k_0]; decide) (by rw [k_0]; decide) (off := 124) (by rw [k_0]; rfl) (by decide) ?_
      exact lk_0 l C0 hAe hl0 hE hT hXE rfl h7 hL hc hs hn v LX LM fo H locs ls hI hJ hP hD hS hl
    by_cases k_1 : sc = (1 : Int32)
    · refine lv_tableIn (tgt := 311) hx hb dL_law_40 (by rw [k_1]; decide) (by rw [k_1]; decide) (off := 271) (by rw [k_1]; rfl) (by decide) ?_
      exact lk_1 l C0 hAe hl0 hE hT hXE rfl h7 hL hc hs hn v LX LM fo H locs ls hI hJ hP hD hS hl
    by_cases k_2 : sc = (2 : Int32)
    · refine lv_tableIn (tgt := 324) hx hb dL_law_40 (by rw [k_2]; decide) (by rw [k_2]; decide) (off := 284) (by rw [k_2]; rfl) (by decide) ?_
      exact lk_2 l C0 hAe hl0 hE hT hXE rfl h7 hL hc hs hn v LX LM fo H locs ls hI hJ hP hD hS hl
    by_cases k_3 : sc = (3 : Int32)
    · refine lv_tableIn (tgt := 361) hx hb dL_law_40 (by rw [k_3]; decide) (by rw [k_3]; decide) (off := 321) (by rw [k_3]; rfl) (by decide) ?_
      exact lk_3 l C0 hAe hl0 hE hT hXE rfl h7 hL hc hs hn v LX LM fo H locs ls hI hJ hP hD hS hl
    by_cases k_4 : sc = (4 : Int32)
    · refine lv_tableIn (tgt := 398) hx hb dL_law_40 (by rw [k_4]; decide) (by rw [k_4]; decide) (off := 358) (by rw [k_4]; rfl) (by decide) ?_
      exact lk_4 l C0 hAe hl0 hE hT hXE rfl h7 hL hc hs hn v LX LM fo H locs ls hI hJ hP hD hS hl
    by_cases k_5 : sc = (5 : Int32)
    · refine lv_tableIn (tgt := 447) hx hb dL_law_40 (by rw [k_5]; decide) (by rw [k_5]; decide) (off := 407) (by rw [k_5]; rfl) (by decide) ?_
      exact lk_5 l C0 hAe hl0 hE hT hXE rfl h7 hL hc hs hn v LX LM fo H locs ls hI hJ hP hD hS hl
    by_cases k_6 : sc = (6 : Int32)
    · refine lv_tableIn (tgt := 460) hx hb dL_law_40 (by rw [k_6]; decide) (by rw [k_6]; decide) (off := 420) (by rw [k_6]; rfl) (by decide) ?_
      exact lk_6 l C0 hAe hl0 hE hT hXE rfl h7 hL hc hs hn v LX LM fo H locs ls hI hJ hP hD hS hl
    by_cases k_7 : sc = (7 : Int32)
    · refine lv_tableIn (tgt := 473) hx hb dL_law_40 (by rw [k_7]; decide) (by rw [k_7]; decide) (off := 433) (by rw [k_7]; rfl) (by decide) ?_
      exact lk_7 l C0 hAe hl0 hE hT hXE rfl h7 hL hc hs hn v LX LM fo H locs ls hI hJ hP hD hS hl
    by_cases k_8 : sc = (8 : Int32)
    · refine lv_tableIn (tgt := 510) hx hb dL_law_40 (by rw [k_8]; decide) (by rw [k_8]; decide) (off := 470) (by rw [k_8]; rfl) (by decide) ?_
      exact lk_8 l C0 hAe hl0 hE hT hXE rfl h7 hL hc hs hn v LX LM fo H locs ls hI hJ hP hD hS hl
    by_cases k_9 : sc = (9 : Int32)
    · refine lv_tableIn (tgt := 535) hx hb dL_law_40 (by rw [k_9]; decide) (by rw [k_9]; decide) (off := 495) (by rw [k_9]; rfl) (by decide) ?_
      exact lk_9 l C0 hAe hl0 hE hT hXE rfl h7 hL hc hs hn v LX LM fo H locs ls hI hJ hP hD hS hl
    by_cases k_10 : sc = (10 : Int32)
    · refine lv_tableIn (tgt := 560) hx hb dL_law_40 (by rw [k_10]; decide) (by rw [k_10]; decide) (off := 520) (by rw [k_10]; rfl) (by decide) ?_
      exact lk_10 l C0 hAe hl0 hE hT hXE rfl h7 hL hc hs hn v LX LM fo H locs ls hI hJ hP hD hS hl
    by_cases k_11 : sc = (11 : Int32)
    · refine lv_tableIn (tgt := 585) hx hb dL_law_40 (by rw [k_11]; decide) (by rw [k_11]; decide) (off := 545) (by rw [k_11]; rfl) (by decide) ?_
      exact lk_11 l C0 hAe hl0 hE hT hXE rfl h7 hL hc hs hn v LX LM fo H locs ls hI hJ hP hD hS hl
    by_cases k_12 : sc = (12 : Int32)
    · refine lv_tableIn (tgt := 613) hx hb dL_law_40 (by rw [k_12]; decide) (by rw [k_12]; decide) (off := 573) (by rw [k_12]; rfl) (by decide) ?_
      exact lk_12 l C0 hAe hl0 hE hT hXE rfl h7 hL hc hs hn v LX LM fo H locs ls hI hJ hP hD hS hl
    by_cases k_13 : sc = (13 : Int32)
    · refine lv_tableIn (tgt := 641) hx hb dL_law_40 (by rw [k_13]; decide) (by rw [k_13]; decide) (off := 601) (by rw [k_13]; rfl) (by decide) ?_
      exact lk_13 l C0 hAe hl0 hE hT hXE rfl h7 hL hc hs hn v LX LM fo H locs ls hI hJ hP hD hS hl
    by_cases k_14 : sc = (14 : Int32)
    · refine lv_tableIn (tgt := 654) hx hb dL_law_40 (by rw [k_14]; decide) (by rw [k_14]; decide) (off := 614) (by rw [k_14]; rfl) (by decide) ?_
      exact lk_14 l C0 hAe hl0 hE hT hXE rfl h7 hL hc hs hn v LX LM fo H locs ls hI hJ hP hD hS hl
    by_cases k_15 : sc = (15 : Int32)
    · refine lv_tableIn (tgt := 679) hx hb dL_law_40 (by rw [k_15]; decide) (by rw [k_15]; decide) (off := 639) (by rw [k_15]; rfl) (by decide) ?_
      exact lk_15 l C0 hAe hl0 hE hT hXE rfl h7 hL hc hs hn v LX LM fo H locs ls hI hJ hP hD hS hl
    by_cases k_16 : sc = (16 : Int32)
    · refine lv_tableIn (tgt := 704) hx hb dL_law_40 (by rw [k_16]; decide) (by rw [k_16]; decide) (off := 664) (by rw [k_16]; rfl) (by decide) ?_
      exact lk_16 l C0 hAe hl0 hE hT hXE rfl h7 hL hc hs hn v LX LM fo H locs ls hI hJ hP hD hS hl
    by_cases k_17 : sc = (17 : Int32)
    · refine lv_tableIn (tgt := 741) hx hb dL_law_40 (by rw [k_17]; decide) (by rw [k_17]; decide) (off := 701) (by rw [k_17]; rfl) (by decide) ?_
      exact lk_17 l C0 hAe hl0 hE hT hXE rfl h7 hL hc hs hn v LX LM fo H locs ls hI hJ hP hD hS hl
    by_cases k_18 : sc = (18 : Int32)
    · refine lv_tableIn (tgt := 754) hx hb dL_law_40 (by rw [k_18]; decide) (by rw [k_18]; decide) (off := 714) (by rw [k_18]; rfl) (by decide) ?_
      exact lk_18 l C0 hAe hl0 hE hT hXE rfl h7 hL hc hs hn v LX LM fo H locs ls hI hJ hP hD hS hl
    by_cases k_19 : sc = (19 : Int32)
    · refine lv_tableIn (tgt := 779) hx hb dL_law_40 (by rw [k_19]; decide) (by rw [k_19]; decide) (off := 739) (by rw [k_19]; rfl) (by decide) ?_
      exact lk_19 l C0 hAe hl0 hE hT hXE rfl h7 hL hc hs hn v LX LM fo H locs ls hI hJ hP hD hS hl
    by_cases k_20 : sc = (20 : Int32)
    · refine lv_tableIn (tgt := 792) hx hb dL_law_40 (by rw [k_20]; decide) (by rw [k_20]; decide) (off := 752) (by rw [k_20]; rfl) (by decide) ?_
      exact lk_20 l C0 hAe hl0 hE hT hXE rfl h7 hL hc hs hn v LX LM fo H locs ls hI hJ hP hD hS hl
    by_cases k_21 : sc = (21 : Int32)
    · refine lv_tableIn (tgt := 817) hx hb dL_law_40 (by rw [k_21]; decide) (by rw [k_21]; decide) (off := 777) (by rw [k_21]; rfl) (by decide) ?_
      exact lk_21 l C0 hAe hl0 hE hT hXE rfl h7 hL hc hs hn v LX LM fo H locs ls hI hJ hP hD hS hl
    by_cases k_22 : sc = (22 : Int32)
    · refine lv_tableIn (tgt := 842) hx hb dL_law_40 (by rw [k_22]; decide) (by rw [k_22]; decide) (off := 802) (by rw [k_22]; rfl) (by decide) ?_
      exact lk_22 l C0 hAe hl0 hE hT hXE rfl h7 hL hc hs hn v LX LM fo H locs ls hI hJ hP hD hS hl
    by_cases k_23 : sc = (23 : Int32)
    · refine lv_tableIn (tgt := 891) hx hb dL_law_40 (by rw [k_23]; decide) (by rw [k_23]; decide) (off := 851) (by rw [k_23]; rfl) (by decide) ?_
      exact lk_23 l C0 hAe hl0 hE hT hXE rfl h7 hL hc hs hn v LX LM fo H locs ls hI hJ hP hD hS hl
    by_cases k_24 : sc = (24 : Int32)
    · refine lv_tableIn (tgt := 916) hx hb dL_law_40 (by rw [k_24]; decide) (by rw [k_24]; decide) (off := 876) (by rw [k_24]; rfl) (by decide) ?_
      exact lk_24 l C0 hAe hl0 hE hT hXE rfl h7 hL hc hs hn v LX LM fo H locs ls hI hJ hP hD hS hl
    by_cases k_25 : sc = (25 : Int32)
    · refine lv_tableIn (tgt := 941) hx hb dL_law_40 (by rw [k_25]; decide) (by rw [k_25]; decide) (off := 901) (by rw [k_25]; rfl) (by decide) ?_
      exact lk_25 l C0 hAe hl0 hE hT hXE rfl h7 hL hc hs hn v LX LM fo H locs ls hI hJ hP hD hS hl
    by_cases k_26 : sc = (26 : Int32)
    · refine lv_tableIn (tgt := 994) hx hb dL_law_40 (by rw [k_26]; decide) (by rw [k_26]; decide) (off := 954) (by rw [k_26]; rfl) (by decide) ?_
      exact lk_26 l C0 hAe hl0 hE hT hXE rfl h7 hL hc hs hn v LX LM fo H locs ls hI hJ hP hD hS hl
    have hout : (sc : Int32).toInt < 0 ∨ 26 < (sc : Int32).toInt := tsw_out _ 0 26 (by intro j h1 h2; have hj : j = 0 ∨ j = 1 ∨ j = 2 ∨ j = 3 ∨ j = 4 ∨ j = 5 ∨ j = 6 ∨ j = 7 ∨ j = 8 ∨ j = 9 ∨ j = 10 ∨ j = 11 ∨ j = 12 ∨ j = 13 ∨ j = 14 ∨ j = 15 ∨ j = 16 ∨ j = 17 ∨ j = 18 ∨ j = 19 ∨ j = 20 ∨ j = 21 ∨ j = 22 ∨ j = 23 ∨ j = 24 ∨ j = 25 ∨ j = 26 := (by omega); rcases hj with rfl | rfl | rfl | rfl | rfl | rfl | rfl | rfl | rfl | rfl | rfl | rfl | rfl | rfl | rfl | rfl | rfl | rfl | rfl | rfl | rfl | rfl | rfl | rfl | rfl | rfl | rfl <;> first | exact lv_neT k_0 rfl | exact lv_neT k_1 rfl | exact lv_neT k_2 rfl | exact lv_neT k_3 rfl | exact lv_neT k_4 rfl | exact lv_neT k_5 rfl | exact lv_neT k_6 rfl | exact lv_neT k_7 rfl | exact lv_neT k_8 rfl | exact lv_neT k_9 rfl | exact lv_neT k_10 rfl | exact lv_neT k_11 rfl | exact lv_neT k_12 rfl | exact lv_neT k_13 rfl | exact lv_neT k_14 rfl | exact lv_neT k_15 rfl | exact lv_neT k_16 rfl | exact lv_neT k_17 rfl | exact lv_neT k_18 rfl | exact lv_neT k_19 rfl | exact lv_neT k_20 rfl | exact lv_neT k_21 rfl | exact lv_neT k_22 rfl | exact lv_neT k_23 rfl | exact lv_neT k_24 rfl | exact lv_neT k_25 rfl | exact lv_neT k_26 rfl)
    refine lv_tableOut (tgt := 1019) hx hb dL_law_40 hout (by decide) ?_
    refine W.widen (k := cells + 15) (n := slots + 1133) (by omega) (by omega) ?_
    exact hn v LX LM fo H locs ls hI hJ hP hD hS hl
set_option maxRecDepth 100000 in
theorem lk_loop {p : Program} {e : Env} {s : State} {m : MethodId} {below : List Frame} {meth : Method} {c : Code} (l : Launch) {b L : Nat} {xs : Nat → Int32} (C0 : lw_At p s m meth c b L xs) {A : Nat → Prop} (hAe : A = fun q => s.heap.size ≤ q) {D : va_G} {ak : Nat → ClassId} {ad : Nat → Nat} (hl0 : l.stackTraces = false) (hE : EV D ak s) (hT : ST D ak ad A s s.heap) (hXE : XE A s s.heap) {o0 m0 x0 : Nat} (hL : L ≤ 3584) : ∀ (r k cells slots : Nat), L < k + 7 * r + 7 → k ≤ L → cells + 15 * (r + 1) ≤ room_1.cells → slots + 1133 * (r + 1) ≤ room_1.slots → LGo p l e s m b below meth c D ak ad A o0 m0 x0 (nI k) 23 cells slots := by
  intro r
  induction r with
  | zero =>
    intro k cells slots h1 h2 h3 h4
    exact lk_step l C0 hAe hl0 hE hT hXE (by omega) hL (by omega) (by omega) (fun h => absurd h (by omega))
  | succ r ih =>
    intro k cells slots h1 h2 h3 h4
    exact lk_step l C0 hAe hl0 hE hT hXE (by omega) hL (by omega) (by omega) (fun h => ih (k + 7) (cells + 15) (slots + 1133) (by omega) h (by omega) (by omega))
end
section
theorem dL_law_0 : decode cL_law 0 = .ok (.new 8, 3) := by decide +kernel
theorem dL_law_3 : decode cL_law 3 = .ok (.dup, 1) := by decide +kernel
theorem dL_law_4 : decode cL_law 4 = .ok (.invokespecial 18, 3) := by decide +kernel
theorem dL_law_7 : decode cL_law 7 = .ok (.astore_n 1, 1) := by decide +kernel
theorem dL_law_8 : decode cL_law 8 = .ok (.new 19, 3) := by decide +kernel
theorem dL_law_11 : decode cL_law 11 = .ok (.dup, 1) := by decide +kernel
theorem dL_law_12 : decode cL_law 12 = .ok (.invokespecial 21, 3) := by decide +kernel
theorem dL_law_15 : decode cL_law 15 = .ok (.astore_n 2, 1) := by decide +kernel
theorem dL_law_16 : decode cL_law 16 = .ok (.iconst 1, 1) := by decide +kernel
theorem dL_law_17 : decode cL_law 17 = .ok (.newarray .long, 2) := by decide +kernel
theorem dL_law_19 : decode cL_law 19 = .ok (.astore_n 3, 1) := by decide +kernel
theorem dL_law_20 : decode cL_law 20 = .ok (.iconst 0, 1) := by decide +kernel
theorem dL_law_21 : decode cL_law 21 = .ok (.istore 4, 2) := by decide +kernel
theorem lk_sw {D : va_G} {X : va_W} {q : Nat × va_E} {H : Heap} (h : va_P D vwCl (X ++ [q]) H) : va_P D vwCl ([] ++ ([q] ++ X)) H := va_P.swap (a := []) (b := X) (c := [q]) h
theorem lk_swD {A : Nat → Prop} {X : va_W} {q : Nat × va_E} (h : va_D A (X ++ [q])) : va_D A ([] ++ ([q] ++ X)) := va_D.swap (a := []) (b := X) (c := [q]) h
set_option maxHeartbeats 8000000 in
set_option maxRecDepth 100000 in
theorem whole_start {p : Program} {e : Env} {s : State} {m : MethodId} {below : List Frame} {meth : Method} {c : Code} (l : Launch) (hl0 : l.stackTraces = false) {b L : Nat} {xs : Nat → Int32} (hL : L ≤ 3584) (C0 : lw_At p s m meth c b L xs) : W p l e room_1 s m #[Value.ref b] below meth c s.heap [] 0 0 (lw_Z below #[Value.ref b] s) (entryFrame m ([Value.ref b] : List Value).toArray 7) := by
  obtain ⟨hx, hb, hr, hml, hown, hts, hX, hbl, hlocks, hgv⟩ := id C0
  have hown : s.vm.findClass RL = some m.cls := hown
  obtain ⟨A, hAe⟩ : ∃ A : Nat → Prop, A = fun q => s.heap.size ≤ q := ⟨_, rfl⟩
  have hA : ∀ q : Nat, s.heap.size ≤ q → A q := fun q h => by rw [hAe]; exact h
  have hA0 : ∀ a : Nat, a < s.heap.size → ¬ A a := fun a h => by rw [hAe]; exact Nat.not_le.mpr h
  obtain ⟨D, ak, hE⟩ := st_ev hts
  obtain ⟨ad, hT⟩ := st_tok (D := D) (ak := ak) (A := A) hts hgv hA0
  have hXE : XE A s s.heap := st_xe hts hgv hA0
  have hS : va_S A s.heap s.heap [] := va_S.rf
  have hP : va_P D vwCl [] s.heap := fun k q h => by simp at h
  have hD : va_D A [] := ⟨fun i j p q h => by simp at h, fun k q h => by simp at h⟩
  have hl := lv_entry ([.ref b]) (n := 7) (Nat.le_of_ble_eq_true rfl)
  rw [lg_entry_eq]
  generalize (lg_sl ([.ref b]) ++ List.replicate (7 - (lg_sl ([.ref b])).length) Slot.unset).toArray = ls at hl ⊢
  have hl : lv_has ls 7 [(0, .ref b)] := hl
  refine va_new (ci := 6) (fs := [.null, .null, .null, .null, .null, .null, .null, .null, .null, .null]) (C := RX7) (T := TX7) (N := 10) hx hb hts (fun w h => (gw_X7 w h).1) tyX7 tyX7_ok hown (hts (.classLink RL 8 RX7) (lwAt_mem (i := 1018) rfl)) (hts (.instantiable RX7 10) (lwAt_mem (i := 1019) rfl)) (hts (.initialized RX7) (lwAt_mem (i := 1001) rfl)) hE.1 hP hD hS hA rfl (by decide) (Nat.le_of_ble_eq_true rfl) (Nat.le_of_ble_eq_true rfl) dL_law_0 (fun x0 H hP hD hS => ?_)
  have hP : va_P D vwCl ([] ++ ([(x0, .inr (6, [.null, .null, .null, .null, .null, .null, .null, .null, .null, .null]))] ++ [])) H := hP
  have hD : va_D A ([] ++ ([(x0, .inr (6, [.null, .null, .null, .null, .null, .null, .null, .null, .null, .null]))] ++ [])) := hD
  refine W.widen (k := 1) (n := 10) (Nat.le_of_ble_eq_true rfl) (Nat.le_of_ble_eq_true rfl) ?_
  refine lv_dup hx hb dL_law_3 rfl ?_
  refine lc_v (U := []) (C := [(x0, .inr (6, [.null, .null, .null, .null, .null, .null, .null, .null, .null, .null]))]) (V := []) hP hD hS hA (va_runI (As := []) (rest := [.ref x0]) ⟨hx, hb, hml, hown, hts⟩ (x_init l D ak ad _ x0) (cwI 0 hts hg_X7_init rfl rfl rfl (hts (.initialized RX7) (lwAt_mem (i := 1001) rfl)) (hts (.methodLink RL 18 yX7_init) (lwAt_mem (i := 1020) rfl)) (hts (.instanceMethod yX7_init) (lwAt_mem (i := 1021) rfl)) rfl hz_X7_init ⟨Nat.le_of_ble_eq_true rfl, Nat.le_of_ble_eq_true rfl⟩) (lc_pre (U := []) (C := [(x0, .inr (6, [.null, .null, .null, .null, .null, .null, .null, .null, .null, .null]))]) (V := []) (As := [.ref x0]) hE hT hP hD hS hA) rfl rfl hl.1 rfl (lv_room (Nat.le_of_ble_eq_true rfl)) dL_law_4 ⟨Nat.le_of_ble_eq_true rfl, Nat.le_of_ble_eq_true rfl⟩) (fun LX H locs hI hP hD hS => ?_)
  rw [List.append_nil] at hP hD
  have hP : va_P D vwCl LX H := hP
  have hD : va_D A LX := hD
  refine W.widen (k := 100) (n := 10080) (Nat.le_of_ble_eq_true rfl) (Nat.le_of_ble_eq_true rfl) ?_
  refine lv_astore_n (lv' := [(1, .ref x0), (0, .ref b)]) hx hb dL_law_7 rfl hl (by decide) rfl (fun ls hl => ?_)
  refine va_new (ci := 7) (fs := [.int (0), .int (0), .null, .int (0), .int (0), .int (0), .int (0), .long (0), .int (0), .int (0), .null, .null, .null, .null, .null, .null, .null, .null, .null, .null, .null, .null, .null, .null, .null, .null, .null, .null, .null, .int (0), .null, .null, .null, .null, .null, .null, .null, .null, .null, .null, .null, .null, .int (0), .int (0), .int (0), .int (0), .int (0), .null, .null, .int (0), .null, .null, .null, .int (0), .int (0), .int (0), .int (0), .int (0), .null, .null, .null, .null, .null, .null, .null, .null, .null, .null, .int (0)]) (C := RX8) (T := TX8) (N := 69) hx hb hts (fun w h => (gw_X8 w h).1) tyX8 tyX8_ok hown (hts (.classLink RL 19 RX8) (lwAt_mem (i := 4138) rfl)) (hts (.instantiable RX8 69) (lwAt_mem (i := 4139) rfl)) (hts (.initialized RX8) (lwAt_mem (i := 1010) rfl)) hE.1 hP hD hS hA rfl (by decide) (Nat.le_of_ble_eq_true rfl) (Nat.le_of_ble_eq_true rfl) dL_law_8 (fun m0 H hP hD hS => ?_)
  have hP : va_P D vwCl ([] ++ ([(m0, .inr (7, [.int (0), .int (0), .null, .int (0), .int (0), .int (0), .int (0), .long (0), .int (0), .int (0), .null, .null, .null, .null, .null, .null, .null, .null, .null, .null, .null, .null, .null, .null, .null, .null, .null, .null, .null, .int (0), .null, .null, .null, .null, .null, .null, .null, .null, .null, .null, .null, .null, .int (0), .int (0), .int (0), .int (0), .int (0), .null, .null, .int (0), .null, .null, .null, .int (0), .int (0), .int (0), .int (0), .int (0), .null, .null, .null, .null, .null, .null, .null, .null, .null, .null, .int (0)]))] ++ LX)) H := lk_sw hP
  have hD : va_D A ([] ++ ([(m0, .inr (7, [.int (0), .int (0), .null, .int (0), .int (0), .int (0), .int (0), .long (0), .int (0), .int (0), .null, .null, .null, .null, .null, .null, .null, .null, .null, .null, .null, .null, .null, .null, .null, .null, .null, .null, .null, .int (0), .null, .null, .null, .null, .null, .null, .null, .null, .null, .null, .null, .null, .int (0), .int (0), .int (0), .int (0), .int (0), .null, .null, .int (0), .null, .null, .null, .int (0), .int (0), .int (0), .int (0), .int (0), .null, .null, .null, .null, .null, .null, .null, .null, .null, .null, .int (0)]))] ++ LX)) := lk_swD hD
  refine W.widen (k := 101) (n := 10149) (Nat.le_of_ble_eq_true rfl) (Nat.le_of_ble_eq_true rfl) ?_
  refine lv_dup hx hb dL_law_11 rfl ?_
  refine lc_v (U := []) (C := [(m0, .inr (7, [.int (0), .int (0), .null, .int (0), .int (0), .int (0), .int (0), .long (0), .int (0), .int (0), .null, .null, .null, .null, .null, .null, .null, .null, .null, .null, .null, .null, .null, .null, .null, .null, .null, .null, .null, .int (0), .null, .null, .null, .null, .null, .null, .null, .null, .null, .null, .null, .null, .int (0), .int (0), .int (0), .int (0), .int (0), .null, .null, .int (0), .null, .null, .null, .int (0), .int (0), .int (0), .int (0), .int (0), .null, .null, .null, .null, .null, .null, .null, .null, .null, .null, .int (0)]))]) (V := LX) hP hD hS hA (va_runI (As := []) (rest := [.ref m0]) ⟨hx, hb, hml, hown, hts⟩ (m_init l D ak ad _ m0) (cwI 0 hts hg_X8_init rfl rfl rfl (hts (.initialized RX8) (lwAt_mem (i := 1010) rfl)) (hts (.methodLink RL 21 yX8_init) (lwAt_mem (i := 4140) rfl)) (hts (.instanceMethod yX8_init) (lwAt_mem (i := 4141) rfl)) rfl hz_X8_init ⟨Nat.le_of_ble_eq_true rfl, Nat.le_of_ble_eq_true rfl⟩) (lc_pre (U := []) (C := [(m0, .inr (7, [.int (0), .int (0), .null, .int (0), .int (0), .int (0), .int (0), .long (0), .int (0), .int (0), .null, .null, .null, .null, .null, .null, .null, .null, .null, .null, .null, .null, .null, .null, .null, .null, .null, .null, .null, .int (0), .null, .null, .null, .null, .null, .null, .null, .null, .null, .null, .null, .null, .int (0), .int (0), .int (0), .int (0), .int (0), .null, .null, .int (0), .null, .null, .null, .int (0), .int (0), .int (0), .int (0), .int (0), .null, .null, .null, .null, .null, .null, .null, .null, .null, .null, .int (0)]))]) (V := LX) (As := [.ref m0]) hE hT hP hD hS hA) rfl rfl hl.1 rfl (lv_room (Nat.le_of_ble_eq_true rfl)) dL_law_12 ⟨Nat.le_of_ble_eq_true rfl, Nat.le_of_ble_eq_true rfl⟩) (fun LM H locs hJ hP hD hS => ?_)
  have hP : va_P D vwCl (LM ++ LX) H := hP
  have hD : va_D A (LM ++ LX) := hD
  refine W.widen (k := 148) (n := 22803) (Nat.le_of_ble_eq_true rfl) (Nat.le_of_ble_eq_true rfl) ?_
  refine lv_astore_n (lv' := [(2, .ref m0), (1, .ref x0), (0, .ref b)]) hx hb dL_law_15 rfl hl (by decide) rfl (fun ls hl => ?_)
  refine lv_iconst (v := 1) hx hb dL_law_16 (by decide) ?_
  refine kn_a (atype := .long) (ty := .long) (a0 := (1, .inr (.inl (fun _ => 0)))) (N' := 1) hx hb (hts (.arrayClass .long) (lwAt_mem (i := 1061) rfl)) hE 1 rfl rfl (fun _ h => h) hP hD hS hA (fun cA => vp_cell_l cA 1 (fun _ => 0)) (by decide) (rfl) (by decide +kernel) (Nat.le_of_ble_eq_true rfl) (Nat.le_of_ble_eq_true rfl) dL_law_17 (fun o0 H hP hD hS => ?_)
  rw [List.append_assoc] at hP hD
  refine W.widen (k := 149) (n := 22804) (Nat.le_of_ble_eq_true rfl) (Nat.le_of_ble_eq_true rfl) ?_
  refine lv_astore_n (lv' := [(3, .ref o0), (2, .ref m0), (1, .ref x0), (0, .ref b)]) hx hb dL_law_19 rfl hl (by decide) rfl (fun ls hl => ?_)
  refine lv_iconst (v := 0) hx hb dL_law_20 (by decide) ?_
  refine lv_istore (lv' := [(4, .int (nI 0)), (3, .ref o0), (2, .ref m0), (1, .ref x0), (0, .ref b)]) hx hb dL_law_21 hl (by decide) rfl (fun ls hl => ?_)
  exact lk_loop l C0 hAe hl0 hE hT hXE hL 512 0 149 22804 (by omega) (Nat.zero_le _) (Nat.le_of_ble_eq_true rfl) (Nat.le_of_ble_eq_true rfl) v0 LX LM (fun _ => 0) H locs ls hI hJ hP hD hS hl
end
