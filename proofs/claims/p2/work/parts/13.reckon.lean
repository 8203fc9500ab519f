theorem dX1_reckon_23 : decode cX1_reckon 23 = .ok (.iload 5, 2) := by decide +kernel
theorem dX1_reckon_25 : decode cX1_reckon 25 = .ok (.iload 4, 2) := by decide +kernel
theorem dX1_reckon_27 : decode cX1_reckon 27 = .ok (.if_icmp .ge 189, 3) := by decide +kernel
theorem dX1_reckon_30 : decode cX1_reckon 30 = .ok (.aload_n 0, 1) := by decide +kernel
theorem dX1_reckon_31 : decode cX1_reckon 31 = .ok (.getfield 34, 3) := by decide +kernel
theorem dX1_reckon_34 : decode cX1_reckon 34 = .ok (.getfield 138, 3) := by decide +kernel
theorem dX1_reckon_37 : decode cX1_reckon 37 = .ok (.iload 5, 2) := by decide +kernel
theorem dX1_reckon_39 : decode cX1_reckon 39 = .ok (.iaload, 1) := by decide +kernel
theorem dX1_reckon_40 : decode cX1_reckon 40 = .ok (.bipush 15, 2) := by decide +kernel
theorem dX1_reckon_42 : decode cX1_reckon 42 = .ok (.iand, 1) := by decide +kernel
theorem dX1_reckon_43 : decode cX1_reckon 43 = .ok (.istore 6, 2) := by decide +kernel
theorem dX1_reckon_45 : decode cX1_reckon 45 = .ok (.aload_n 0, 1) := by decide +kernel
theorem dX1_reckon_46 : decode cX1_reckon 46 = .ok (.getfield 34, 3) := by decide +kernel
theorem dX1_reckon_49 : decode cX1_reckon 49 = .ok (.getfield 138, 3) := by decide +kernel
theorem dX1_reckon_52 : decode cX1_reckon 52 = .ok (.iload 5, 2) := by decide +kernel
theorem dX1_reckon_54 : decode cX1_reckon 54 = .ok (.iaload, 1) := by decide +kernel
theorem dX1_reckon_55 : decode cX1_reckon 55 = .ok (.iconst 4, 1) := by decide +kernel
theorem dX1_reckon_56 : decode cX1_reckon 56 = .ok (.ishr, 1) := by decide +kernel
theorem dX1_reckon_57 : decode cX1_reckon 57 = .ok (.istore 7, 2) := by decide +kernel
theorem dX1_reckon_59 : decode cX1_reckon 59 = .ok (.iload 6, 2) := by decide +kernel
theorem dX1_reckon_61 : decode cX1_reckon 61 = .ok (.iconst 1, 1) := by decide +kernel
theorem dX1_reckon_62 : decode cX1_reckon 62 = .ok (.if_icmp .gt 38, 3) := by decide +kernel
theorem dX1_reckon_100 : decode cX1_reckon 100 = .ok (.iload 6, 2) := by decide +kernel
theorem dX1_reckon_102 : decode cX1_reckon 102 = .ok (.iconst 2, 1) := by decide +kernel
theorem dX1_reckon_103 : decode cX1_reckon 103 = .ok (.if_icmp .ne 35, 3) := by decide +kernel
theorem dX1_reckon_138 : decode cX1_reckon 138 = .ok (.iload 6, 2) := by decide +kernel
theorem dX1_reckon_140 : decode cX1_reckon 140 = .ok (.iconst 3, 1) := by decide +kernel
theorem dX1_reckon_141 : decode cX1_reckon 141 = .ok (.if_icmp .ne 34, 3) := by decide +kernel
theorem dX1_reckon_175 : decode cX1_reckon 175 = .ok (.iload_n 3, 1) := by decide +kernel
theorem dX1_reckon_176 : decode cX1_reckon 176 = .ok (.iconst 1, 1) := by decide +kernel
theorem dX1_reckon_177 : decode cX1_reckon 177 = .ok (.if_icmp .le 33, 3) := by decide +kernel
theorem dX1_reckon_210 : decode cX1_reckon 210 = .ok (.iinc 5 1, 3) := by decide +kernel
theorem dX1_reckon_213 : decode cX1_reckon 213 = .ok (.goto (-190), 3) := by decide +kernel
theorem dX1_reckon_180 : decode cX1_reckon 180 = .ok (.iinc 3 (-1), 3) := by decide +kernel
theorem dX1_reckon_183 : decode cX1_reckon 183 = .ok (.aload_n 0, 1) := by decide +kernel
theorem dX1_reckon_184 : decode cX1_reckon 184 = .ok (.getfield 24, 3) := by decide +kernel
theorem dX1_reckon_187 : decode cX1_reckon 187 = .ok (.iload_n 3, 1) := by decide +kernel
theorem dX1_reckon_188 : decode cX1_reckon 188 = .ok (.iconst 1, 1) := by decide +kernel
theorem dX1_reckon_189 : decode cX1_reckon 189 = .ok (.isub, 1) := by decide +kernel
theorem dX1_reckon_190 : decode cX1_reckon 190 = .ok (.iload 6, 2) := by decide +kernel
theorem dX1_reckon_192 : decode cX1_reckon 192 = .ok (.aload_n 0, 1) := by decide +kernel
theorem dX1_reckon_193 : decode cX1_reckon 193 = .ok (.getfield 24, 3) := by decide +kernel
theorem dX1_reckon_196 : decode cX1_reckon 196 = .ok (.iload_n 3, 1) := by decide +kernel
theorem dX1_reckon_197 : decode cX1_reckon 197 = .ok (.iconst 1, 1) := by decide +kernel
theorem dX1_reckon_198 : decode cX1_reckon 198 = .ok (.isub, 1) := by decide +kernel
theorem dX1_reckon_199 : decode cX1_reckon 199 = .ok (.iaload, 1) := by decide +kernel
theorem dX1_reckon_200 : decode cX1_reckon 200 = .ok (.aload_n 0, 1) := by decide +kernel
theorem dX1_reckon_201 : decode cX1_reckon 201 = .ok (.getfield 24, 3) := by decide +kernel
theorem dX1_reckon_204 : decode cX1_reckon 204 = .ok (.iload_n 3, 1) := by decide +kernel
theorem dX1_reckon_205 : decode cX1_reckon 205 = .ok (.iaload, 1) := by decide +kernel
set_option maxRecDepth 20000 in
theorem ggX1_reckon_X1_joined : GoodIn wsX1_reckon wsX1_joined := goodIn_r _ [21] rfl (by decide +kernel)
set_option maxRecDepth 20000 in
theorem gX1_reckon_X1_joined : GoodIn wsX1_reckon (va_wsS RX1 141 yX1_joined wsX1_joined) := goodIn_app (goodIn_of _ (by decide +kernel)) ggX1_reckon_X1_joined
theorem dX1_reckon_206 : decode cX1_reckon 206 = .ok (.invokestatic 141, 3) := by decide +kernel
theorem dX1_reckon_209 : decode cX1_reckon 209 = .ok (.iastore, 1) := by decide +kernel
theorem dX1_reckon_144 : decode cX1_reckon 144 = .ok (.iload_n 3, 1) := by decide +kernel
theorem dX1_reckon_145 : decode cX1_reckon 145 = .ok (.ifCond .le 30, 3) := by decide +kernel
theorem dX1_reckon_148 : decode cX1_reckon 148 = .ok (.aload_n 0, 1) := by decide +kernel
theorem dX1_reckon_149 : decode cX1_reckon 149 = .ok (.getfield 24, 3) := by decide +kernel
theorem dX1_reckon_152 : decode cX1_reckon 152 = .ok (.iload_n 3, 1) := by decide +kernel
theorem dX1_reckon_153 : decode cX1_reckon 153 = .ok (.iconst 1, 1) := by decide +kernel
theorem dX1_reckon_154 : decode cX1_reckon 154 = .ok (.isub, 1) := by decide +kernel
theorem dX1_reckon_155 : decode cX1_reckon 155 = .ok (.aload_n 0, 1) := by decide +kernel
theorem dX1_reckon_156 : decode cX1_reckon 156 = .ok (.getfield 24, 3) := by decide +kernel
theorem dX1_reckon_159 : decode cX1_reckon 159 = .ok (.iload_n 3, 1) := by decide +kernel
theorem dX1_reckon_160 : decode cX1_reckon 160 = .ok (.iconst 1, 1) := by decide +kernel
theorem dX1_reckon_161 : decode cX1_reckon 161 = .ok (.isub, 1) := by decide +kernel
theorem dX1_reckon_162 : decode cX1_reckon 162 = .ok (.iaload, 1) := by decide +kernel
theorem dX1_reckon_163 : decode cX1_reckon 163 = .ok (.ifCond .ne 7, 3) := by decide +kernel
theorem dX1_reckon_170 : decode cX1_reckon 170 = .ok (.iconst 0, 1) := by decide +kernel
theorem dX1_reckon_171 : decode cX1_reckon 171 = .ok (.iastore, 1) := by decide +kernel
theorem dX1_reckon_172 : decode cX1_reckon 172 = .ok (.goto 38, 3) := by decide +kernel
theorem dX1_reckon_166 : decode cX1_reckon 166 = .ok (.iconst 1, 1) := by decide +kernel
theorem dX1_reckon_167 : decode cX1_reckon 167 = .ok (.goto 4, 3) := by decide +kernel
theorem dX1_reckon_106 : decode cX1_reckon 106 = .ok (.iload_n 3, 1) := by decide +kernel
theorem dX1_reckon_107 : decode cX1_reckon 107 = .ok (.ifCond .le 31, 3) := by decide +kernel
theorem dX1_reckon_110 : decode cX1_reckon 110 = .ok (.aload_n 0, 1) := by decide +kernel
theorem dX1_reckon_111 : decode cX1_reckon 111 = .ok (.getfield 24, 3) := by decide +kernel
theorem dX1_reckon_114 : decode cX1_reckon 114 = .ok (.iload_n 3, 1) := by decide +kernel
theorem dX1_reckon_115 : decode cX1_reckon 115 = .ok (.iconst 1, 1) := by decide +kernel
theorem dX1_reckon_116 : decode cX1_reckon 116 = .ok (.isub, 1) := by decide +kernel
theorem dX1_reckon_117 : decode cX1_reckon 117 = .ok (.aload_n 0, 1) := by decide +kernel
theorem dX1_reckon_118 : decode cX1_reckon 118 = .ok (.getfield 18, 3) := by decide +kernel
theorem dX1_reckon_121 : decode cX1_reckon 121 = .ok (.aload_n 0, 1) := by decide +kernel
theorem dX1_reckon_122 : decode cX1_reckon 122 = .ok (.aload_n 0, 1) := by decide +kernel
theorem dX1_reckon_123 : decode cX1_reckon 123 = .ok (.getfield 24, 3) := by decide +kernel
theorem dX1_reckon_126 : decode cX1_reckon 126 = .ok (.iload_n 3, 1) := by decide +kernel
theorem dX1_reckon_127 : decode cX1_reckon 127 = .ok (.iconst 1, 1) := by decide +kernel
theorem dX1_reckon_128 : decode cX1_reckon 128 = .ok (.isub, 1) := by decide +kernel
theorem dX1_reckon_129 : decode cX1_reckon 129 = .ok (.iaload, 1) := by decide +kernel
set_option maxRecDepth 20000 in
theorem ggX1_reckon_X1_lineOf : GoodIn wsX1_reckon wsX1_lineOf := goodIn_r _ [17, 1, 18, 22, 23, 24, 25, 26, 27, 28, 29, 30, 31, 32, 33, 34, 35, 36, 37, 38, 39, 40, 41, 42, 43, 44, 45, 46, 47, 48, 49, 50] rfl (by decide +kernel)
set_option maxRecDepth 20000 in
theorem gX1_reckon_X1_lineOf : GoodIn wsX1_reckon (wsV RX1 128 RX1 yX1_lineOf wsX1_lineOf) := goodIn_app (goodIn_of _ (by decide +kernel)) ggX1_reckon_X1_lineOf
theorem dX1_reckon_130 : decode cX1_reckon 130 = .ok (.invokevirtual 128, 3) := by decide +kernel
theorem dX1_reckon_133 : decode cX1_reckon 133 = .ok (.iaload, 1) := by decide +kernel
theorem dX1_reckon_134 : decode cX1_reckon 134 = .ok (.iastore, 1) := by decide +kernel
theorem dX1_reckon_135 : decode cX1_reckon 135 = .ok (.goto 75, 3) := by decide +kernel
theorem dX1_reckon_65 : decode cX1_reckon 65 = .ok (.iload_n 3, 1) := by decide +kernel
theorem dX1_reckon_66 : decode cX1_reckon 66 = .ok (.bipush 32, 2) := by decide +kernel
theorem dX1_reckon_68 : decode cX1_reckon 68 = .ok (.if_icmp .ge 32, 3) := by decide +kernel
theorem dX1_reckon_71 : decode cX1_reckon 71 = .ok (.aload_n 0, 1) := by decide +kernel
theorem dX1_reckon_72 : decode cX1_reckon 72 = .ok (.getfield 24, 3) := by decide +kernel
theorem dX1_reckon_75 : decode cX1_reckon 75 = .ok (.iload_n 3, 1) := by decide +kernel
theorem dX1_reckon_76 : decode cX1_reckon 76 = .ok (.iload 6, 2) := by decide +kernel
theorem dX1_reckon_78 : decode cX1_reckon 78 = .ok (.ifCond .ne 8, 3) := by decide +kernel
theorem dX1_reckon_86 : decode cX1_reckon 86 = .ok (.aload_n 0, 1) := by decide +kernel
theorem dX1_reckon_87 : decode cX1_reckon 87 = .ok (.getfield 21, 3) := by decide +kernel
theorem dX1_reckon_90 : decode cX1_reckon 90 = .ok (.iload 7, 2) := by decide +kernel
theorem dX1_reckon_92 : decode cX1_reckon 92 = .ok (.iaload, 1) := by decide +kernel
theorem dX1_reckon_93 : decode cX1_reckon 93 = .ok (.iastore, 1) := by decide +kernel
theorem dX1_reckon_94 : decode cX1_reckon 94 = .ok (.iinc 3 1, 3) := by decide +kernel
theorem dX1_reckon_97 : decode cX1_reckon 97 = .ok (.goto 113, 3) := by decide +kernel
theorem dX1_reckon_81 : decode cX1_reckon 81 = .ok (.iload 7, 2) := by decide +kernel
theorem dX1_reckon_83 : decode cX1_reckon 83 = .ok (.goto 10, 3) := by decide +kernel
def rkS (gce gwo : Nat → Int32) (ln : Nat) (w : Int32) (tp : Nat) (sk : Nat → Int32) : Nat × (Nat → Int32) :=
  if w &&& 15 ≤ 1 ∧ tp < 32 then (tp + 1, upd sk tp (if w &&& 15 = 0 then w >>> ((4 : Int32) &&& 31) else gce (w >>> ((4 : Int32) &&& 31)).toNatClampNeg))
  else if w &&& 15 = 2 ∧ 0 < tp then (tp, upd sk (tp - 1) (gwo (lnOf (sk (tp - 1)) ln)))
  else if w &&& 15 = 3 ∧ 0 < tp then (tp, upd sk (tp - 1) (if sk (tp - 1) = 0 then 1 else 0))
  else if 1 < tp then (tp - 1, upd sk (tp - 2) (jn (w &&& 15) (sk (tp - 2)) (sk (tp - 1))))
  else (tp, sk)
def rkN (gce gwo : Nat → Int32) (ln : Nat) (fcd : Nat → Int32) : Nat → Nat → Nat → (Nat → Int32) → Nat × (Nat → Int32)
  | 0, _, tp, sk => (tp, sk)
  | n + 1, i, tp, sk => rkN gce gwo ln fcd n (i + 1) (rkS gce gwo ln (fcd i) tp sk).1 (rkS gce gwo ln (fcd i) tp sk).2
theorem rkN_step {gce gwo : Nat → Int32} {ln : Nat} {fcd : Nat → Int32} {n i tp tp2 : Nat} {sk sk2 : Nat → Int32} {F : Nat × (Nat → Int32)} (h : rkN gce gwo ln fcd (n + 1) i tp sk = F) (hs : rkS gce gwo ln (fcd i) tp sk = (tp2, sk2)) : rkN gce gwo ln fcd n (i + 1) tp2 sk2 = F := by
  rw [rkN, hs] at h
  exact h
theorem m15 {x : Int32} (h1 : ¬ 1 < x &&& 15) (h0 : ¬ x &&& 15 = 0) : x &&& 15 = 1 := by
  obtain ⟨j, hj, e⟩ := pk_andE x (m := 15) 4 (by decide)
  rw [e] at h1 h0 ⊢
  match j, hj with
  | 0, _ => exact absurd rfl h0
  | 1, _ => rfl
  | j + 2, hj => exact absurd (nI_lt (a := 1) (b := j + 2) (by omega) (by omega)) h1

set_option maxHeartbeats 4000000 in
set_option maxRecDepth 100000 in
theorem lp_reckon {p : Program} {l : Launch} {e : Env} {R : Room} {s : State} {m : MethodId} {args : Array Value} {below : List Frame} {meth : Method} {c : Code} {cells slots : Nat} {Q : State → Prop} {A : Nat → Prop} {D : va_G} {ak : Nat → ClassId} {ad : Nat → Nat} (hx : p.tables.exec = Jvm.exec) (hb : c.code = cX1_reckon) (hown : s.vm.findClass RX1 = some m.cls) (hts : ∀ w ∈ wsX1_reckon, w.before args s = true) (hml : c.maxLocals = 8) (hE : EV D ak s) (hT : ST ad A s s.heap) (hA : ∀ q, s.heap.size ≤ q → A q) (hKT : KT D A [(pg, .inr (2, [.int (nI st), .ref p1, .ref p2, .int (nI ce), .ref p4, .int (nI gi), .ref p6, .ref p7, .ref p8, .int (nI ln), .ref p10, .ref p11, .ref p12, .ref p13, .ref p14, .ref p15, .ref p16])), (p16, .inl (ak 0, cl, .inl (fcd)))] s.heap) (hRf : 1 ≤ R.frames) (hRl : 22 ≤ R.locals) (hRc : cells ≤ R.cells ∧ slots ≤ R.slots) (h0 : Nat) (pg : Nat) (m1 : Nat) (m2 : Nat) (m3 : Nat) (m4 : Nat) (m5 : Nat) (m6 : Nat) (wy : Int32) (sta : Int32) (nx : Int32) (sp : Int32) (wr : Int32) (st : Nat) (ce : Nat) (gi : Nat) (ln : Nat) (p1 : Nat) (p2 : Nat) (p4 : Nat) (p6 : Nat) (p7 : Nat) (p8 : Nat) (p10 : Nat) (p11 : Nat) (p12 : Nat) (p13 : Nat) (p14 : Nat) (p15 : Nat) (p16 : Nat) (cl : Nat) (gwo : Nat → Int32) (gce : Nat → Int32) (fcd : Nat → Int32) (en : Nat) (F : Nat × (Nat → Int32)) (h1 : 0 < ln) (h2 : ln ≤ 16) (hcl : cl ≤ 1000) (hcd : ∀ i, i < cl → fcd i &&& 15 = 1 → vp_in (fcd i >>> ((4 : Int32) &&& 31)) 6) (hen : en ≤ cl)
    (kk216 : ∀ (n : Nat) (i : Nat) (tp : Nat) (sk : Nat → Int32) (H : Heap) (locs : List Loc) (ls : Array Slot), ((tp, sk) = F) → (tp ≤ 32) → va_P D vwCl [(h0, .inr (1, [.ref pg, .ref m1, .ref m2, .ref m3, .ref m4, .ref m5, .ref m6, .int (wy), .int (sta), .int (nx), .int (sp), .int (wr)])), (m3, .inl (ak 0, 16, .inl (gwo))), (m4, .inl (ak 0, 6, .inl (gce))), (m6, .inl (ak 0, 32, .inl (sk)))] H → va_D A [(h0, .inr (1, [.ref pg, .ref m1, .ref m2, .ref m3, .ref m4, .ref m5, .ref m6, .int (wy), .int (sta), .int (nx), .int (sp), .int (wr)])), (m3, .inl (ak 0, 16, .inl (gwo))), (m4, .inl (ak 0, 6, .inl (gce))), (m6, .inl (ak 0, 32, .inl (sk)))] → va_S A s.heap H locs → lv_has ls 8 [(3, .int (nI tp)), (0, .ref h0)] → W p l e R s m args below meth c H locs cells slots Q (F0 m 216 ls []))
    : ∀ (n_ : Nat) (n : Nat) (i : Nat) (tp : Nat) (sk : Nat → Int32) (H : Heap) (locs : List Loc) (ls : Array Slot), (i + n = en ∨ n = 0 ∧ en ≤ i) → (i ≤ 6000) → (tp ≤ 32) → (rkN gce gwo ln fcd n i tp sk = F) → (n < n_) → va_P D vwCl [(h0, .inr (1, [.ref pg, .ref m1, .ref m2, .ref m3, .ref m4, .ref m5, .ref m6, .int (wy), .int (sta), .int (nx), .int (sp), .int (wr)])), (m3, .inl (ak 0, 16, .inl (gwo))), (m4, .inl (ak 0, 6, .inl (gce))), (m6, .inl (ak 0, 32, .inl (sk)))] H → va_D A [(h0, .inr (1, [.ref pg, .ref m1, .ref m2, .ref m3, .ref m4, .ref m5, .ref m6, .int (wy), .int (sta), .int (nx), .int (sp), .int (wr)])), (m3, .inl (ak 0, 16, .inl (gwo))), (m4, .inl (ak 0, 6, .inl (gce))), (m6, .inl (ak 0, 32, .inl (sk)))] → va_S A s.heap H locs → lv_has ls 8 [(5, .int (nI i)), (4, .int (nI en)), (3, .int (nI tp)), (0, .ref h0)] → W p l e R s m args below meth c H locs cells slots Q (F0 m 23 ls []) := by
  have hCW : ∀ {H : Heap} {locs : List Loc}, va_S A s.heap H locs → va_P D vwCl [(pg, .inr (2, [.int (nI st), .ref p1, .ref p2, .int (nI ce), .ref p4, .int (nI gi), .ref p6, .ref p7, .ref p8, .int (nI ln), .ref p10, .ref p11, .ref p12, .ref p13, .ref p14, .ref p15, .ref p16])), (p16, .inl (ak 0, cl, .inl (fcd)))] H := fun hS => (hKT.kept hS.2.1).1
  intro n_
  induction n_ with
  | zero =>
    intro n i tp sk H locs ls hi hib htp hF hm
    exact absurd hm (Nat.not_lt_zero _)
  | succ n_ ih =>
    intro n i tp sk H locs ls hi hib htp hF hm hP hD hS hl
    refine lv_iload hx hb dX1_reckon_23 (lv_at hl 0 rfl) ?_
    refine lv_iload hx hb dX1_reckon_25 (lv_at hl 1 rfl) ?_
    refine lv_icmp_ge (tgt := 216) hx hb dX1_reckon_27 (by decide) (fun c_27 => ?_) (fun c_27 => ?_)
    · exact kk216 (n) (i) (tp) (sk) _ _ _ (by have h9 : n = 0 := (by have := (nI_leI (a := en) (b := i) (by omega) (by omega)).mp c_27; omega); subst h9; exact hF) (htp) (hP.sub [0, 1, 2, 3] rfl) (hD.sub [0, 1, 2, 3] (by decide) rfl) hS (lv_sub hl [2, 3] rfl)
    · have hie : i < en := Nat.lt_of_not_le (fun h => c_27 (nI_le h (by omega)))
      obtain ⟨n0, rfl⟩ : ∃ n0, n = n0 + 1 := ⟨n - 1, by omega⟩
      refine lv_aload_n hx hb dX1_reckon_30 rfl (lv_at hl 3 rfl) ?_
      refine va_get (D := D) (ci := 1) (v := .ref pg) (C := RX1) (T := TX1) (N := 12) hx hb hts (fun w h => List.mem_cons_of_mem _ (List.mem_append_left _ (List.mem_append_right _ h))) hown hE.1 hP 0 rfl rfl 0 (by decide) (hts (.fieldLink RX1 34 "WornLines$Machine" "programme" "LWornLines$Programme;") (by decide +kernel)) (fun _ h9 => h9) rfl dX1_reckon_31 ?_
      refine va_get (D := D) (ci := 2) (v := .ref p16) (C := RX2) (T := TX2) (N := 17) hx hb hts (fun w h => List.mem_cons_of_mem _ (List.mem_append_right _ h)) hown hE.1 (hCW hS) 0 rfl rfl 16 (by decide) (hts (.fieldLink RX1 138 "WornLines$Programme" "code" "[I") (by decide +kernel)) (fun _ h9 => h9) rfl dX1_reckon_34 ?_
      refine lv_iload hx hb dX1_reckon_37 (lv_at hl 0 rfl) ?_
      refine va_iald hx hb hE.1 (hCW hS) 1 0 rfl rfl (in_n (Nat.lt_of_lt_of_le hie hen) (by omega)) dX1_reckon_39 ?_
      refine W.eq (g2 := F0 m 40 ls (.int (fcd i) :: [])) (by rw [nI_clamp (by omega)]) ?_
      refine lv_bipush (v := 15) hx hb dX1_reckon_40 (by decide) ?_
      refine lv_iand hx hb dX1_reckon_42 ?_
      refine lv_istore (lv' := [(6, .int ((fcd i) &&& (15))), (5, .int (nI i)), (4, .int (nI en)), (3, .int (nI tp)), (0, .ref h0)]) hx hb dX1_reckon_43 hl (by decide) rfl (fun ls hl => ?_)
      refine lv_aload_n hx hb dX1_reckon_45 rfl (lv_at hl 4 rfl) ?_
      refine va_get (D := D) (ci := 1) (v := .ref pg) (C := RX1) (T := TX1) (N := 12) hx hb hts (fun w h => List.mem_cons_of_mem _ (List.mem_append_left _ (List.mem_append_right _ h))) hown hE.1 hP 0 rfl rfl 0 (by decide) (hts (.fieldLink RX1 34 "WornLines$Machine" "programme" "LWornLines$Programme;") (by decide +kernel)) (fun _ h9 => h9) rfl dX1_reckon_46 ?_
      refine va_get (D := D) (ci := 2) (v := .ref p16) (C := RX2) (T := TX2) (N := 17) hx hb hts (fun w h => List.mem_cons_of_mem _ (List.mem_append_right _ h)) hown hE.1 (hCW hS) 0 rfl rfl 16 (by decide) (hts (.fieldLink RX1 138 "WornLines$Programme" "code" "[I") (by decide +kernel)) (fun _ h9 => h9) rfl dX1_reckon_49 ?_
      refine lv_iload hx hb dX1_reckon_52 (lv_at hl 1 rfl) ?_
      refine va_iald hx hb hE.1 (hCW hS) 1 0 rfl rfl (in_n (Nat.lt_of_lt_of_le hie hen) (by omega)) dX1_reckon_54 ?_
      refine W.eq (g2 := F0 m 55 ls (.int (fcd i) :: [])) (by rw [nI_clamp (by omega)]) ?_
      refine lv_iconst (v := 4) hx hb dX1_reckon_55 (by decide) ?_
      refine lv_ishr hx hb dX1_reckon_56 ?_
      refine lv_topi (fun x_1 ex_1 => ?_)
      refine lv_istore (lv' := [(7, .int (x_1)), (6, .int ((fcd i) &&& (15))), (5, .int (nI i)), (4, .int (nI en)), (3, .int (nI tp)), (0, .ref h0)]) hx hb dX1_reckon_57 hl (by decide) rfl (fun ls hl => ?_)
      refine lv_iload hx hb dX1_reckon_59 (lv_at hl 1 rfl) ?_
      refine lv_iconst (v := 1) hx hb dX1_reckon_61 (by decide) ?_
      refine lv_icmp_gt (tgt := 100) hx hb dX1_reckon_62 (by decide) (fun c_62 => ?_) (fun c_62 => ?_)
      · have hn1 : ¬ (fcd i &&& 15 ≤ 1 ∧ tp < 32) := fun h => absurd h.1 (Int32.not_le.mpr c_62)
        refine lv_iload hx hb dX1_reckon_100 (lv_at hl 1 rfl) ?_
        refine lv_iconst (v := 2) hx hb dX1_reckon_102 (by decide) ?_
        refine lv_icmp_ne (tgt := 138) hx hb dX1_reckon_103 (by decide) (fun c_103 => ?_) (fun c_103 => ?_)
        · have hn2 : ¬ (fcd i &&& 15 = 2 ∧ 0 < tp) := fun h => c_103 h.1
          refine lv_iload hx hb dX1_reckon_138 (lv_at hl 1 rfl) ?_
          refine lv_iconst (v := 3) hx hb dX1_reckon_140 (by decide) ?_
          refine lv_icmp_ne (tgt := 175) hx hb dX1_reckon_141 (by decide) (fun c_141 => ?_) (fun c_141 => ?_)
          · have hn3 : ¬ (fcd i &&& 15 = 3 ∧ 0 < tp) := fun h => c_141 h.1
            refine lv_iload_n hx hb dX1_reckon_175 rfl (lv_at hl 4 rfl) ?_
            refine lv_iconst (v := 1) hx hb dX1_reckon_176 (by decide) ?_
            refine lv_icmp_le (tgt := 210) hx hb dX1_reckon_177 (by decide) (fun c_177 => ?_) (fun c_177 => ?_)
            · have h1n : ¬ 1 < tp := fun h => absurd c_177 (Int32.not_le.mpr (nI_lt (a := 1) h (by omega)))
              refine lv_iinc (v := (nI (i + 1))) (lv' := [(5, .int (nI (i + 1))), (7, .int (x_1)), (6, .int ((fcd i) &&& (15))), (4, .int (nI en)), (3, .int (nI tp)), (0, .ref h0)]) hx hb dX1_reckon_210 hl (k := 2) rfl (nI_1 i) (by decide) rfl (fun ls hl => ?_)
              refine lv_goto (tgt := 23) hx hb dX1_reckon_213 (by decide) ?_
              have hst : rkS gce gwo ln (fcd i) tp sk = (tp, sk) := (by unfold rkS; first | rw [if_pos ⟨Int32.not_lt.mp c_62, hlt32⟩, if_pos c_78, ← ex_1, nI_clamp (by omega)] | rw [if_pos ⟨Int32.not_lt.mp c_62, hlt32⟩, if_neg c_78, ← ex_1, nI_clamp (by omega)] | rw [if_neg hn1, if_pos ⟨c_103n, h0t⟩, nI_clamp (by omega), hwl] | rw [if_neg hn1, if_neg hn2, if_pos ⟨c_141n, h0t⟩, nI_clamp (by omega), if_pos c_163n] | rw [if_neg hn1, if_neg hn2, if_pos ⟨c_141n, h0t⟩, nI_clamp (by omega), if_neg c_163] | rw [if_neg hn1, if_neg hn2, if_neg hn3, if_pos h1t, nI_clamp (by omega), hjn] | rw [if_neg hn1, if_neg hn2, if_neg hn3, if_neg h1n])
              exact ih (n0) (i + 1) (tp) (sk) _ _ _ (by omega) (by omega) (by omega) (rkN_step hF hst) (by omega) (hP.sub [0, 1, 2, 3] rfl) (hD.sub [0, 1, 2, 3] (by decide) rfl) hS (lv_sub hl [0, 3, 4, 5] rfl)
            · have h1t : 1 < tp := Nat.lt_of_not_le (fun h => c_177 (nI_le (b := 1) h (by decide)))
              refine lv_iinc (v := (nI (tp - 1))) (lv' := [(3, .int (nI (tp - 1))), (7, .int (x_1)), (6, .int ((fcd i) &&& (15))), (5, .int (nI i)), (4, .int (nI en)), (0, .ref h0)]) hx hb dX1_reckon_180 hl (k := 4) rfl (by rw [show Int32.ofInt (-1) = -1 from rfl]; exact sb_m1 (by omega)) (by decide) rfl (fun ls hl => ?_)
              refine lv_aload_n hx hb dX1_reckon_183 rfl (lv_at hl 5 rfl) ?_
              refine va_get (D := D) (ci := 1) (v := .ref m6) (C := RX1) (T := TX1) (N := 12) hx hb hts (fun w h => List.mem_cons_of_mem _ (List.mem_append_left _ (List.mem_append_right _ h))) hown hE.1 hP 0 rfl rfl 6 (by decide) (hts (.fieldLink RX1 24 "WornLines$Machine" "stack" "[I") (by decide +kernel)) (fun _ h9 => h9) rfl dX1_reckon_184 ?_
              refine lv_iload_n hx hb dX1_reckon_187 rfl (lv_at hl 0 rfl) ?_
              refine lv_iconst (v := 1) hx hb dX1_reckon_188 (by decide) ?_
              refine lv_isub hx hb dX1_reckon_189 ?_
              refine W.eq (g2 := F0 m 190 ls (.int (nI (tp - 2)) :: .ref m6 :: [])) (by rw [show (1 : Int32) = nI 1 from rfl, pk_sub (by omega)]; rfl) ?_
              refine lv_iload hx hb dX1_reckon_190 (lv_at hl 2 rfl) ?_
              refine lv_aload_n hx hb dX1_reckon_192 rfl (lv_at hl 5 rfl) ?_
              refine va_get (D := D) (ci := 1) (v := .ref m6) (C := RX1) (T := TX1) (N := 12) hx hb hts (fun w h => List.mem_cons_of_mem _ (List.mem_append_left _ (List.mem_append_right _ h))) hown hE.1 hP 0 rfl rfl 6 (by decide) (hts (.fieldLink RX1 24 "WornLines$Machine" "stack" "[I") (by decide +kernel)) (fun _ h9 => h9) rfl dX1_reckon_193 ?_
              refine lv_iload_n hx hb dX1_reckon_196 rfl (lv_at hl 0 rfl) ?_
              refine lv_iconst (v := 1) hx hb dX1_reckon_197 (by decide) ?_
              refine lv_isub hx hb dX1_reckon_198 ?_
              refine W.eq (g2 := F0 m 199 ls (.int (nI (tp - 2)) :: .ref m6 :: .int ((fcd i) &&& (15)) :: .int (nI (tp - 2)) :: .ref m6 :: [])) (by rw [show (1 : Int32) = nI 1 from rfl, pk_sub (by omega)]; rfl) ?_
              refine va_iald hx hb hE.1 hP 3 0 rfl rfl (in_n (by omega) (by decide)) dX1_reckon_199 ?_
              refine W.eq (g2 := F0 m 200 ls (.int (sk (tp - 2)) :: .int ((fcd i) &&& (15)) :: .int (nI (tp - 2)) :: .ref m6 :: [])) (by rw [nI_clamp (by omega)]) ?_
              refine lv_aload_n hx hb dX1_reckon_200 rfl (lv_at hl 5 rfl) ?_
              refine va_get (D := D) (ci := 1) (v := .ref m6) (C := RX1) (T := TX1) (N := 12) hx hb hts (fun w h => List.mem_cons_of_mem _ (List.mem_append_left _ (List.mem_append_right _ h))) hown hE.1 hP 0 rfl rfl 6 (by decide) (hts (.fieldLink RX1 24 "WornLines$Machine" "stack" "[I") (by decide +kernel)) (fun _ h9 => h9) rfl dX1_reckon_201 ?_
              refine lv_iload_n hx hb dX1_reckon_204 rfl (lv_at hl 0 rfl) ?_
              refine va_iald hx hb hE.1 hP 3 0 rfl rfl (in_n (by omega) (by decide)) dX1_reckon_205 ?_
              refine W.eq (g2 := F0 m 206 ls (.int (sk (tp - 1)) :: .int (sk (tp - 2)) :: .int ((fcd i) &&& (15)) :: .int (nI (tp - 2)) :: .ref m6 :: [])) (by rw [nI_clamp (by omega)]) ?_
              refine kc_i (wc := []) (wr := [(h0, .inr (1, [.ref pg, .ref m1, .ref m2, .ref m3, .ref m4, .ref m5, .ref m6, .int (wy), .int (sta), .int (nx), .int (sp), .int (wr)])), (m3, .inl (ak 0, 16, .inl (gwo))), (m4, .inl (ak 0, 6, .inl (gce))), (m6, .inl (ak 0, 32, .inl (sk)))]) hP hD hS hA [] [0, 1, 2, 3] rfl rfl (by decide) (by decide) (va_runS (As := [.int ((fcd i) &&& (15)), .int (sk (tp - 2)), .int (sk (tp - 1))]) (rest := [.int (nI (tp - 2)), .ref m6]) ⟨hx, hb, hml, hown, hts⟩ (c_X1_joined l D ak ad _ ((fcd i) &&& (15)) (sk (tp - 2)) (sk (tp - 1)) ) (va_cwS 3 hts gX1_reckon_X1_joined rfl rfl rfl (by decide +kernel) ⟨Nat.le_trans (Nat.le_of_ble_eq_true rfl) hRf, Nat.le_trans (Nat.le_of_ble_eq_true rfl) hRl⟩) (kc_pre (As := [.int ((fcd i) &&& (15)), .int (sk (tp - 2)), .int (sk (tp - 1))]) (wc := []) hE hT hP hD hS hA [] (by decide) rfl rfl) rfl rfl hl.1 rfl (lv_room (Nat.le_of_ble_eq_true rfl)) dX1_reckon_206 ⟨hRc.1, hRc.2⟩) (fun r_3 u_1 H locs hw_3 hP hD hS => ?_)
              have hP : va_P D vwCl [(h0, .inr (1, [.ref pg, .ref m1, .ref m2, .ref m3, .ref m4, .ref m5, .ref m6, .int (wy), .int (sta), .int (nx), .int (sp), .int (wr)])), (m3, .inl (ak 0, 16, .inl (gwo))), (m4, .inl (ak 0, 6, .inl (gce))), (m6, .inl (ak 0, 32, .inl (sk)))] H := hP
              have hD : va_D A [(h0, .inr (1, [.ref pg, .ref m1, .ref m2, .ref m3, .ref m4, .ref m5, .ref m6, .int (wy), .int (sta), .int (nx), .int (sp), .int (wr)])), (m3, .inl (ak 0, 16, .inl (gwo))), (m4, .inl (ak 0, 6, .inl (gce))), (m6, .inl (ak 0, 32, .inl (sk)))] := hD
              have hjn := hw_3
              refine va_iast hx hb hE.1 hP hD hS 3 0 rfl rfl (in_n (by omega) (by decide)) dX1_reckon_209 (fun H locs hP hD hS => ?_)
              have hP : va_P D vwCl [(h0, .inr (1, [.ref pg, .ref m1, .ref m2, .ref m3, .ref m4, .ref m5, .ref m6, .int (wy), .int (sta), .int (nx), .int (sp), .int (wr)])), (m3, .inl (ak 0, 16, .inl (gwo))), (m4, .inl (ak 0, 6, .inl (gce))), (m6, .inl (ak 0, 32, .inl (upd (sk) ((nI (tp - 2) : Int32).toNatClampNeg) (r_3))))] H := hP
              have hD : va_D A [(h0, .inr (1, [.ref pg, .ref m1, .ref m2, .ref m3, .ref m4, .ref m5, .ref m6, .int (wy), .int (sta), .int (nx), .int (sp), .int (wr)])), (m3, .inl (ak 0, 16, .inl (gwo))), (m4, .inl (ak 0, 6, .inl (gce))), (m6, .inl (ak 0, 32, .inl (upd (sk) ((nI (tp - 2) : Int32).toNatClampNeg) (r_3))))] := hD
              refine lv_iinc (v := (nI (i + 1))) (lv' := [(5, .int (nI (i + 1))), (3, .int (nI (tp - 1))), (7, .int (x_1)), (6, .int ((fcd i) &&& (15))), (4, .int (nI en)), (0, .ref h0)]) hx hb dX1_reckon_210 hl (k := 3) rfl (nI_1 i) (by decide) rfl (fun ls hl => ?_)
              refine lv_goto (tgt := 23) hx hb dX1_reckon_213 (by decide) ?_
              have hst : rkS gce gwo ln (fcd i) tp sk = (tp - 1, upd (sk) ((nI (tp - 2) : Int32).toNatClampNeg) (r_3)) := (by unfold rkS; first | rw [if_pos ⟨Int32.not_lt.mp c_62, hlt32⟩, if_pos c_78, ← ex_1, nI_clamp (by omega)] | rw [if_pos ⟨Int32.not_lt.mp c_62, hlt32⟩, if_neg c_78, ← ex_1, nI_clamp (by omega)] | rw [if_neg hn1, if_pos ⟨c_103n, h0t⟩, nI_clamp (by omega), hwl] | rw [if_neg hn1, if_neg hn2, if_pos ⟨c_141n, h0t⟩, nI_clamp (by omega), if_pos c_163n] | rw [if_neg hn1, if_neg hn2, if_pos ⟨c_141n, h0t⟩, nI_clamp (by omega), if_neg c_163] | rw [if_neg hn1, if_neg hn2, if_neg hn3, if_pos h1t, nI_clamp (by omega), hjn] | rw [if_neg hn1, if_neg hn2, if_neg hn3, if_neg h1n])
              exact ih (n0) (i + 1) (tp - 1) (upd (sk) ((nI (tp - 2) : Int32).toNatClampNeg) (r_3)) _ _ _ (by omega) (by omega) (by omega) (rkN_step hF hst) (by omega) (hP.sub [0, 1, 2, 3] rfl) (hD.sub [0, 1, 2, 3] (by decide) rfl) hS (lv_sub hl [0, 4, 1, 5] rfl)
          · have c_141n : fcd i &&& 15 = 3 := Classical.not_not.mp c_141
            refine lv_iload_n hx hb dX1_reckon_144 rfl (lv_at hl 4 rfl) ?_
            refine lv_if_le (tgt := 175) hx hb dX1_reckon_145 (by decide) (fun c_145 => ?_) (fun c_145 => ?_)
            · have hn3 : ¬ (fcd i &&& 15 = 3 ∧ 0 < tp) := fun h => absurd c_145 (nI_nle h.2 (by omega))
              refine lv_iload_n hx hb dX1_reckon_175 rfl (lv_at hl 4 rfl) ?_
              refine lv_iconst (v := 1) hx hb dX1_reckon_176 (by decide) ?_
              refine lv_icmp_le (tgt := 210) hx hb dX1_reckon_177 (by decide) (fun c_177_4 => ?_) (fun c_177_4 => ?_)
              · have h1n : ¬ 1 < tp := fun h => absurd c_177_4 (Int32.not_le.mpr (nI_lt (a := 1) h (by omega)))
                refine lv_iinc (v := (nI (i + 1))) (lv' := [(5, .int (nI (i + 1))), (7, .int (x_1)), (6, .int ((fcd i) &&& (15))), (4, .int (nI en)), (3, .int (nI tp)), (0, .ref h0)]) hx hb dX1_reckon_210 hl (k := 2) rfl (nI_1 i) (by decide) rfl (fun ls hl => ?_)
                refine lv_goto (tgt := 23) hx hb dX1_reckon_213 (by decide) ?_
                have hst : rkS gce gwo ln (fcd i) tp sk = (tp, sk) := (by unfold rkS; first | rw [if_pos ⟨Int32.not_lt.mp c_62, hlt32⟩, if_pos c_78, ← ex_1, nI_clamp (by omega)] | rw [if_pos ⟨Int32.not_lt.mp c_62, hlt32⟩, if_neg c_78, ← ex_1, nI_clamp (by omega)] | rw [if_neg hn1, if_pos ⟨c_103n, h0t⟩, nI_clamp (by omega), hwl] | rw [if_neg hn1, if_neg hn2, if_pos ⟨c_141n, h0t⟩, nI_clamp (by omega), if_pos c_163n] | rw [if_neg hn1, if_neg hn2, if_pos ⟨c_141n, h0t⟩, nI_clamp (by omega), if_neg c_163] | rw [if_neg hn1, if_neg hn2, if_neg hn3, if_pos h1t, nI_clamp (by omega), hjn] | rw [if_neg hn1, if_neg hn2, if_neg hn3, if_neg h1n])
                exact ih (n0) (i + 1) (tp) (sk) _ _ _ (by omega) (by omega) (by omega) (rkN_step hF hst) (by omega) (hP.sub [0, 1, 2, 3] rfl) (hD.sub [0, 1, 2, 3] (by decide) rfl) hS (lv_sub hl [0, 3, 4, 5] rfl)
              · have h1t : 1 < tp := Nat.lt_of_not_le (fun h => c_177_4 (nI_le (b := 1) h (by decide)))
                refine lv_iinc (v := (nI (tp - 1))) (lv' := [(3, .int (nI (tp - 1))), (7, .int (x_1)), (6, .int ((fcd i) &&& (15))), (5, .int (nI i)), (4, .int (nI en)), (0, .ref h0)]) hx hb dX1_reckon_180 hl (k := 4) rfl (by rw [show Int32.ofInt (-1) = -1 from rfl]; exact sb_m1 (by omega)) (by decide) rfl (fun ls hl => ?_)
                refine lv_aload_n hx hb dX1_reckon_183 rfl (lv_at hl 5 rfl) ?_
                refine va_get (D := D) (ci := 1) (v := .ref m6) (C := RX1) (T := TX1) (N := 12) hx hb hts (fun w h => List.mem_cons_of_mem _ (List.mem_append_left _ (List.mem_append_right _ h))) hown hE.1 hP 0 rfl rfl 6 (by decide) (hts (.fieldLink RX1 24 "WornLines$Machine" "stack" "[I") (by decide +kernel)) (fun _ h9 => h9) rfl dX1_reckon_184 ?_
                refine lv_iload_n hx hb dX1_reckon_187 rfl (lv_at hl 0 rfl) ?_
                refine lv_iconst (v := 1) hx hb dX1_reckon_188 (by decide) ?_
                refine lv_isub hx hb dX1_reckon_189 ?_
                refine W.eq (g2 := F0 m 190 ls (.int (nI (tp - 2)) :: .ref m6 :: [])) (by rw [show (1 : Int32) = nI 1 from rfl, pk_sub (by omega)]; rfl) ?_
                refine lv_iload hx hb dX1_reckon_190 (lv_at hl 2 rfl) ?_
                refine lv_aload_n hx hb dX1_reckon_192 rfl (lv_at hl 5 rfl) ?_
                refine va_get (D := D) (ci := 1) (v := .ref m6) (C := RX1) (T := TX1) (N := 12) hx hb hts (fun w h => List.mem_cons_of_mem _ (List.mem_append_left _ (List.mem_append_right _ h))) hown hE.1 hP 0 rfl rfl 6 (by decide) (hts (.fieldLink RX1 24 "WornLines$Machine" "stack" "[I") (by decide +kernel)) (fun _ h9 => h9) rfl dX1_reckon_193 ?_
                refine lv_iload_n hx hb dX1_reckon_196 rfl (lv_at hl 0 rfl) ?_
                refine lv_iconst (v := 1) hx hb dX1_reckon_197 (by decide) ?_
                refine lv_isub hx hb dX1_reckon_198 ?_
                refine W.eq (g2 := F0 m 199 ls (.int (nI (tp - 2)) :: .ref m6 :: .int ((fcd i) &&& (15)) :: .int (nI (tp - 2)) :: .ref m6 :: [])) (by rw [show (1 : Int32) = nI 1 from rfl, pk_sub (by omega)]; rfl) ?_
                refine va_iald hx hb hE.1 hP 3 0 rfl rfl (in_n (by omega) (by decide)) dX1_reckon_199 ?_
                refine W.eq (g2 := F0 m 200 ls (.int (sk (tp - 2)) :: .int ((fcd i) &&& (15)) :: .int (nI (tp - 2)) :: .ref m6 :: [])) (by rw [nI_clamp (by omega)]) ?_
                refine lv_aload_n hx hb dX1_reckon_200 rfl (lv_at hl 5 rfl) ?_
                refine va_get (D := D) (ci := 1) (v := .ref m6) (C := RX1) (T := TX1) (N := 12) hx hb hts (fun w h => List.mem_cons_of_mem _ (List.mem_append_left _ (List.mem_append_right _ h))) hown hE.1 hP 0 rfl rfl 6 (by decide) (hts (.fieldLink RX1 24 "WornLines$Machine" "stack" "[I") (by decide +kernel)) (fun _ h9 => h9) rfl dX1_reckon_201 ?_
                refine lv_iload_n hx hb dX1_reckon_204 rfl (lv_at hl 0 rfl) ?_
                refine va_iald hx hb hE.1 hP 3 0 rfl rfl (in_n (by omega) (by decide)) dX1_reckon_205 ?_
                refine W.eq (g2 := F0 m 206 ls (.int (sk (tp - 1)) :: .int (sk (tp - 2)) :: .int ((fcd i) &&& (15)) :: .int (nI (tp - 2)) :: .ref m6 :: [])) (by rw [nI_clamp (by omega)]) ?_
                refine kc_i (wc := []) (wr := [(h0, .inr (1, [.ref pg, .ref m1, .ref m2, .ref m3, .ref m4, .ref m5, .ref m6, .int (wy), .int (sta), .int (nx), .int (sp), .int (wr)])), (m3, .inl (ak 0, 16, .inl (gwo))), (m4, .inl (ak 0, 6, .inl (gce))), (m6, .inl (ak 0, 32, .inl (sk)))]) hP hD hS hA [] [0, 1, 2, 3] rfl rfl (by decide) (by decide) (va_runS (As := [.int ((fcd i) &&& (15)), .int (sk (tp - 2)), .int (sk (tp - 1))]) (rest := [.int (nI (tp - 2)), .ref m6]) ⟨hx, hb, hml, hown, hts⟩ (c_X1_joined l D ak ad _ ((fcd i) &&& (15)) (sk (tp - 2)) (sk (tp - 1)) ) (va_cwS 3 hts gX1_reckon_X1_joined rfl rfl rfl (by decide +kernel) ⟨Nat.le_trans (Nat.le_of_ble_eq_true rfl) hRf, Nat.le_trans (Nat.le_of_ble_eq_true rfl) hRl⟩) (kc_pre (As := [.int ((fcd i) &&& (15)), .int (sk (tp - 2)), .int (sk (tp - 1))]) (wc := []) hE hT hP hD hS hA [] (by decide) rfl rfl) rfl rfl hl.1 rfl (lv_room (Nat.le_of_ble_eq_true rfl)) dX1_reckon_206 ⟨hRc.1, hRc.2⟩) (fun r_6 u_4 H locs hw_6 hP hD hS => ?_)
                have hP : va_P D vwCl [(h0, .inr (1, [.ref pg, .ref m1, .ref m2, .ref m3, .ref m4, .ref m5, .ref m6, .int (wy), .int (sta), .int (nx), .int (sp), .int (wr)])), (m3, .inl (ak 0, 16, .inl (gwo))), (m4, .inl (ak 0, 6, .inl (gce))), (m6, .inl (ak 0, 32, .inl (sk)))] H := hP
                have hD : va_D A [(h0, .inr (1, [.ref pg, .ref m1, .ref m2, .ref m3, .ref m4, .ref m5, .ref m6, .int (wy), .int (sta), .int (nx), .int (sp), .int (wr)])), (m3, .inl (ak 0, 16, .inl (gwo))), (m4, .inl (ak 0, 6, .inl (gce))), (m6, .inl (ak 0, 32, .inl (sk)))] := hD
                have hjn := hw_6
                refine va_iast hx hb hE.1 hP hD hS 3 0 rfl rfl (in_n (by omega) (by decide)) dX1_reckon_209 (fun H locs hP hD hS => ?_)
                have hP : va_P D vwCl [(h0, .inr (1, [.ref pg, .ref m1, .ref m2, .ref m3, .ref m4, .ref m5, .ref m6, .int (wy), .int (sta), .int (nx), .int (sp), .int (wr)])), (m3, .inl (ak 0, 16, .inl (gwo))), (m4, .inl (ak 0, 6, .inl (gce))), (m6, .inl (ak 0, 32, .inl (upd (sk) ((nI (tp - 2) : Int32).toNatClampNeg) (r_6))))] H := hP
                have hD : va_D A [(h0, .inr (1, [.ref pg, .ref m1, .ref m2, .ref m3, .ref m4, .ref m5, .ref m6, .int (wy), .int (sta), .int (nx), .int (sp), .int (wr)])), (m3, .inl (ak 0, 16, .inl (gwo))), (m4, .inl (ak 0, 6, .inl (gce))), (m6, .inl (ak 0, 32, .inl (upd (sk) ((nI (tp - 2) : Int32).toNatClampNeg) (r_6))))] := hD
                refine lv_iinc (v := (nI (i + 1))) (lv' := [(5, .int (nI (i + 1))), (3, .int (nI (tp - 1))), (7, .int (x_1)), (6, .int ((fcd i) &&& (15))), (4, .int (nI en)), (0, .ref h0)]) hx hb dX1_reckon_210 hl (k := 3) rfl (nI_1 i) (by decide) rfl (fun ls hl => ?_)
                refine lv_goto (tgt := 23) hx hb dX1_reckon_213 (by decide) ?_
                have hst : rkS gce gwo ln (fcd i) tp sk = (tp - 1, upd (sk) ((nI (tp - 2) : Int32).toNatClampNeg) (r_6)) := (by unfold rkS; first | rw [if_pos ⟨Int32.not_lt.mp c_62, hlt32⟩, if_pos c_78, ← ex_1, nI_clamp (by omega)] | rw [if_pos ⟨Int32.not_lt.mp c_62, hlt32⟩, if_neg c_78, ← ex_1, nI_clamp (by omega)] | rw [if_neg hn1, if_pos ⟨c_103n, h0t⟩, nI_clamp (by omega), hwl] | rw [if_neg hn1, if_neg hn2, if_pos ⟨c_141n, h0t⟩, nI_clamp (by omega), if_pos c_163n] | rw [if_neg hn1, if_neg hn2, if_pos ⟨c_141n, h0t⟩, nI_clamp (by omega), if_neg c_163] | rw [if_neg hn1, if_neg hn2, if_neg hn3, if_pos h1t, nI_clamp (by omega), hjn] | rw [if_neg hn1, if_neg hn2, if_neg hn3, if_neg h1n])
                exact ih (n0) (i + 1) (tp - 1) (upd (sk) ((nI (tp - 2) : Int32).toNatClampNeg) (r_6)) _ _ _ (by omega) (by omega) (by omega) (rkN_step hF hst) (by omega) (hP.sub [0, 1, 2, 3] rfl) (hD.sub [0, 1, 2, 3] (by decide) rfl) hS (lv_sub hl [0, 4, 1, 5] rfl)
            · have h0t : 0 < tp := Nat.pos_of_ne_zero (fun h => c_145 (by rw [h]; decide))
              refine lv_aload_n hx hb dX1_reckon_148 rfl (lv_at hl 5 rfl) ?_
              refine va_get (D := D) (ci := 1) (v := .ref m6) (C := RX1) (T := TX1) (N := 12) hx hb hts (fun w h => List.mem_cons_of_mem _ (List.mem_append_left _ (List.mem_append_right _ h))) hown hE.1 hP 0 rfl rfl 6 (by decide) (hts (.fieldLink RX1 24 "WornLines$Machine" "stack" "[I") (by decide +kernel)) (fun _ h9 => h9) rfl dX1_reckon_149 ?_
              refine lv_iload_n hx hb dX1_reckon_152 rfl (lv_at hl 4 rfl) ?_
              refine lv_iconst (v := 1) hx hb dX1_reckon_153 (by decide) ?_
              refine lv_isub hx hb dX1_reckon_154 ?_
              refine W.eq (g2 := F0 m 155 ls (.int (nI (tp - 1)) :: .ref m6 :: [])) (by rw [show (1 : Int32) = nI 1 from rfl, pk_sub (by omega)]) ?_
              refine lv_aload_n hx hb dX1_reckon_155 rfl (lv_at hl 5 rfl) ?_
              refine va_get (D := D) (ci := 1) (v := .ref m6) (C := RX1) (T := TX1) (N := 12) hx hb hts (fun w h => List.mem_cons_of_mem _ (List.mem_append_left _ (List.mem_append_right _ h))) hown hE.1 hP 0 rfl rfl 6 (by decide) (hts (.fieldLink RX1 24 "WornLines$Machine" "stack" "[I") (by decide +kernel)) (fun _ h9 => h9) rfl dX1_reckon_156 ?_
              refine lv_iload_n hx hb dX1_reckon_159 rfl (lv_at hl 4 rfl) ?_
              refine lv_iconst (v := 1) hx hb dX1_reckon_160 (by decide) ?_
              refine lv_isub hx hb dX1_reckon_161 ?_
              refine W.eq (g2 := F0 m 162 ls (.int (nI (tp - 1)) :: .ref m6 :: .int (nI (tp - 1)) :: .ref m6 :: [])) (by rw [show (1 : Int32) = nI 1 from rfl, pk_sub (by omega)]) ?_
              refine va_iald hx hb hE.1 hP 3 0 rfl rfl (in_n (by omega) (by decide)) dX1_reckon_162 ?_
              refine W.eq (g2 := F0 m 163 ls (.int (sk (tp - 1)) :: .int (nI (tp - 1)) :: .ref m6 :: [])) (by rw [nI_clamp (by omega)]) ?_
              refine lv_if_ne (tgt := 170) hx hb dX1_reckon_163 (by decide) (fun c_163 => ?_) (fun c_163 => ?_)
              · refine lv_iconst (v := 0) hx hb dX1_reckon_170 (by decide) ?_
                refine va_iast hx hb hE.1 hP hD hS 3 0 rfl rfl (in_n (by omega) (by decide)) dX1_reckon_171 (fun H locs hP hD hS => ?_)
                have hP : va_P D vwCl [(h0, .inr (1, [.ref pg, .ref m1, .ref m2, .ref m3, .ref m4, .ref m5, .ref m6, .int (wy), .int (sta), .int (nx), .int (sp), .int (wr)])), (m3, .inl (ak 0, 16, .inl (gwo))), (m4, .inl (ak 0, 6, .inl (gce))), (m6, .inl (ak 0, 32, .inl (upd (sk) ((nI (tp - 1) : Int32).toNatClampNeg) (0))))] H := hP
                have hD : va_D A [(h0, .inr (1, [.ref pg, .ref m1, .ref m2, .ref m3, .ref m4, .ref m5, .ref m6, .int (wy), .int (sta), .int (nx), .int (sp), .int (wr)])), (m3, .inl (ak 0, 16, .inl (gwo))), (m4, .inl (ak 0, 6, .inl (gce))), (m6, .inl (ak 0, 32, .inl (upd (sk) ((nI (tp - 1) : Int32).toNatClampNeg) (0))))] := hD
                refine lv_goto (tgt := 210) hx hb dX1_reckon_172 (by decide) ?_
                refine lv_iinc (v := (nI (i + 1))) (lv' := [(5, .int (nI (i + 1))), (7, .int (x_1)), (6, .int ((fcd i) &&& (15))), (4, .int (nI en)), (3, .int (nI tp)), (0, .ref h0)]) hx hb dX1_reckon_210 hl (k := 2) rfl (nI_1 i) (by decide) rfl (fun ls hl => ?_)
                refine lv_goto (tgt := 23) hx hb dX1_reckon_213 (by decide) ?_
                have hst : rkS gce gwo ln (fcd i) tp sk = (tp, upd (sk) ((nI (tp - 1) : Int32).toNatClampNeg) (0)) := (by unfold rkS; first | rw [if_pos ⟨Int32.not_lt.mp c_62, hlt32⟩, if_pos c_78, ← ex_1, nI_clamp (by omega)] | rw [if_pos ⟨Int32.not_lt.mp c_62, hlt32⟩, if_neg c_78, ← ex_1, nI_clamp (by omega)] | rw [if_neg hn1, if_pos ⟨c_103n, h0t⟩, nI_clamp (by omega), hwl] | rw [if_neg hn1, if_neg hn2, if_pos ⟨c_141n, h0t⟩, nI_clamp (by omega), if_pos c_163n] | rw [if_neg hn1, if_neg hn2, if_pos ⟨c_141n, h0t⟩, nI_clamp (by omega), if_neg c_163] | rw [if_neg hn1, if_neg hn2, if_neg hn3, if_pos h1t, nI_clamp (by omega), hjn] | rw [if_neg hn1, if_neg hn2, if_neg hn3, if_neg h1n])
                exact ih (n0) (i + 1) (tp) (upd (sk) ((nI (tp - 1) : Int32).toNatClampNeg) (0)) _ _ _ (by omega) (by omega) (by omega) (rkN_step hF hst) (by omega) (hP.sub [0, 1, 2, 3] rfl) (hD.sub [0, 1, 2, 3] (by decide) rfl) hS (lv_sub hl [0, 3, 4, 5] rfl)
              · have c_163n : sk (tp - 1) = 0 := Classical.not_not.mp c_163
                refine lv_iconst (v := 1) hx hb dX1_reckon_166 (by decide) ?_
                refine lv_goto (tgt := 171) hx hb dX1_reckon_167 (by decide) ?_
                refine va_iast hx hb hE.1 hP hD hS 3 0 rfl rfl (in_n (by omega) (by decide)) dX1_reckon_171 (fun H locs hP hD hS => ?_)
                have hP : va_P D vwCl [(h0, .inr (1, [.ref pg, .ref m1, .ref m2, .ref m3, .ref m4, .ref m5, .ref m6, .int (wy), .int (sta), .int (nx), .int (sp), .int (wr)])), (m3, .inl (ak 0, 16, .inl (gwo))), (m4, .inl (ak 0, 6, .inl (gce))), (m6, .inl (ak 0, 32, .inl (upd (sk) ((nI (tp - 1) : Int32).toNatClampNeg) (1))))] H := hP
                have hD : va_D A [(h0, .inr (1, [.ref pg, .ref m1, .ref m2, .ref m3, .ref m4, .ref m5, .ref m6, .int (wy), .int (sta), .int (nx), .int (sp), .int (wr)])), (m3, .inl (ak 0, 16, .inl (gwo))), (m4, .inl (ak 0, 6, .inl (gce))), (m6, .inl (ak 0, 32, .inl (upd (sk) ((nI (tp - 1) : Int32).toNatClampNeg) (1))))] := hD
                refine lv_goto (tgt := 210) hx hb dX1_reckon_172 (by decide) ?_
                refine lv_iinc (v := (nI (i + 1))) (lv' := [(5, .int (nI (i + 1))), (7, .int (x_1)), (6, .int ((fcd i) &&& (15))), (4, .int (nI en)), (3, .int (nI tp)), (0, .ref h0)]) hx hb dX1_reckon_210 hl (k := 2) rfl (nI_1 i) (by decide) rfl (fun ls hl => ?_)
                refine lv_goto (tgt := 23) hx hb dX1_reckon_213 (by decide) ?_
                have hst : rkS gce gwo ln (fcd i) tp sk = (tp, upd (sk) ((nI (tp - 1) : Int32).toNatClampNeg) (1)) := (by unfold rkS; first | rw [if_pos ⟨Int32.not_lt.mp c_62, hlt32⟩, if_pos c_78, ← ex_1, nI_clamp (by omega)] | rw [if_pos ⟨Int32.not_lt.mp c_62, hlt32⟩, if_neg c_78, ← ex_1, nI_clamp (by omega)] | rw [if_neg hn1, if_pos ⟨c_103n, h0t⟩, nI_clamp (by omega), hwl] | rw [if_neg hn1, if_neg hn2, if_pos ⟨c_141n, h0t⟩, nI_clamp (by omega), if_pos c_163n] | rw [if_neg hn1, if_neg hn2, if_pos ⟨c_141n, h0t⟩, nI_clamp (by omega), if_neg c_163] | rw [if_neg hn1, if_neg hn2, if_neg hn3, if_pos h1t, nI_clamp (by omega), hjn] | rw [if_neg hn1, if_neg hn2, if_neg hn3, if_neg h1n])
                exact ih (n0) (i + 1) (tp) (upd (sk) ((nI (tp - 1) : Int32).toNatClampNeg) (1)) _ _ _ (by omega) (by omega) (by omega) (rkN_step hF hst) (by omega) (hP.sub [0, 1, 2, 3] rfl) (hD.sub [0, 1, 2, 3] (by decide) rfl) hS (lv_sub hl [0, 3, 4, 5] rfl)
        · have c_103n : fcd i &&& 15 = 2 := Classical.not_not.mp c_103
          refine lv_iload_n hx hb dX1_reckon_106 rfl (lv_at hl 4 rfl) ?_
          refine lv_if_le (tgt := 138) hx hb dX1_reckon_107 (by decide) (fun c_107 => ?_) (fun c_107 => ?_)
          · have hn2 : ¬ (fcd i &&& 15 = 2 ∧ 0 < tp) := fun h => absurd c_107 (nI_nle h.2 (by omega))
            refine lv_iload hx hb dX1_reckon_138 (lv_at hl 1 rfl) ?_
            refine lv_iconst (v := 3) hx hb dX1_reckon_140 (by decide) ?_
            refine lv_icmp_ne (tgt := 175) hx hb dX1_reckon_141 (by decide) (fun c_141_7 => ?_) (fun c_141_7 => ?_)
            · have hn3 : ¬ (fcd i &&& 15 = 3 ∧ 0 < tp) := fun h => c_141_7 h.1
              refine lv_iload_n hx hb dX1_reckon_175 rfl (lv_at hl 4 rfl) ?_
              refine lv_iconst (v := 1) hx hb dX1_reckon_176 (by decide) ?_
              refine lv_icmp_le (tgt := 210) hx hb dX1_reckon_177 (by decide) (fun c_177_8 => ?_) (fun c_177_8 => ?_)
              · have h1n : ¬ 1 < tp := fun h => absurd c_177_8 (Int32.not_le.mpr (nI_lt (a := 1) h (by omega)))
                refine lv_iinc (v := (nI (i + 1))) (lv' := [(5, .int (nI (i + 1))), (7, .int (x_1)), (6, .int ((fcd i) &&& (15))), (4, .int (nI en)), (3, .int (nI tp)), (0, .ref h0)]) hx hb dX1_reckon_210 hl (k := 2) rfl (nI_1 i) (by decide) rfl (fun ls hl => ?_)
                refine lv_goto (tgt := 23) hx hb dX1_reckon_213 (by decide) ?_
                have hst : rkS gce gwo ln (fcd i) tp sk = (tp, sk) := (by unfold rkS; first | rw [if_pos ⟨Int32.not_lt.mp c_62, hlt32⟩, if_pos c_78, ← ex_1, nI_clamp (by omega)] | rw [if_pos ⟨Int32.not_lt.mp c_62, hlt32⟩, if_neg c_78, ← ex_1, nI_clamp (by omega)] | rw [if_neg hn1, if_pos ⟨c_103n, h0t⟩, nI_clamp (by omega), hwl] | rw [if_neg hn1, if_neg hn2, if_pos ⟨c_141n, h0t⟩, nI_clamp (by omega), if_pos c_163n] | rw [if_neg hn1, if_neg hn2, if_pos ⟨c_141n, h0t⟩, nI_clamp (by omega), if_neg c_163] | rw [if_neg hn1, if_neg hn2, if_neg hn3, if_pos h1t, nI_clamp (by omega), hjn] | rw [if_neg hn1, if_neg hn2, if_neg hn3, if_neg h1n])
                exact ih (n0) (i + 1) (tp) (sk) _ _ _ (by omega) (by omega) (by omega) (rkN_step hF hst) (by omega) (hP.sub [0, 1, 2, 3] rfl) (hD.sub [0, 1, 2, 3] (by decide) rfl) hS (lv_sub hl [0, 3, 4, 5] rfl)
              · have h1t : 1 < tp := Nat.lt_of_not_le (fun h => c_177_8 (nI_le (b := 1) h (by decide)))
                refine lv_iinc (v := (nI (tp - 1))) (lv' := [(3, .int (nI (tp - 1))), (7, .int (x_1)), (6, .int ((fcd i) &&& (15))), (5, .int (nI i)), (4, .int (nI en)), (0, .ref h0)]) hx hb dX1_reckon_180 hl (k := 4) rfl (by rw [show Int32.ofInt (-1) = -1 from rfl]; exact sb_m1 (by omega)) (by decide) rfl (fun ls hl => ?_)
                refine lv_aload_n hx hb dX1_reckon_183 rfl (lv_at hl 5 rfl) ?_
                refine va_get (D := D) (ci := 1) (v := .ref m6) (C := RX1) (T := TX1) (N := 12) hx hb hts (fun w h => List.mem_cons_of_mem _ (List.mem_append_left _ (List.mem_append_right _ h))) hown hE.1 hP 0 rfl rfl 6 (by decide) (hts (.fieldLink RX1 24 "WornLines$Machine" "stack" "[I") (by decide +kernel)) (fun _ h9 => h9) rfl dX1_reckon_184 ?_
                refine lv_iload_n hx hb dX1_reckon_187 rfl (lv_at hl 0 rfl) ?_
                refine lv_iconst (v := 1) hx hb dX1_reckon_188 (by decide) ?_
                refine lv_isub hx hb dX1_reckon_189 ?_
                refine W.eq (g2 := F0 m 190 ls (.int (nI (tp - 2)) :: .ref m6 :: [])) (by rw [show (1 : Int32) = nI 1 from rfl, pk_sub (by omega)]; rfl) ?_
                refine lv_iload hx hb dX1_reckon_190 (lv_at hl 2 rfl) ?_
                refine lv_aload_n hx hb dX1_reckon_192 rfl (lv_at hl 5 rfl) ?_
                refine va_get (D := D) (ci := 1) (v := .ref m6) (C := RX1) (T := TX1) (N := 12) hx hb hts (fun w h => List.mem_cons_of_mem _ (List.mem_append_left _ (List.mem_append_right _ h))) hown hE.1 hP 0 rfl rfl 6 (by decide) (hts (.fieldLink RX1 24 "WornLines$Machine" "stack" "[I") (by decide +kernel)) (fun _ h9 => h9) rfl dX1_reckon_193 ?_
                refine lv_iload_n hx hb dX1_reckon_196 rfl (lv_at hl 0 rfl) ?_
                refine lv_iconst (v := 1) hx hb dX1_reckon_197 (by decide) ?_
                refine lv_isub hx hb dX1_reckon_198 ?_
                refine W.eq (g2 := F0 m 199 ls (.int (nI (tp - 2)) :: .ref m6 :: .int ((fcd i) &&& (15)) :: .int (nI (tp - 2)) :: .ref m6 :: [])) (by rw [show (1 : Int32) = nI 1 from rfl, pk_sub (by omega)]; rfl) ?_
                refine va_iald hx hb hE.1 hP 3 0 rfl rfl (in_n (by omega) (by decide)) dX1_reckon_199 ?_
                refine W.eq (g2 := F0 m 200 ls (.int (sk (tp - 2)) :: .int ((fcd i) &&& (15)) :: .int (nI (tp - 2)) :: .ref m6 :: [])) (by rw [nI_clamp (by omega)]) ?_
                refine lv_aload_n hx hb dX1_reckon_200 rfl (lv_at hl 5 rfl) ?_
                refine va_get (D := D) (ci := 1) (v := .ref m6) (C := RX1) (T := TX1) (N := 12) hx hb hts (fun w h => List.mem_cons_of_mem _ (List.mem_append_left _ (List.mem_append_right _ h))) hown hE.1 hP 0 rfl rfl 6 (by decide) (hts (.fieldLink RX1 24 "WornLines$Machine" "stack" "[I") (by decide +kernel)) (fun _ h9 => h9) rfl dX1_reckon_201 ?_
                refine lv_iload_n hx hb dX1_reckon_204 rfl (lv_at hl 0 rfl) ?_
                refine va_iald hx hb hE.1 hP 3 0 rfl rfl (in_n (by omega) (by decide)) dX1_reckon_205 ?_
                refine W.eq (g2 := F0 m 206 ls (.int (sk (tp - 1)) :: .int (sk (tp - 2)) :: .int ((fcd i) &&& (15)) :: .int (nI (tp - 2)) :: .ref m6 :: [])) (by rw [nI_clamp (by omega)]) ?_
                refine kc_i (wc := []) (wr := [(h0, .inr (1, [.ref pg, .ref m1, .ref m2, .ref m3, .ref m4, .ref m5, .ref m6, .int (wy), .int (sta), .int (nx), .int (sp), .int (wr)])), (m3, .inl (ak 0, 16, .inl (gwo))), (m4, .inl (ak 0, 6, .inl (gce))), (m6, .inl (ak 0, 32, .inl (sk)))]) hP hD hS hA [] [0, 1, 2, 3] rfl rfl (by decide) (by decide) (va_runS (As := [.int ((fcd i) &&& (15)), .int (sk (tp - 2)), .int (sk (tp - 1))]) (rest := [.int (nI (tp - 2)), .ref m6]) ⟨hx, hb, hml, hown, hts⟩ (c_X1_joined l D ak ad _ ((fcd i) &&& (15)) (sk (tp - 2)) (sk (tp - 1)) ) (va_cwS 3 hts gX1_reckon_X1_joined rfl rfl rfl (by decide +kernel) ⟨Nat.le_trans (Nat.le_of_ble_eq_true rfl) hRf, Nat.le_trans (Nat.le_of_ble_eq_true rfl) hRl⟩) (kc_pre (As := [.int ((fcd i) &&& (15)), .int (sk (tp - 2)), .int (sk (tp - 1))]) (wc := []) hE hT hP hD hS hA [] (by decide) rfl rfl) rfl rfl hl.1 rfl (lv_room (Nat.le_of_ble_eq_true rfl)) dX1_reckon_206 ⟨hRc.1, hRc.2⟩) (fun r_10 u_8 H locs hw_10 hP hD hS => ?_)
                have hP : va_P D vwCl [(h0, .inr (1, [.ref pg, .ref m1, .ref m2, .ref m3, .ref m4, .ref m5, .ref m6, .int (wy), .int (sta), .int (nx), .int (sp), .int (wr)])), (m3, .inl (ak 0, 16, .inl (gwo))), (m4, .inl (ak 0, 6, .inl (gce))), (m6, .inl (ak 0, 32, .inl (sk)))] H := hP
                have hD : va_D A [(h0, .inr (1, [.ref pg, .ref m1, .ref m2, .ref m3, .ref m4, .ref m5, .ref m6, .int (wy), .int (sta), .int (nx), .int (sp), .int (wr)])), (m3, .inl (ak 0, 16, .inl (gwo))), (m4, .inl (ak 0, 6, .inl (gce))), (m6, .inl (ak 0, 32, .inl (sk)))] := hD
                have hjn := hw_10
                refine va_iast hx hb hE.1 hP hD hS 3 0 rfl rfl (in_n (by omega) (by decide)) dX1_reckon_209 (fun H locs hP hD hS => ?_)
                have hP : va_P D vwCl [(h0, .inr (1, [.ref pg, .ref m1, .ref m2, .ref m3, .ref m4, .ref m5, .ref m6, .int (wy), .int (sta), .int (nx), .int (sp), .int (wr)])), (m3, .inl (ak 0, 16, .inl (gwo))), (m4, .inl (ak 0, 6, .inl (gce))), (m6, .inl (ak 0, 32, .inl (upd (sk) ((nI (tp - 2) : Int32).toNatClampNeg) (r_10))))] H := hP
                have hD : va_D A [(h0, .inr (1, [.ref pg, .ref m1, .ref m2, .ref m3, .ref m4, .ref m5, .ref m6, .int (wy), .int (sta), .int (nx), .int (sp), .int (wr)])), (m3, .inl (ak 0, 16, .inl (gwo))), (m4, .inl (ak 0, 6, .inl (gce))), (m6, .inl (ak 0, 32, .inl (upd (sk) ((nI (tp - 2) : Int32).toNatClampNeg) (r_10))))] := hD
                refine lv_iinc (v := (nI (i + 1))) (lv' := [(5, .int (nI (i + 1))), (3, .int (nI (tp - 1))), (7, .int (x_1)), (6, .int ((fcd i) &&& (15))), (4, .int (nI en)), (0, .ref h0)]) hx hb dX1_reckon_210 hl (k := 3) rfl (nI_1 i) (by decide) rfl (fun ls hl => ?_)
                refine lv_goto (tgt := 23) hx hb dX1_reckon_213 (by decide) ?_
                have hst : rkS gce gwo ln (fcd i) tp sk = (tp - 1, upd (sk) ((nI (tp - 2) : Int32).toNatClampNeg) (r_10)) := (by unfold rkS; first | rw [if_pos ⟨Int32.not_lt.mp c_62, hlt32⟩, if_pos c_78, ← ex_1, nI_clamp (by omega)] | rw [if_pos ⟨Int32.not_lt.mp c_62, hlt32⟩, if_neg c_78, ← ex_1, nI_clamp (by omega)] | rw [if_neg hn1, if_pos ⟨c_103n, h0t⟩, nI_clamp (by omega), hwl] | rw [if_neg hn1, if_neg hn2, if_pos ⟨c_141n, h0t⟩, nI_clamp (by omega), if_pos c_163n] | rw [if_neg hn1, if_neg hn2, if_pos ⟨c_141n, h0t⟩, nI_clamp (by omega), if_neg c_163] | rw [if_neg hn1, if_neg hn2, if_neg hn3, if_pos h1t, nI_clamp (by omega), hjn] | rw [if_neg hn1, if_neg hn2, if_neg hn3, if_neg h1n])
                exact ih (n0) (i + 1) (tp - 1) (upd (sk) ((nI (tp - 2) : Int32).toNatClampNeg) (r_10)) _ _ _ (by omega) (by omega) (by omega) (rkN_step hF hst) (by omega) (hP.sub [0, 1, 2, 3] rfl) (hD.sub [0, 1, 2, 3] (by decide) rfl) hS (lv_sub hl [0, 4, 1, 5] rfl)
            · have c_141n : fcd i &&& 15 = 3 := Classical.not_not.mp c_141_7
              refine lv_iload_n hx hb dX1_reckon_144 rfl (lv_at hl 4 rfl) ?_
              refine lv_if_le (tgt := 175) hx hb dX1_reckon_145 (by decide) (fun c_145_11 => ?_) (fun c_145_11 => ?_)
              · have hn3 : ¬ (fcd i &&& 15 = 3 ∧ 0 < tp) := fun h => absurd c_145_11 (nI_nle h.2 (by omega))
                refine lv_iload_n hx hb dX1_reckon_175 rfl (lv_at hl 4 rfl) ?_
                refine lv_iconst (v := 1) hx hb dX1_reckon_176 (by decide) ?_
                refine lv_icmp_le (tgt := 210) hx hb dX1_reckon_177 (by decide) (fun c_177_12 => ?_) (fun c_177_12 => ?_)
                · have h1n : ¬ 1 < tp := fun h => absurd c_177_12 (Int32.not_le.mpr (nI_lt (a := 1) h (by omega)))
                  refine lv_iinc (v := (nI (i + 1))) (lv' := [(5, .int (nI (i + 1))), (7, .int (x_1)), (6, .int ((fcd i) &&& (15))), (4, .int (nI en)), (3, .int (nI tp)), (0, .ref h0)]) hx hb dX1_reckon_210 hl (k := 2) rfl (nI_1 i) (by decide) rfl (fun ls hl => ?_)
                  refine lv_goto (tgt := 23) hx hb dX1_reckon_213 (by decide) ?_
                  have hst : rkS gce gwo ln (fcd i) tp sk = (tp, sk) := (by unfold rkS; first | rw [if_pos ⟨Int32.not_lt.mp c_62, hlt32⟩, if_pos c_78, ← ex_1, nI_clamp (by omega)] | rw [if_pos ⟨Int32.not_lt.mp c_62, hlt32⟩, if_neg c_78, ← ex_1, nI_clamp (by omega)] | rw [if_neg hn1, if_pos ⟨c_103n, h0t⟩, nI_clamp (by omega), hwl] | rw [if_neg hn1, if_neg hn2, if_pos ⟨c_141n, h0t⟩, nI_clamp (by omega), if_pos c_163n] | rw [if_neg hn1, if_neg hn2, if_pos ⟨c_141n, h0t⟩, nI_clamp (by omega), if_neg c_163] | rw [if_neg hn1, if_neg hn2, if_neg hn3, if_pos h1t, nI_clamp (by omega), hjn] | rw [if_neg hn1, if_neg hn2, if_neg hn3, if_neg h1n])
                  exact ih (n0) (i + 1) (tp) (sk) _ _ _ (by omega) (by omega) (by omega) (rkN_step hF hst) (by omega) (hP.sub [0, 1, 2, 3] rfl) (hD.sub [0, 1, 2, 3] (by decide) rfl) hS (lv_sub hl [0, 3, 4, 5] rfl)
                · have h1t : 1 < tp := Nat.lt_of_not_le (fun h => c_177_12 (nI_le (b := 1) h (by decide)))
                  refine lv_iinc (v := (nI (tp - 1))) (lv' := [(3, .int (nI (tp - 1))), (7, .int (x_1)), (6, .int ((fcd i) &&& (15))), (5, .int (nI i)), (4, .int (nI en)), (0, .ref h0)]) hx hb dX1_reckon_180 hl (k := 4) rfl (by rw [show Int32.ofInt (-1) = -1 from rfl]; exact sb_m1 (by omega)) (by decide) rfl (fun ls hl => ?_)
                  refine lv_aload_n hx hb dX1_reckon_183 rfl (lv_at hl 5 rfl) ?_
                  refine va_get (D := D) (ci := 1) (v := .ref m6) (C := RX1) (T := TX1) (N := 12) hx hb hts (fun w h => List.mem_cons_of_mem _ (List.mem_append_left _ (List.mem_append_right _ h))) hown hE.1 hP 0 rfl rfl 6 (by decide) (hts (.fieldLink RX1 24 "WornLines$Machine" "stack" "[I") (by decide +kernel)) (fun _ h9 => h9) rfl dX1_reckon_184 ?_
                  refine lv_iload_n hx hb dX1_reckon_187 rfl (lv_at hl 0 rfl) ?_
                  refine lv_iconst (v := 1) hx hb dX1_reckon_188 (by decide) ?_
                  refine lv_isub hx hb dX1_reckon_189 ?_
                  refine W.eq (g2 := F0 m 190 ls (.int (nI (tp - 2)) :: .ref m6 :: [])) (by rw [show (1 : Int32) = nI 1 from rfl, pk_sub (by omega)]; rfl) ?_
                  refine lv_iload hx hb dX1_reckon_190 (lv_at hl 2 rfl) ?_
                  refine lv_aload_n hx hb dX1_reckon_192 rfl (lv_at hl 5 rfl) ?_
                  refine va_get (D := D) (ci := 1) (v := .ref m6) (C := RX1) (T := TX1) (N := 12) hx hb hts (fun w h => List.mem_cons_of_mem _ (List.mem_append_left _ (List.mem_append_right _ h))) hown hE.1 hP 0 rfl rfl 6 (by decide) (hts (.fieldLink RX1 24 "WornLines$Machine" "stack" "[I") (by decide +kernel)) (fun _ h9 => h9) rfl dX1_reckon_193 ?_
                  refine lv_iload_n hx hb dX1_reckon_196 rfl (lv_at hl 0 rfl) ?_
                  refine lv_iconst (v := 1) hx hb dX1_reckon_197 (by decide) ?_
                  refine lv_isub hx hb dX1_reckon_198 ?_
                  refine W.eq (g2 := F0 m 199 ls (.int (nI (tp - 2)) :: .ref m6 :: .int ((fcd i) &&& (15)) :: .int (nI (tp - 2)) :: .ref m6 :: [])) (by rw [show (1 : Int32) = nI 1 from rfl, pk_sub (by omega)]; rfl) ?_
                  refine va_iald hx hb hE.1 hP 3 0 rfl rfl (in_n (by omega) (by decide)) dX1_reckon_199 ?_
                  refine W.eq (g2 := F0 m 200 ls (.int (sk (tp - 2)) :: .int ((fcd i) &&& (15)) :: .int (nI (tp - 2)) :: .ref m6 :: [])) (by rw [nI_clamp (by omega)]) ?_
                  refine lv_aload_n hx hb dX1_reckon_200 rfl (lv_at hl 5 rfl) ?_
                  refine va_get (D := D) (ci := 1) (v := .ref m6) (C := RX1) (T := TX1) (N := 12) hx hb hts (fun w h => List.mem_cons_of_mem _ (List.mem_append_left _ (List.mem_append_right _ h))) hown hE.1 hP 0 rfl rfl 6 (by decide) (hts (.fieldLink RX1 24 "WornLines$Machine" "stack" "[I") (by decide +kernel)) (fun _ h9 => h9) rfl dX1_reckon_201 ?_
                  refine lv_iload_n hx hb dX1_reckon_204 rfl (lv_at hl 0 rfl) ?_
                  refine va_iald hx hb hE.1 hP 3 0 rfl rfl (in_n (by omega) (by decide)) dX1_reckon_205 ?_
                  refine W.eq (g2 := F0 m 206 ls (.int (sk (tp - 1)) :: .int (sk (tp - 2)) :: .int ((fcd i) &&& (15)) :: .int (nI (tp - 2)) :: .ref m6 :: [])) (by rw [nI_clamp (by omega)]) ?_
                  refine kc_i (wc := []) (wr := [(h0, .inr (1, [.ref pg, .ref m1, .ref m2, .ref m3, .ref m4, .ref m5, .ref m6, .int (wy), .int (sta), .int (nx), .int (sp), .int (wr)])), (m3, .inl (ak 0, 16, .inl (gwo))), (m4, .inl (ak 0, 6, .inl (gce))), (m6, .inl (ak 0, 32, .inl (sk)))]) hP hD hS hA [] [0, 1, 2, 3] rfl rfl (by decide) (by decide) (va_runS (As := [.int ((fcd i) &&& (15)), .int (sk (tp - 2)), .int (sk (tp - 1))]) (rest := [.int (nI (tp - 2)), .ref m6]) ⟨hx, hb, hml, hown, hts⟩ (c_X1_joined l D ak ad _ ((fcd i) &&& (15)) (sk (tp - 2)) (sk (tp - 1)) ) (va_cwS 3 hts gX1_reckon_X1_joined rfl rfl rfl (by decide +kernel) ⟨Nat.le_trans (Nat.le_of_ble_eq_true rfl) hRf, Nat.le_trans (Nat.le_of_ble_eq_true rfl) hRl⟩) (kc_pre (As := [.int ((fcd i) &&& (15)), .int (sk (tp - 2)), .int (sk (tp - 1))]) (wc := []) hE hT hP hD hS hA [] (by decide) rfl rfl) rfl rfl hl.1 rfl (lv_room (Nat.le_of_ble_eq_true rfl)) dX1_reckon_206 ⟨hRc.1, hRc.2⟩) (fun r_14 u_12 H locs hw_14 hP hD hS => ?_)
                  have hP : va_P D vwCl [(h0, .inr (1, [.ref pg, .ref m1, .ref m2, .ref m3, .ref m4, .ref m5, .ref m6, .int (wy), .int (sta), .int (nx), .int (sp), .int (wr)])), (m3, .inl (ak 0, 16, .inl (gwo))), (m4, .inl (ak 0, 6, .inl (gce))), (m6, .inl (ak 0, 32, .inl (sk)))] H := hP
                  have hD : va_D A [(h0, .inr (1, [.ref pg, .ref m1, .ref m2, .ref m3, .ref m4, .ref m5, .ref m6, .int (wy), .int (sta), .int (nx), .int (sp), .int (wr)])), (m3, .inl (ak 0, 16, .inl (gwo))), (m4, .inl (ak 0, 6, .inl (gce))), (m6, .inl (ak 0, 32, .inl (sk)))] := hD
                  have hjn := hw_14
                  refine va_iast hx hb hE.1 hP hD hS 3 0 rfl rfl (in_n (by omega) (by decide)) dX1_reckon_209 (fun H locs hP hD hS => ?_)
                  have hP : va_P D vwCl [(h0, .inr (1, [.ref pg, .ref m1, .ref m2, .ref m3, .ref m4, .ref m5, .ref m6, .int (wy), .int (sta), .int (nx), .int (sp), .int (wr)])), (m3, .inl (ak 0, 16, .inl (gwo))), (m4, .inl (ak 0, 6, .inl (gce))), (m6, .inl (ak 0, 32, .inl (upd (sk) ((nI (tp - 2) : Int32).toNatClampNeg) (r_14))))] H := hP
                  have hD : va_D A [(h0, .inr (1, [.ref pg, .ref m1, .ref m2, .ref m3, .ref m4, .ref m5, .ref m6, .int (wy), .int (sta), .int (nx), .int (sp), .int (wr)])), (m3, .inl (ak 0, 16, .inl (gwo))), (m4, .inl (ak 0, 6, .inl (gce))), (m6, .inl (ak 0, 32, .inl (upd (sk) ((nI (tp - 2) : Int32).toNatClampNeg) (r_14))))] := hD
                  refine lv_iinc (v := (nI (i + 1))) (lv' := [(5, .int (nI (i + 1))), (3, .int (nI (tp - 1))), (7, .int (x_1)), (6, .int ((fcd i) &&& (15))), (4, .int (nI en)), (0, .ref h0)]) hx hb dX1_reckon_210 hl (k := 3) rfl (nI_1 i) (by decide) rfl (fun ls hl => ?_)
                  refine lv_goto (tgt := 23) hx hb dX1_reckon_213 (by decide) ?_
                  have hst : rkS gce gwo ln (fcd i) tp sk = (tp - 1, upd (sk) ((nI (tp - 2) : Int32).toNatClampNeg) (r_14)) := (by unfold rkS; first | rw [if_pos ⟨Int32.not_lt.mp c_62, hlt32⟩, if_pos c_78, ← ex_1, nI_clamp (by omega)] | rw [if_pos ⟨Int32.not_lt.mp c_62, hlt32⟩, if_neg c_78, ← ex_1, nI_clamp (by omega)] | rw [if_neg hn1, if_pos ⟨c_103n, h0t⟩, nI_clamp (by omega), hwl] | rw [if_neg hn1, if_neg hn2, if_pos ⟨c_141n, h0t⟩, nI_clamp (by omega), if_pos c_163n] | rw [if_neg hn1, if_neg hn2, if_pos ⟨c_141n, h0t⟩, nI_clamp (by omega), if_neg c_163] | rw [if_neg hn1, if_neg hn2, if_neg hn3, if_pos h1t, nI_clamp (by omega), hjn] | rw [if_neg hn1, if_neg hn2, if_neg hn3, if_neg h1n])
                  exact ih (n0) (i + 1) (tp - 1) (upd (sk) ((nI (tp - 2) : Int32).toNatClampNeg) (r_14)) _ _ _ (by omega) (by omega) (by omega) (rkN_step hF hst) (by omega) (hP.sub [0, 1, 2, 3] rfl) (hD.sub [0, 1, 2, 3] (by decide) rfl) hS (lv_sub hl [0, 4, 1, 5] rfl)
              · have h0t : 0 < tp := Nat.pos_of_ne_zero (fun h => c_145_11 (by rw [h]; decide))
                refine lv_aload_n hx hb dX1_reckon_148 rfl (lv_at hl 5 rfl) ?_
                refine va_get (D := D) (ci := 1) (v := .ref m6) (C := RX1) (T := TX1) (N := 12) hx hb hts (fun w h => List.mem_cons_of_mem _ (List.mem_append_left _ (List.mem_append_right _ h))) hown hE.1 hP 0 rfl rfl 6 (by decide) (hts (.fieldLink RX1 24 "WornLines$Machine" "stack" "[I") (by decide +kernel)) (fun _ h9 => h9) rfl dX1_reckon_149 ?_
                refine lv_iload_n hx hb dX1_reckon_152 rfl (lv_at hl 4 rfl) ?_
                refine lv_iconst (v := 1) hx hb dX1_reckon_153 (by decide) ?_
                refine lv_isub hx hb dX1_reckon_154 ?_
                refine W.eq (g2 := F0 m 155 ls (.int (nI (tp - 1)) :: .ref m6 :: [])) (by rw [show (1 : Int32) = nI 1 from rfl, pk_sub (by omega)]) ?_
                refine lv_aload_n hx hb dX1_reckon_155 rfl (lv_at hl 5 rfl) ?_
                refine va_get (D := D) (ci := 1) (v := .ref m6) (C := RX1) (T := TX1) (N := 12) hx hb hts (fun w h => List.mem_cons_of_mem _ (List.mem_append_left _ (List.mem_append_right _ h))) hown hE.1 hP 0 rfl rfl 6 (by decide) (hts (.fieldLink RX1 24 "WornLines$Machine" "stack" "[I") (by decide +kernel)) (fun _ h9 => h9) rfl dX1_reckon_156 ?_
                refine lv_iload_n hx hb dX1_reckon_159 rfl (lv_at hl 4 rfl) ?_
                refine lv_iconst (v := 1) hx hb dX1_reckon_160 (by decide) ?_
                refine lv_isub hx hb dX1_reckon_161 ?_
                refine W.eq (g2 := F0 m 162 ls (.int (nI (tp - 1)) :: .ref m6 :: .int (nI (tp - 1)) :: .ref m6 :: [])) (by rw [show (1 : Int32) = nI 1 from rfl, pk_sub (by omega)]) ?_
                refine va_iald hx hb hE.1 hP 3 0 rfl rfl (in_n (by omega) (by decide)) dX1_reckon_162 ?_
                refine W.eq (g2 := F0 m 163 ls (.int (sk (tp - 1)) :: .int (nI (tp - 1)) :: .ref m6 :: [])) (by rw [nI_clamp (by omega)]) ?_
                refine lv_if_ne (tgt := 170) hx hb dX1_reckon_163 (by decide) (fun c_163_15 => ?_) (fun c_163_15 => ?_)
                · refine lv_iconst (v := 0) hx hb dX1_reckon_170 (by decide) ?_
                  refine va_iast hx hb hE.1 hP hD hS 3 0 rfl rfl (in_n (by omega) (by decide)) dX1_reckon_171 (fun H locs hP hD hS => ?_)
                  have hP : va_P D vwCl [(h0, .inr (1, [.ref pg, .ref m1, .ref m2, .ref m3, .ref m4, .ref m5, .ref m6, .int (wy), .int (sta), .int (nx), .int (sp), .int (wr)])), (m3, .inl (ak 0, 16, .inl (gwo))), (m4, .inl (ak 0, 6, .inl (gce))), (m6, .inl (ak 0, 32, .inl (upd (sk) ((nI (tp - 1) : Int32).toNatClampNeg) (0))))] H := hP
                  have hD : va_D A [(h0, .inr (1, [.ref pg, .ref m1, .ref m2, .ref m3, .ref m4, .ref m5, .ref m6, .int (wy), .int (sta), .int (nx), .int (sp), .int (wr)])), (m3, .inl (ak 0, 16, .inl (gwo))), (m4, .inl (ak 0, 6, .inl (gce))), (m6, .inl (ak 0, 32, .inl (upd (sk) ((nI (tp - 1) : Int32).toNatClampNeg) (0))))] := hD
                  refine lv_goto (tgt := 210) hx hb dX1_reckon_172 (by decide) ?_
                  refine lv_iinc (v := (nI (i + 1))) (lv' := [(5, .int (nI (i + 1))), (7, .int (x_1)), (6, .int ((fcd i) &&& (15))), (4, .int (nI en)), (3, .int (nI tp)), (0, .ref h0)]) hx hb dX1_reckon_210 hl (k := 2) rfl (nI_1 i) (by decide) rfl (fun ls hl => ?_)
                  refine lv_goto (tgt := 23) hx hb dX1_reckon_213 (by decide) ?_
                  have hst : rkS gce gwo ln (fcd i) tp sk = (tp, upd (sk) ((nI (tp - 1) : Int32).toNatClampNeg) (0)) := (by unfold rkS; first | rw [if_pos ⟨Int32.not_lt.mp c_62, hlt32⟩, if_pos c_78, ← ex_1, nI_clamp (by omega)] | rw [if_pos ⟨Int32.not_lt.mp c_62, hlt32⟩, if_neg c_78, ← ex_1, nI_clamp (by omega)] | rw [if_neg hn1, if_pos ⟨c_103n, h0t⟩, nI_clamp (by omega), hwl] | rw [if_neg hn1, if_neg hn2, if_pos ⟨c_141n, h0t⟩, nI_clamp (by omega), if_pos c_163n] | rw [if_neg hn1, if_neg hn2, if_pos ⟨c_141n, h0t⟩, nI_clamp (by omega), if_neg c_163] | rw [if_neg hn1, if_neg hn2, if_neg hn3, if_pos h1t, nI_clamp (by omega), hjn] | rw [if_neg hn1, if_neg hn2, if_neg hn3, if_neg h1n])
                  exact ih (n0) (i + 1) (tp) (upd (sk) ((nI (tp - 1) : Int32).toNatClampNeg) (0)) _ _ _ (by omega) (by omega) (by omega) (rkN_step hF hst) (by omega) (hP.sub [0, 1, 2, 3] rfl) (hD.sub [0, 1, 2, 3] (by decide) rfl) hS (lv_sub hl [0, 3, 4, 5] rfl)
                · have c_163n : sk (tp - 1) = 0 := Classical.not_not.mp c_163_15
                  refine lv_iconst (v := 1) hx hb dX1_reckon_166 (by decide) ?_
                  refine lv_goto (tgt := 171) hx hb dX1_reckon_167 (by decide) ?_
                  refine va_iast hx hb hE.1 hP hD hS 3 0 rfl rfl (in_n (by omega) (by decide)) dX1_reckon_171 (fun H locs hP hD hS => ?_)
                  have hP : va_P D vwCl [(h0, .inr (1, [.ref pg, .ref m1, .ref m2, .ref m3, .ref m4, .ref m5, .ref m6, .int (wy), .int (sta), .int (nx), .int (sp), .int (wr)])), (m3, .inl (ak 0, 16, .inl (gwo))), (m4, .inl (ak 0, 6, .inl (gce))), (m6, .inl (ak 0, 32, .inl (upd (sk) ((nI (tp - 1) : Int32).toNatClampNeg) (1))))] H := hP
                  have hD : va_D A [(h0, .inr (1, [.ref pg, .ref m1, .ref m2, .ref m3, .ref m4, .ref m5, .ref m6, .int (wy), .int (sta), .int (nx), .int (sp), .int (wr)])), (m3, .inl (ak 0, 16, .inl (gwo))), (m4, .inl (ak 0, 6, .inl (gce))), (m6, .inl (ak 0, 32, .inl (upd (sk) ((nI (tp - 1) : Int32).toNatClampNeg) (1))))] := hD
                  refine lv_goto (tgt := 210) hx hb dX1_reckon_172 (by decide) ?_
                  refine lv_iinc (v := (nI (i + 1))) (lv' := [(5, .int (nI (i + 1))), (7, .int (x_1)), (6, .int ((fcd i) &&& (15))), (4, .int (nI en)), (3, .int (nI tp)), (0, .ref h0)]) hx hb dX1_reckon_210 hl (k := 2) rfl (nI_1 i) (by decide) rfl (fun ls hl => ?_)
                  refine lv_goto (tgt := 23) hx hb dX1_reckon_213 (by decide) ?_
                  have hst : rkS gce gwo ln (fcd i) tp sk = (tp, upd (sk) ((nI (tp - 1) : Int32).toNatClampNeg) (1)) := (by unfold rkS; first | rw [if_pos ⟨Int32.not_lt.mp c_62, hlt32⟩, if_pos c_78, ← ex_1, nI_clamp (by omega)] | rw [if_pos ⟨Int32.not_lt.mp c_62, hlt32⟩, if_neg c_78, ← ex_1, nI_clamp (by omega)] | rw [if_neg hn1, if_pos ⟨c_103n, h0t⟩, nI_clamp (by omega), hwl] | rw [if_neg hn1, if_neg hn2, if_pos ⟨c_141n, h0t⟩, nI_clamp (by omega), if_pos c_163n] | rw [if_neg hn1, if_neg hn2, if_pos ⟨c_141n, h0t⟩, nI_clamp (by omega), if_neg c_163] | rw [if_neg hn1, if_neg hn2, if_neg hn3, if_pos h1t, nI_clamp (by omega), hjn] | rw [if_neg hn1, if_neg hn2, if_neg hn3, if_neg h1n])
                  exact ih (n0) (i + 1) (tp) (upd (sk) ((nI (tp - 1) : Int32).toNatClampNeg) (1)) _ _ _ (by omega) (by omega) (by omega) (rkN_step hF hst) (by omega) (hP.sub [0, 1, 2, 3] rfl) (hD.sub [0, 1, 2, 3] (by decide) rfl) hS (lv_sub hl [0, 3, 4, 5] rfl)
          · have h0t : 0 < tp := Nat.pos_of_ne_zero (fun h => c_107 (by rw [h]; decide))
            refine lv_aload_n hx hb dX1_reckon_110 rfl (lv_at hl 5 rfl) ?_
            refine va_get (D := D) (ci := 1) (v := .ref m6) (C := RX1) (T := TX1) (N := 12) hx hb hts (fun w h => List.mem_cons_of_mem _ (List.mem_append_left _ (List.mem_append_right _ h))) hown hE.1 hP 0 rfl rfl 6 (by decide) (hts (.fieldLink RX1 24 "WornLines$Machine" "stack" "[I") (by decide +kernel)) (fun _ h9 => h9) rfl dX1_reckon_111 ?_
            refine lv_iload_n hx hb dX1_reckon_114 rfl (lv_at hl 4 rfl) ?_
            refine lv_iconst (v := 1) hx hb dX1_reckon_115 (by decide) ?_
            refine lv_isub hx hb dX1_reckon_116 ?_
            refine W.eq (g2 := F0 m 117 ls (.int (nI (tp - 1)) :: .ref m6 :: [])) (by rw [show (1 : Int32) = nI 1 from rfl, pk_sub (by omega)]) ?_
            refine lv_aload_n hx hb dX1_reckon_117 rfl (lv_at hl 5 rfl) ?_
            refine va_get (D := D) (ci := 1) (v := .ref m3) (C := RX1) (T := TX1) (N := 12) hx hb hts (fun w h => List.mem_cons_of_mem _ (List.mem_append_left _ (List.mem_append_right _ h))) hown hE.1 hP 0 rfl rfl 3 (by decide) (hts (.fieldLink RX1 18 "WornLines$Machine" "worn" "[I") (by decide +kernel)) (fun _ h9 => h9) rfl dX1_reckon_118 ?_
            refine lv_aload_n hx hb dX1_reckon_121 rfl (lv_at hl 5 rfl) ?_
            refine lv_aload_n hx hb dX1_reckon_122 rfl (lv_at hl 5 rfl) ?_
            refine va_get (D := D) (ci := 1) (v := .ref m6) (C := RX1) (T := TX1) (N := 12) hx hb hts (fun w h => List.mem_cons_of_mem _ (List.mem_append_left _ (List.mem_append_right _ h))) hown hE.1 hP 0 rfl rfl 6 (by decide) (hts (.fieldLink RX1 24 "WornLines$Machine" "stack" "[I") (by decide +kernel)) (fun _ h9 => h9) rfl dX1_reckon_123 ?_
            refine lv_iload_n hx hb dX1_reckon_126 rfl (lv_at hl 4 rfl) ?_
            refine lv_iconst (v := 1) hx hb dX1_reckon_127 (by decide) ?_
            refine lv_isub hx hb dX1_reckon_128 ?_
            refine W.eq (g2 := F0 m 129 ls (.int (nI (tp - 1)) :: .ref m6 :: .ref h0 :: .ref m3 :: .int (nI (tp - 1)) :: .ref m6 :: [])) (by rw [show (1 : Int32) = nI 1 from rfl, pk_sub (by omega)]) ?_
            refine va_iald hx hb hE.1 hP 3 0 rfl rfl (in_n (by omega) (by decide)) dX1_reckon_129 ?_
            refine W.eq (g2 := F0 m 130 ls (.int (sk (tp - 1)) :: .ref h0 :: .ref m3 :: .int (nI (tp - 1)) :: .ref m6 :: [])) (by rw [nI_clamp (by omega)]) ?_
            refine kc_i (wc := [(h0, .inr (1, [.ref pg, .ref m1, .ref m2, .ref m3, .ref m4, .ref m5, .ref m6, .int (wy), .int (sta), .int (nx), .int (sp), .int (wr)]))]) (wr := [(m3, .inl (ak 0, 16, .inl (gwo))), (m4, .inl (ak 0, 6, .inl (gce))), (m6, .inl (ak 0, 32, .inl (sk)))]) hP hD hS hA [0] [1, 2, 3] rfl rfl (by decide) (by decide) (va_runV (As := [.int (sk (tp - 1))]) (rest := [.ref m3, .int (nI (tp - 1)), .ref m6]) ⟨hx, hb, hml, hown, hts⟩ (c_X1_lineOf l D ak ad _ (h0) (pg) (m1) (m2) (m3) (m4) (m5) (m6) (wy) (sta) (nx) (sp) (wr) (st) (ce) (gi) (ln) (p1) (p2) (p4) (p6) (p7) (p8) (p10) (p11) (p12) (p13) (p14) (p15) (p16) (sk (tp - 1)) (h1) (h2)) (cwV 1 hts gX1_reckon_X1_lineOf rfl rfl rfl (by decide +kernel) ⟨Nat.le_trans (Nat.le_of_ble_eq_true rfl) hRf, Nat.le_trans (Nat.le_of_ble_eq_true rfl) hRl⟩) (kc_preVK (As := [.int (sk (tp - 1))]) (wc := [(h0, .inr (1, [.ref pg, .ref m1, .ref m2, .ref m3, .ref m4, .ref m5, .ref m6, .int (wy), .int (sta), .int (nx), .int (sp), .int (wr)]))]) (ck := [(pg, .inr (2, [.int (nI st), .ref p1, .ref p2, .int (nI ce), .ref p4, .int (nI gi), .ref p6, .ref p7, .ref p8, .int (nI ln), .ref p10, .ref p11, .ref p12, .ref p13, .ref p14, .ref p15, .ref p16]))]) hKT hE hT hP hD hS hA [0] [0] (by decide) rfl rfl rfl hP 0 1 rfl rfl rfl) rfl rfl hl.1 rfl (lv_room (Nat.le_of_ble_eq_true rfl)) dX1_reckon_130 ⟨hRc.1, hRc.2⟩) (fun r_17 u_15 H locs hw_17 hP hD hS => ?_)
            have hP : va_P D vwCl [(m3, .inl (ak 0, 16, .inl (gwo))), (m4, .inl (ak 0, 6, .inl (gce))), (m6, .inl (ak 0, 32, .inl (sk))), (h0, .inr (1, [.ref pg, .ref m1, .ref m2, .ref m3, .ref m4, .ref m5, .ref m6, .int (wy), .int (sta), .int (nx), .int (sp), .int (wr)]))] H := hP
            have hD : va_D A [(m3, .inl (ak 0, 16, .inl (gwo))), (m4, .inl (ak 0, 6, .inl (gce))), (m6, .inl (ak 0, 32, .inl (sk))), (h0, .inr (1, [.ref pg, .ref m1, .ref m2, .ref m3, .ref m4, .ref m5, .ref m6, .int (wy), .int (sta), .int (nx), .int (sp), .int (wr)]))] := hD
            have hwl : gwo (r_17 : Int32).toNatClampNeg = gwo (lnOf (sk (tp - 1)) ln) := by rw [hw_17, nI_clamp (Nat.lt_of_lt_of_le (lnOf_lt _ h1) (by omega))]
            subst hw_17
            refine va_iald hx hb hE.1 hP 0 0 rfl rfl (in_n (Nat.lt_of_lt_of_le (lnOf_lt _ h1) h2) (by decide)) dX1_reckon_133 ?_
            refine va_iast hx hb hE.1 hP hD hS 2 0 rfl rfl (in_n (by omega) (by decide)) dX1_reckon_134 (fun H locs hP hD hS => ?_)
            have hP : va_P D vwCl [(m3, .inl (ak 0, 16, .inl (gwo))), (m4, .inl (ak 0, 6, .inl (gce))), (m6, .inl (ak 0, 32, .inl (upd (sk) ((nI (tp - 1) : Int32).toNatClampNeg) ((gwo) (nI (lnOf (sk (tp - 1)) ln) : Int32).toNatClampNeg)))), (h0, .inr (1, [.ref pg, .ref m1, .ref m2, .ref m3, .ref m4, .ref m5, .ref m6, .int (wy), .int (sta), .int (nx), .int (sp), .int (wr)]))] H := hP
            have hD : va_D A [(m3, .inl (ak 0, 16, .inl (gwo))), (m4, .inl (ak 0, 6, .inl (gce))), (m6, .inl (ak 0, 32, .inl (upd (sk) ((nI (tp - 1) : Int32).toNatClampNeg) ((gwo) (nI (lnOf (sk (tp - 1)) ln) : Int32).toNatClampNeg)))), (h0, .inr (1, [.ref pg, .ref m1, .ref m2, .ref m3, .ref m4, .ref m5, .ref m6, .int (wy), .int (sta), .int (nx), .int (sp), .int (wr)]))] := hD
            refine lv_goto (tgt := 210) hx hb dX1_reckon_135 (by decide) ?_
            refine lv_iinc (v := (nI (i + 1))) (lv' := [(5, .int (nI (i + 1))), (7, .int (x_1)), (6, .int ((fcd i) &&& (15))), (4, .int (nI en)), (3, .int (nI tp)), (0, .ref h0)]) hx hb dX1_reckon_210 hl (k := 2) rfl (nI_1 i) (by decide) rfl (fun ls hl => ?_)
            refine lv_goto (tgt := 23) hx hb dX1_reckon_213 (by decide) ?_
            have hst : rkS gce gwo ln (fcd i) tp sk = (tp, upd (sk) ((nI (tp - 1) : Int32).toNatClampNeg) ((gwo) (nI (lnOf (sk (tp - 1)) ln) : Int32).toNatClampNeg)) := (by unfold rkS; first | rw [if_pos ⟨Int32.not_lt.mp c_62, hlt32⟩, if_pos c_78, ← ex_1, nI_clamp (by omega)] | rw [if_pos ⟨Int32.not_lt.mp c_62, hlt32⟩, if_neg c_78, ← ex_1, nI_clamp (by omega)] | rw [if_neg hn1, if_pos ⟨c_103n, h0t⟩, nI_clamp (by omega), hwl] | rw [if_neg hn1, if_neg hn2, if_pos ⟨c_141n, h0t⟩, nI_clamp (by omega), if_pos c_163n] | rw [if_neg hn1, if_neg hn2, if_pos ⟨c_141n, h0t⟩, nI_clamp (by omega), if_neg c_163] | rw [if_neg hn1, if_neg hn2, if_neg hn3, if_pos h1t, nI_clamp (by omega), hjn] | rw [if_neg hn1, if_neg hn2, if_neg hn3, if_neg h1n])
            exact ih (n0) (i + 1) (tp) (upd (sk) ((nI (tp - 1) : Int32).toNatClampNeg) ((gwo) (nI (lnOf (sk (tp - 1)) ln) : Int32).toNatClampNeg)) _ _ _ (by omega) (by omega) (by omega) (rkN_step hF hst) (by omega) (hP.sub [3, 0, 1, 2] rfl) (hD.sub [3, 0, 1, 2] (by decide) rfl) hS (lv_sub hl [0, 3, 4, 5] rfl)
      · refine lv_iload_n hx hb dX1_reckon_65 rfl (lv_at hl 4 rfl) ?_
        refine lv_bipush (v := 32) hx hb dX1_reckon_66 (by decide) ?_
        refine lv_icmp_ge (tgt := 100) hx hb dX1_reckon_68 (by decide) (fun c_68 => ?_) (fun c_68 => ?_)
        · have hn1 : ¬ (fcd i &&& 15 ≤ 1 ∧ tp < 32) := fun h => absurd c_68 (Int32.not_le.mpr (nI_lt (b := 32) h.2 (by decide)))
          refine lv_iload hx hb dX1_reckon_100 (lv_at hl 1 rfl) ?_
          refine lv_iconst (v := 2) hx hb dX1_reckon_102 (by decide) ?_
          refine lv_icmp_ne (tgt := 138) hx hb dX1_reckon_103 (by decide) (fun c_103_18 => ?_) (fun c_103_18 => ?_)
          · have hn2 : ¬ (fcd i &&& 15 = 2 ∧ 0 < tp) := fun h => c_103_18 h.1
            refine lv_iload hx hb dX1_reckon_138 (lv_at hl 1 rfl) ?_
            refine lv_iconst (v := 3) hx hb dX1_reckon_140 (by decide) ?_
            refine lv_icmp_ne (tgt := 175) hx hb dX1_reckon_141 (by decide) (fun c_141_19 => ?_) (fun c_141_19 => ?_)
            · have hn3 : ¬ (fcd i &&& 15 = 3 ∧ 0 < tp) := fun h => c_141_19 h.1
              refine lv_iload_n hx hb dX1_reckon_175 rfl (lv_at hl 4 rfl) ?_
              refine lv_iconst (v := 1) hx hb dX1_reckon_176 (by decide) ?_
              refine lv_icmp_le (tgt := 210) hx hb dX1_reckon_177 (by decide) (fun c_177_20 => ?_) (fun c_177_20 => ?_)
              · have h1n : ¬ 1 < tp := fun h => absurd c_177_20 (Int32.not_le.mpr (nI_lt (a := 1) h (by omega)))
                refine lv_iinc (v := (nI (i + 1))) (lv' := [(5, .int (nI (i + 1))), (7, .int (x_1)), (6, .int ((fcd i) &&& (15))), (4, .int (nI en)), (3, .int (nI tp)), (0, .ref h0)]) hx hb dX1_reckon_210 hl (k := 2) rfl (nI_1 i) (by decide) rfl (fun ls hl => ?_)
                refine lv_goto (tgt := 23) hx hb dX1_reckon_213 (by decide) ?_
                have hst : rkS gce gwo ln (fcd i) tp sk = (tp, sk) := (by unfold rkS; first | rw [if_pos ⟨Int32.not_lt.mp c_62, hlt32⟩, if_pos c_78, ← ex_1, nI_clamp (by omega)] | rw [if_pos ⟨Int32.not_lt.mp c_62, hlt32⟩, if_neg c_78, ← ex_1, nI_clamp (by omega)] | rw [if_neg hn1, if_pos ⟨c_103n, h0t⟩, nI_clamp (by omega), hwl] | rw [if_neg hn1, if_neg hn2, if_pos ⟨c_141n, h0t⟩, nI_clamp (by omega), if_pos c_163n] | rw [if_neg hn1, if_neg hn2, if_pos ⟨c_141n, h0t⟩, nI_clamp (by omega), if_neg c_163] | rw [if_neg hn1, if_neg hn2, if_neg hn3, if_pos h1t, nI_clamp (by omega), hjn] | rw [if_neg hn1, if_neg hn2, if_neg hn3, if_neg h1n])
                exact ih (n0) (i + 1) (tp) (sk) _ _ _ (by omega) (by omega) (by omega) (rkN_step hF hst) (by omega) (hP.sub [0, 1, 2, 3] rfl) (hD.sub [0, 1, 2, 3] (by decide) rfl) hS (lv_sub hl [0, 3, 4, 5] rfl)
              · have h1t : 1 < tp := Nat.lt_of_not_le (fun h => c_177_20 (nI_le (b := 1) h (by decide)))
                refine lv_iinc (v := (nI (tp - 1))) (lv' := [(3, .int (nI (tp - 1))), (7, .int (x_1)), (6, .int ((fcd i) &&& (15))), (5, .int (nI i)), (4, .int (nI en)), (0, .ref h0)]) hx hb dX1_reckon_180 hl (k := 4) rfl (by rw [show Int32.ofInt (-1) = -1 from rfl]; exact sb_m1 (by omega)) (by decide) rfl (fun ls hl => ?_)
                refine lv_aload_n hx hb dX1_reckon_183 rfl (lv_at hl 5 rfl) ?_
                refine va_get (D := D) (ci := 1) (v := .ref m6) (C := RX1) (T := TX1) (N := 12) hx hb hts (fun w h => List.mem_cons_of_mem _ (List.mem_append_left _ (List.mem_append_right _ h))) hown hE.1 hP 0 rfl rfl 6 (by decide) (hts (.fieldLink RX1 24 "WornLines$Machine" "stack" "[I") (by decide +kernel)) (fun _ h9 => h9) rfl dX1_reckon_184 ?_
                refine lv_iload_n hx hb dX1_reckon_187 rfl (lv_at hl 0 rfl) ?_
                refine lv_iconst (v := 1) hx hb dX1_reckon_188 (by decide) ?_
                refine lv_isub hx hb dX1_reckon_189 ?_
                refine W.eq (g2 := F0 m 190 ls (.int (nI (tp - 2)) :: .ref m6 :: [])) (by rw [show (1 : Int32) = nI 1 from rfl, pk_sub (by omega)]; rfl) ?_
                refine lv_iload hx hb dX1_reckon_190 (lv_at hl 2 rfl) ?_
                refine lv_aload_n hx hb dX1_reckon_192 rfl (lv_at hl 5 rfl) ?_
                refine va_get (D := D) (ci := 1) (v := .ref m6) (C := RX1) (T := TX1) (N := 12) hx hb hts (fun w h => List.mem_cons_of_mem _ (List.mem_append_left _ (List.mem_append_right _ h))) hown hE.1 hP 0 rfl rfl 6 (by decide) (hts (.fieldLink RX1 24 "WornLines$Machine" "stack" "[I") (by decide +kernel)) (fun _ h9 => h9) rfl dX1_reckon_193 ?_
                refine lv_iload_n hx hb dX1_reckon_196 rfl (lv_at hl 0 rfl) ?_
                refine lv_iconst (v := 1) hx hb dX1_reckon_197 (by decide) ?_
                refine lv_isub hx hb dX1_reckon_198 ?_
                refine W.eq (g2 := F0 m 199 ls (.int (nI (tp - 2)) :: .ref m6 :: .int ((fcd i) &&& (15)) :: .int (nI (tp - 2)) :: .ref m6 :: [])) (by rw [show (1 : Int32) = nI 1 from rfl, pk_sub (by omega)]; rfl) ?_
                refine va_iald hx hb hE.1 hP 3 0 rfl rfl (in_n (by omega) (by decide)) dX1_reckon_199 ?_
                refine W.eq (g2 := F0 m 200 ls (.int (sk (tp - 2)) :: .int ((fcd i) &&& (15)) :: .int (nI (tp - 2)) :: .ref m6 :: [])) (by rw [nI_clamp (by omega)]) ?_
                refine lv_aload_n hx hb dX1_reckon_200 rfl (lv_at hl 5 rfl) ?_
                refine va_get (D := D) (ci := 1) (v := .ref m6) (C := RX1) (T := TX1) (N := 12) hx hb hts (fun w h => List.mem_cons_of_mem _ (List.mem_append_left _ (List.mem_append_right _ h))) hown hE.1 hP 0 rfl rfl 6 (by decide) (hts (.fieldLink RX1 24 "WornLines$Machine" "stack" "[I") (by decide +kernel)) (fun _ h9 => h9) rfl dX1_reckon_201 ?_
                refine lv_iload_n hx hb dX1_reckon_204 rfl (lv_at hl 0 rfl) ?_
                refine va_iald hx hb hE.1 hP 3 0 rfl rfl (in_n (by omega) (by decide)) dX1_reckon_205 ?_
                refine W.eq (g2 := F0 m 206 ls (.int (sk (tp - 1)) :: .int (sk (tp - 2)) :: .int ((fcd i) &&& (15)) :: .int (nI (tp - 2)) :: .ref m6 :: [])) (by rw [nI_clamp (by omega)]) ?_
                refine kc_i (wc := []) (wr := [(h0, .inr (1, [.ref pg, .ref m1, .ref m2, .ref m3, .ref m4, .ref m5, .ref m6, .int (wy), .int (sta), .int (nx), .int (sp), .int (wr)])), (m3, .inl (ak 0, 16, .inl (gwo))), (m4, .inl (ak 0, 6, .inl (gce))), (m6, .inl (ak 0, 32, .inl (sk)))]) hP hD hS hA [] [0, 1, 2, 3] rfl rfl (by decide) (by decide) (va_runS (As := [.int ((fcd i) &&& (15)), .int (sk (tp - 2)), .int (sk (tp - 1))]) (rest := [.int (nI (tp - 2)), .ref m6]) ⟨hx, hb, hml, hown, hts⟩ (c_X1_joined l D ak ad _ ((fcd i) &&& (15)) (sk (tp - 2)) (sk (tp - 1)) ) (va_cwS 3 hts gX1_reckon_X1_joined rfl rfl rfl (by decide +kernel) ⟨Nat.le_trans (Nat.le_of_ble_eq_true rfl) hRf, Nat.le_trans (Nat.le_of_ble_eq_true rfl) hRl⟩) (kc_pre (As := [.int ((fcd i) &&& (15)), .int (sk (tp - 2)), .int (sk (tp - 1))]) (wc := []) hE hT hP hD hS hA [] (by decide) rfl rfl) rfl rfl hl.1 rfl (lv_room (Nat.le_of_ble_eq_true rfl)) dX1_reckon_206 ⟨hRc.1, hRc.2⟩) (fun r_22 u_20 H locs hw_22 hP hD hS => ?_)
                have hP : va_P D vwCl [(h0, .inr (1, [.ref pg, .ref m1, .ref m2, .ref m3, .ref m4, .ref m5, .ref m6, .int (wy), .int (sta), .int (nx), .int (sp), .int (wr)])), (m3, .inl (ak 0, 16, .inl (gwo))), (m4, .inl (ak 0, 6, .inl (gce))), (m6, .inl (ak 0, 32, .inl (sk)))] H := hP
                have hD : va_D A [(h0, .inr (1, [.ref pg, .ref m1, .ref m2, .ref m3, .ref m4, .ref m5, .ref m6, .int (wy), .int (sta), .int (nx), .int (sp), .int (wr)])), (m3, .inl (ak 0, 16, .inl (gwo))), (m4, .inl (ak 0, 6, .inl (gce))), (m6, .inl (ak 0, 32, .inl (sk)))] := hD
                have hjn := hw_22
                refine va_iast hx hb hE.1 hP hD hS 3 0 rfl rfl (in_n (by omega) (by decide)) dX1_reckon_209 (fun H locs hP hD hS => ?_)
                have hP : va_P D vwCl [(h0, .inr (1, [.ref pg, .ref m1, .ref m2, .ref m3, .ref m4, .ref m5, .ref m6, .int (wy), .int (sta), .int (nx), .int (sp), .int (wr)])), (m3, .inl (ak 0, 16, .inl (gwo))), (m4, .inl (ak 0, 6, .inl (gce))), (m6, .inl (ak 0, 32, .inl (upd (sk) ((nI (tp - 2) : Int32).toNatClampNeg) (r_22))))] H := hP
                have hD : va_D A [(h0, .inr (1, [.ref pg, .ref m1, .ref m2, .ref m3, .ref m4, .ref m5, .ref m6, .int (wy), .int (sta), .int (nx), .int (sp), .int (wr)])), (m3, .inl (ak 0, 16, .inl (gwo))), (m4, .inl (ak 0, 6, .inl (gce))), (m6, .inl (ak 0, 32, .inl (upd (sk) ((nI (tp - 2) : Int32).toNatClampNeg) (r_22))))] := hD
                refine lv_iinc (v := (nI (i + 1))) (lv' := [(5, .int (nI (i + 1))), (3, .int (nI (tp - 1))), (7, .int (x_1)), (6, .int ((fcd i) &&& (15))), (4, .int (nI en)), (0, .ref h0)]) hx hb dX1_reckon_210 hl (k := 3) rfl (nI_1 i) (by decide) rfl (fun ls hl => ?_)
                refine lv_goto (tgt := 23) hx hb dX1_reckon_213 (by decide) ?_
                have hst : rkS gce gwo ln (fcd i) tp sk = (tp - 1, upd (sk) ((nI (tp - 2) : Int32).toNatClampNeg) (r_22)) := (by unfold rkS; first | rw [if_pos ⟨Int32.not_lt.mp c_62, hlt32⟩, if_pos c_78, ← ex_1, nI_clamp (by omega)] | rw [if_pos ⟨Int32.not_lt.mp c_62, hlt32⟩, if_neg c_78, ← ex_1, nI_clamp (by omega)] | rw [if_neg hn1, if_pos ⟨c_103n, h0t⟩, nI_clamp (by omega), hwl] | rw [if_neg hn1, if_neg hn2, if_pos ⟨c_141n, h0t⟩, nI_clamp (by omega), if_pos c_163n] | rw [if_neg hn1, if_neg hn2, if_pos ⟨c_141n, h0t⟩, nI_clamp (by omega), if_neg c_163] | rw [if_neg hn1, if_neg hn2, if_neg hn3, if_pos h1t, nI_clamp (by omega), hjn] | rw [if_neg hn1, if_neg hn2, if_neg hn3, if_neg h1n])
                exact ih (n0) (i + 1) (tp - 1) (upd (sk) ((nI (tp - 2) : Int32).toNatClampNeg) (r_22)) _ _ _ (by omega) (by omega) (by omega) (rkN_step hF hst) (by omega) (hP.sub [0, 1, 2, 3] rfl) (hD.sub [0, 1, 2, 3] (by decide) rfl) hS (lv_sub hl [0, 4, 1, 5] rfl)
            · have c_141n : fcd i &&& 15 = 3 := Classical.not_not.mp c_141_19
              refine lv_iload_n hx hb dX1_reckon_144 rfl (lv_at hl 4 rfl) ?_
              refine lv_if_le (tgt := 175) hx hb dX1_reckon_145 (by decide) (fun c_145_23 => ?_) (fun c_145_23 => ?_)
              · have hn3 : ¬ (fcd i &&& 15 = 3 ∧ 0 < tp) := fun h => absurd c_145_23 (nI_nle h.2 (by omega))
                refine lv_iload_n hx hb dX1_reckon_175 rfl (lv_at hl 4 rfl) ?_
                refine lv_iconst (v := 1) hx hb dX1_reckon_176 (by decide) ?_
                refine lv_icmp_le (tgt := 210) hx hb dX1_reckon_177 (by decide) (fun c_177_24 => ?_) (fun c_177_24 => ?_)
                · have h1n : ¬ 1 < tp := fun h => absurd c_177_24 (Int32.not_le.mpr (nI_lt (a := 1) h (by omega)))
                  refine lv_iinc (v := (nI (i + 1))) (lv' := [(5, .int (nI (i + 1))), (7, .int (x_1)), (6, .int ((fcd i) &&& (15))), (4, .int (nI en)), (3, .int (nI tp)), (0, .ref h0)]) hx hb dX1_reckon_210 hl (k := 2) rfl (nI_1 i) (by decide) rfl (fun ls hl => ?_)
                  refine lv_goto (tgt := 23) hx hb dX1_reckon_213 (by decide) ?_
                  have hst : rkS gce gwo ln (fcd i) tp sk = (tp, sk) := (by unfold rkS; first | rw [if_pos ⟨Int32.not_lt.mp c_62, hlt32⟩, if_pos c_78, ← ex_1, nI_clamp (by omega)] | rw [if_pos ⟨Int32.not_lt.mp c_62, hlt32⟩, if_neg c_78, ← ex_1, nI_clamp (by omega)] | rw [if_neg hn1, if_pos ⟨c_103n, h0t⟩, nI_clamp (by omega), hwl] | rw [if_neg hn1, if_neg hn2, if_pos ⟨c_141n, h0t⟩, nI_clamp (by omega), if_pos c_163n] | rw [if_neg hn1, if_neg hn2, if_pos ⟨c_141n, h0t⟩, nI_clamp (by omega), if_neg c_163] | rw [if_neg hn1, if_neg hn2, if_neg hn3, if_pos h1t, nI_clamp (by omega), hjn] | rw [if_neg hn1, if_neg hn2, if_neg hn3, if_neg h1n])
                  exact ih (n0) (i + 1) (tp) (sk) _ _ _ (by omega) (by omega) (by omega) (rkN_step hF hst) (by omega) (hP.sub [0, 1, 2, 3] rfl) (hD.sub [0, 1, 2, 3] (by decide) rfl) hS (lv_sub hl [0, 3, 4, 5] rfl)
                · have h1t : 1 < tp := Nat.lt_of_not_le (fun h => c_177_24 (nI_le (b := 1) h (by decide)))
                  refine lv_iinc (v := (nI (tp - 1))) (lv' := [(3, .int (nI (tp - 1))), (7, .int (x_1)), (6, .int ((fcd i) &&& (15))), (5, .int (nI i)), (4, .int (nI en)), (0, .ref h0)]) hx hb dX1_reckon_180 hl (k := 4) rfl (by rw [show Int32.ofInt (-1) = -1 from rfl]; exact sb_m1 (by omega)) (by decide) rfl (fun ls hl => ?_)
                  refine lv_aload_n hx hb dX1_reckon_183 rfl (lv_at hl 5 rfl) ?_
                  refine va_get (D := D) (ci := 1) (v := .ref m6) (C := RX1) (T := TX1) (N := 12) hx hb hts (fun w h => List.mem_cons_of_mem _ (List.mem_append_left _ (List.mem_append_right _ h))) hown hE.1 hP 0 rfl rfl 6 (by decide) (hts (.fieldLink RX1 24 "WornLines$Machine" "stack" "[I") (by decide +kernel)) (fun _ h9 => h9) rfl dX1_reckon_184 ?_
                  refine lv_iload_n hx hb dX1_reckon_187 rfl (lv_at hl 0 rfl) ?_
                  refine lv_iconst (v := 1) hx hb dX1_reckon_188 (by decide) ?_
                  refine lv_isub hx hb dX1_reckon_189 ?_
                  refine W.eq (g2 := F0 m 190 ls (.int (nI (tp - 2)) :: .ref m6 :: [])) (by rw [show (1 : Int32) = nI 1 from rfl, pk_sub (by omega)]; rfl) ?_
                  refine lv_iload hx hb dX1_reckon_190 (lv_at hl 2 rfl) ?_
                  refine lv_aload_n hx hb dX1_reckon_192 rfl (lv_at hl 5 rfl) ?_
                  refine va_get (D := D) (ci := 1) (v := .ref m6) (C := RX1) (T := TX1) (N := 12) hx hb hts (fun w h => List.mem_cons_of_mem _ (List.mem_append_left _ (List.mem_append_right _ h))) hown hE.1 hP 0 rfl rfl 6 (by decide) (hts (.fieldLink RX1 24 "WornLines$Machine" "stack" "[I") (by decide +kernel)) (fun _ h9 => h9) rfl dX1_reckon_193 ?_
                  refine lv_iload_n hx hb dX1_reckon_196 rfl (lv_at hl 0 rfl) ?_
                  refine lv_iconst (v := 1) hx hb dX1_reckon_197 (by decide) ?_
                  refine lv_isub hx hb dX1_reckon_198 ?_
                  refine W.eq (g2 := F0 m 199 ls (.int (nI (tp - 2)) :: .ref m6 :: .int ((fcd i) &&& (15)) :: .int (nI (tp - 2)) :: .ref m6 :: [])) (by rw [show (1 : Int32) = nI 1 from rfl, pk_sub (by omega)]; rfl) ?_
                  refine va_iald hx hb hE.1 hP 3 0 rfl rfl (in_n (by omega) (by decide)) dX1_reckon_199 ?_
                  refine W.eq (g2 := F0 m 200 ls (.int (sk (tp - 2)) :: .int ((fcd i) &&& (15)) :: .int (nI (tp - 2)) :: .ref m6 :: [])) (by rw [nI_clamp (by omega)]) ?_
                  refine lv_aload_n hx hb dX1_reckon_200 rfl (lv_at hl 5 rfl) ?_
                  refine va_get (D := D) (ci := 1) (v := .ref m6) (C := RX1) (T := TX1) (N := 12) hx hb hts (fun w h => List.mem_cons_of_mem _ (List.mem_append_left _ (List.mem_append_right _ h))) hown hE.1 hP 0 rfl rfl 6 (by decide) (hts (.fieldLink RX1 24 "WornLines$Machine" "stack" "[I") (by decide +kernel)) (fun _ h9 => h9) rfl dX1_reckon_201 ?_
                  refine lv_iload_n hx hb dX1_reckon_204 rfl (lv_at hl 0 rfl) ?_
                  refine va_iald hx hb hE.1 hP 3 0 rfl rfl (in_n (by omega) (by decide)) dX1_reckon_205 ?_
                  refine W.eq (g2 := F0 m 206 ls (.int (sk (tp - 1)) :: .int (sk (tp - 2)) :: .int ((fcd i) &&& (15)) :: .int (nI (tp - 2)) :: .ref m6 :: [])) (by rw [nI_clamp (by omega)]) ?_
                  refine kc_i (wc := []) (wr := [(h0, .inr (1, [.ref pg, .ref m1, .ref m2, .ref m3, .ref m4, .ref m5, .ref m6, .int (wy), .int (sta), .int (nx), .int (sp), .int (wr)])), (m3, .inl (ak 0, 16, .inl (gwo))), (m4, .inl (ak 0, 6, .inl (gce))), (m6, .inl (ak 0, 32, .inl (sk)))]) hP hD hS hA [] [0, 1, 2, 3] rfl rfl (by decide) (by decide) (va_runS (As := [.int ((fcd i) &&& (15)), .int (sk (tp - 2)), .int (sk (tp - 1))]) (rest := [.int (nI (tp - 2)), .ref m6]) ⟨hx, hb, hml, hown, hts⟩ (c_X1_joined l D ak ad _ ((fcd i) &&& (15)) (sk (tp - 2)) (sk (tp - 1)) ) (va_cwS 3 hts gX1_reckon_X1_joined rfl rfl rfl (by decide +kernel) ⟨Nat.le_trans (Nat.le_of_ble_eq_true rfl) hRf, Nat.le_trans (Nat.le_of_ble_eq_true rfl) hRl⟩) (kc_pre (As := [.int ((fcd i) &&& (15)), .int (sk (tp - 2)), .int (sk (tp - 1))]) (wc := []) hE hT hP hD hS hA [] (by decide) rfl rfl) rfl rfl hl.1 rfl (lv_room (Nat.le_of_ble_eq_true rfl)) dX1_reckon_206 ⟨hRc.1, hRc.2⟩) (fun r_26 u_24 H locs hw_26 hP hD hS => ?_)
                  have hP : va_P D vwCl [(h0, .inr (1, [.ref pg, .ref m1, .ref m2, .ref m3, .ref m4, .ref m5, .ref m6, .int (wy), .int (sta), .int (nx), .int (sp), .int (wr)])), (m3, .inl (ak 0, 16, .inl (gwo))), (m4, .inl (ak 0, 6, .inl (gce))), (m6, .inl (ak 0, 32, .inl (sk)))] H := hP
                  have hD : va_D A [(h0, .inr (1, [.ref pg, .ref m1, .ref m2, .ref m3, .ref m4, .ref m5, .ref m6, .int (wy), .int (sta), .int (nx), .int (sp), .int (wr)])), (m3, .inl (ak 0, 16, .inl (gwo))), (m4, .inl (ak 0, 6, .inl (gce))), (m6, .inl (ak 0, 32, .inl (sk)))] := hD
                  have hjn := hw_26
                  refine va_iast hx hb hE.1 hP hD hS 3 0 rfl rfl (in_n (by omega) (by decide)) dX1_reckon_209 (fun H locs hP hD hS => ?_)
                  have hP : va_P D vwCl [(h0, .inr (1, [.ref pg, .ref m1, .ref m2, .ref m3, .ref m4, .ref m5, .ref m6, .int (wy), .int (sta), .int (nx), .int (sp), .int (wr)])), (m3, .inl (ak 0, 16, .inl (gwo))), (m4, .inl (ak 0, 6, .inl (gce))), (m6, .inl (ak 0, 32, .inl (upd (sk) ((nI (tp - 2) : Int32).toNatClampNeg) (r_26))))] H := hP
                  have hD : va_D A [(h0, .inr (1, [.ref pg, .ref m1, .ref m2, .ref m3, .ref m4, .ref m5, .ref m6, .int (wy), .int (sta), .int (nx), .int (sp), .int (wr)])), (m3, .inl (ak 0, 16, .inl (gwo))), (m4, .inl (ak 0, 6, .inl (gce))), (m6, .inl (ak 0, 32, .inl (upd (sk) ((nI (tp - 2) : Int32).toNatClampNeg) (r_26))))] := hD
                  refine lv_iinc (v := (nI (i + 1))) (lv' := [(5, .int (nI (i + 1))), (3, .int (nI (tp - 1))), (7, .int (x_1)), (6, .int ((fcd i) &&& (15))), (4, .int (nI en)), (0, .ref h0)]) hx hb dX1_reckon_210 hl (k := 3) rfl (nI_1 i) (by decide) rfl (fun ls hl => ?_)
                  refine lv_goto (tgt := 23) hx hb dX1_reckon_213 (by decide) ?_
                  have hst : rkS gce gwo ln (fcd i) tp sk = (tp - 1, upd (sk) ((nI (tp - 2) : Int32).toNatClampNeg) (r_26)) := (by unfold rkS; first | rw [if_pos ⟨Int32.not_lt.mp c_62, hlt32⟩, if_pos c_78, ← ex_1, nI_clamp (by omega)] | rw [if_pos ⟨Int32.not_lt.mp c_62, hlt32⟩, if_neg c_78, ← ex_1, nI_clamp (by omega)] | rw [if_neg hn1, if_pos ⟨c_103n, h0t⟩, nI_clamp (by omega), hwl] | rw [if_neg hn1, if_neg hn2, if_pos ⟨c_141n, h0t⟩, nI_clamp (by omega), if_pos c_163n] | rw [if_neg hn1, if_neg hn2, if_pos ⟨c_141n, h0t⟩, nI_clamp (by omega), if_neg c_163] | rw [if_neg hn1, if_neg hn2, if_neg hn3, if_pos h1t, nI_clamp (by omega), hjn] | rw [if_neg hn1, if_neg hn2, if_neg hn3, if_neg h1n])
                  exact ih (n0) (i + 1) (tp - 1) (upd (sk) ((nI (tp - 2) : Int32).toNatClampNeg) (r_26)) _ _ _ (by omega) (by omega) (by omega) (rkN_step hF hst) (by omega) (hP.sub [0, 1, 2, 3] rfl) (hD.sub [0, 1, 2, 3] (by decide) rfl) hS (lv_sub hl [0, 4, 1, 5] rfl)
              · have h0t : 0 < tp := Nat.pos_of_ne_zero (fun h => c_145_23 (by rw [h]; decide))
                refine lv_aload_n hx hb dX1_reckon_148 rfl (lv_at hl 5 rfl) ?_
                refine va_get (D := D) (ci := 1) (v := .ref m6) (C := RX1) (T := TX1) (N := 12) hx hb hts (fun w h => List.mem_cons_of_mem _ (List.mem_append_left _ (List.mem_append_right _ h))) hown hE.1 hP 0 rfl rfl 6 (by decide) (hts (.fieldLink RX1 24 "WornLines$Machine" "stack" "[I") (by decide +kernel)) (fun _ h9 => h9) rfl dX1_reckon_149 ?_
                refine lv_iload_n hx hb dX1_reckon_152 rfl (lv_at hl 4 rfl) ?_
                refine lv_iconst (v := 1) hx hb dX1_reckon_153 (by decide) ?_
                refine lv_isub hx hb dX1_reckon_154 ?_
                refine W.eq (g2 := F0 m 155 ls (.int (nI (tp - 1)) :: .ref m6 :: [])) (by rw [show (1 : Int32) = nI 1 from rfl, pk_sub (by omega)]) ?_
                refine lv_aload_n hx hb dX1_reckon_155 rfl (lv_at hl 5 rfl) ?_
                refine va_get (D := D) (ci := 1) (v := .ref m6) (C := RX1) (T := TX1) (N := 12) hx hb hts (fun w h => List.mem_cons_of_mem _ (List.mem_append_left _ (List.mem_append_right _ h))) hown hE.1 hP 0 rfl rfl 6 (by decide) (hts (.fieldLink RX1 24 "WornLines$Machine" "stack" "[I") (by decide +kernel)) (fun _ h9 => h9) rfl dX1_reckon_156 ?_
                refine lv_iload_n hx hb dX1_reckon_159 rfl (lv_at hl 4 rfl) ?_
                refine lv_iconst (v := 1) hx hb dX1_reckon_160 (by decide) ?_
                refine lv_isub hx hb dX1_reckon_161 ?_
                refine W.eq (g2 := F0 m 162 ls (.int (nI (tp - 1)) :: .ref m6 :: .int (nI (tp - 1)) :: .ref m6 :: [])) (by rw [show (1 : Int32) = nI 1 from rfl, pk_sub (by omega)]) ?_
                refine va_iald hx hb hE.1 hP 3 0 rfl rfl (in_n (by omega) (by decide)) dX1_reckon_162 ?_
                refine W.eq (g2 := F0 m 163 ls (.int (sk (tp - 1)) :: .int (nI (tp - 1)) :: .ref m6 :: [])) (by rw [nI_clamp (by omega)]) ?_
                refine lv_if_ne (tgt := 170) hx hb dX1_reckon_163 (by decide) (fun c_163_27 => ?_) (fun c_163_27 => ?_)
                · refine lv_iconst (v := 0) hx hb dX1_reckon_170 (by decide) ?_
                  refine va_iast hx hb hE.1 hP hD hS 3 0 rfl rfl (in_n (by omega) (by decide)) dX1_reckon_171 (fun H locs hP hD hS => ?_)
                  have hP : va_P D vwCl [(h0, .inr (1, [.ref pg, .ref m1, .ref m2, .ref m3, .ref m4, .ref m5, .ref m6, .int (wy), .int (sta), .int (nx), .int (sp), .int (wr)])), (m3, .inl (ak 0, 16, .inl (gwo))), (m4, .inl (ak 0, 6, .inl (gce))), (m6, .inl (ak 0, 32, .inl (upd (sk) ((nI (tp - 1) : Int32).toNatClampNeg) (0))))] H := hP
                  have hD : va_D A [(h0, .inr (1, [.ref pg, .ref m1, .ref m2, .ref m3, .ref m4, .ref m5, .ref m6, .int (wy), .int (sta), .int (nx), .int (sp), .int (wr)])), (m3, .inl (ak 0, 16, .inl (gwo))), (m4, .inl (ak 0, 6, .inl (gce))), (m6, .inl (ak 0, 32, .inl (upd (sk) ((nI (tp - 1) : Int32).toNatClampNeg) (0))))] := hD
                  refine lv_goto (tgt := 210) hx hb dX1_reckon_172 (by decide) ?_
                  refine lv_iinc (v := (nI (i + 1))) (lv' := [(5, .int (nI (i + 1))), (7, .int (x_1)), (6, .int ((fcd i) &&& (15))), (4, .int (nI en)), (3, .int (nI tp)), (0, .ref h0)]) hx hb dX1_reckon_210 hl (k := 2) rfl (nI_1 i) (by decide) rfl (fun ls hl => ?_)
                  refine lv_goto (tgt := 23) hx hb dX1_reckon_213 (by decide) ?_
                  have hst : rkS gce gwo ln (fcd i) tp sk = (tp, upd (sk) ((nI (tp - 1) : Int32).toNatClampNeg) (0)) := (by unfold rkS; first | rw [if_pos ⟨Int32.not_lt.mp c_62, hlt32⟩, if_pos c_78, ← ex_1, nI_clamp (by omega)] | rw [if_pos ⟨Int32.not_lt.mp c_62, hlt32⟩, if_neg c_78, ← ex_1, nI_clamp (by omega)] | rw [if_neg hn1, if_pos ⟨c_103n, h0t⟩, nI_clamp (by omega), hwl] | rw [if_neg hn1, if_neg hn2, if_pos ⟨c_141n, h0t⟩, nI_clamp (by omega), if_pos c_163n] | rw [if_neg hn1, if_neg hn2, if_pos ⟨c_141n, h0t⟩, nI_clamp (by omega), if_neg c_163] | rw [if_neg hn1, if_neg hn2, if_neg hn3, if_pos h1t, nI_clamp (by omega), hjn] | rw [if_neg hn1, if_neg hn2, if_neg hn3, if_neg h1n])
                  exact ih (n0) (i + 1) (tp) (upd (sk) ((nI (tp - 1) : Int32).toNatClampNeg) (0)) _ _ _ (by omega) (by omega) (by omega) (rkN_step hF hst) (by omega) (hP.sub [0, 1, 2, 3] rfl) (hD.sub [0, 1, 2, 3] (by decide) rfl) hS (lv_sub hl [0, 3, 4, 5] rfl)
                · have c_163n : sk (tp - 1) = 0 := Classical.not_not.mp c_163_27
                  refine lv_iconst (v := 1) hx hb dX1_reckon_166 (by decide) ?_
                  refine lv_goto (tgt := 171) hx hb dX1_reckon_167 (by decide) ?_
                  refine va_iast hx hb hE.1 hP hD hS 3 0 rfl rfl (in_n (by omega) (by decide)) dX1_reckon_171 (fun H locs hP hD hS => ?_)
                  have hP : va_P D vwCl [(h0, .inr (1, [.ref pg, .ref m1, .ref m2, .ref m3, .ref m4, .ref m5, .ref m6, .int (wy), .int (sta), .int (nx), .int (sp), .int (wr)])), (m3, .inl (ak 0, 16, .inl (gwo))), (m4, .inl (ak 0, 6, .inl (gce))), (m6, .inl (ak 0, 32, .inl (upd (sk) ((nI (tp - 1) : Int32).toNatClampNeg) (1))))] H := hP
                  have hD : va_D A [(h0, .inr (1, [.ref pg, .ref m1, .ref m2, .ref m3, .ref m4, .ref m5, .ref m6, .int (wy), .int (sta), .int (nx), .int (sp), .int (wr)])), (m3, .inl (ak 0, 16, .inl (gwo))), (m4, .inl (ak 0, 6, .inl (gce))), (m6, .inl (ak 0, 32, .inl (upd (sk) ((nI (tp - 1) : Int32).toNatClampNeg) (1))))] := hD
                  refine lv_goto (tgt := 210) hx hb dX1_reckon_172 (by decide) ?_
                  refine lv_iinc (v := (nI (i + 1))) (lv' := [(5, .int (nI (i + 1))), (7, .int (x_1)), (6, .int ((fcd i) &&& (15))), (4, .int (nI en)), (3, .int (nI tp)), (0, .ref h0)]) hx hb dX1_reckon_210 hl (k := 2) rfl (nI_1 i) (by decide) rfl (fun ls hl => ?_)
                  refine lv_goto (tgt := 23) hx hb dX1_reckon_213 (by decide) ?_
                  have hst : rkS gce gwo ln (fcd i) tp sk = (tp, upd (sk) ((nI (tp - 1) : Int32).toNatClampNeg) (1)) := (by unfold rkS; first | rw [if_pos ⟨Int32.not_lt.mp c_62, hlt32⟩, if_pos c_78, ← ex_1, nI_clamp (by omega)] | rw [if_pos ⟨Int32.not_lt.mp c_62, hlt32⟩, if_neg c_78, ← ex_1, nI_clamp (by omega)] | rw [if_neg hn1, if_pos ⟨c_103n, h0t⟩, nI_clamp (by omega), hwl] | rw [if_neg hn1, if_neg hn2, if_pos ⟨c_141n, h0t⟩, nI_clamp (by omega), if_pos c_163n] | rw [if_neg hn1, if_neg hn2, if_pos ⟨c_141n, h0t⟩, nI_clamp (by omega), if_neg c_163] | rw [if_neg hn1, if_neg hn2, if_neg hn3, if_pos h1t, nI_clamp (by omega), hjn] | rw [if_neg hn1, if_neg hn2, if_neg hn3, if_neg h1n])
                  exact ih (n0) (i + 1) (tp) (upd (sk) ((nI (tp - 1) : Int32).toNatClampNeg) (1)) _ _ _ (by omega) (by omega) (by omega) (rkN_step hF hst) (by omega) (hP.sub [0, 1, 2, 3] rfl) (hD.sub [0, 1, 2, 3] (by decide) rfl) hS (lv_sub hl [0, 3, 4, 5] rfl)
          · have c_103n : fcd i &&& 15 = 2 := Classical.not_not.mp c_103_18
            refine lv_iload_n hx hb dX1_reckon_106 rfl (lv_at hl 4 rfl) ?_
            refine lv_if_le (tgt := 138) hx hb dX1_reckon_107 (by decide) (fun c_107_28 => ?_) (fun c_107_28 => ?_)
            · have hn2 : ¬ (fcd i &&& 15 = 2 ∧ 0 < tp) := fun h => absurd c_107_28 (nI_nle h.2 (by omega))
              refine lv_iload hx hb dX1_reckon_138 (lv_at hl 1 rfl) ?_
              refine lv_iconst (v := 3) hx hb dX1_reckon_140 (by decide) ?_
              refine lv_icmp_ne (tgt := 175) hx hb dX1_reckon_141 (by decide) (fun c_141_29 => ?_) (fun c_141_29 => ?_)
              · have hn3 : ¬ (fcd i &&& 15 = 3 ∧ 0 < tp) := fun h => c_141_29 h.1
                refine lv_iload_n hx hb dX1_reckon_175 rfl (lv_at hl 4 rfl) ?_
                refine lv_iconst (v := 1) hx hb dX1_reckon_176 (by decide) ?_
                refine lv_icmp_le (tgt := 210) hx hb dX1_reckon_177 (by decide) (fun c_177_30 => ?_) (fun c_177_30 => ?_)
                · have h1n : ¬ 1 < tp := fun h => absurd c_177_30 (Int32.not_le.mpr (nI_lt (a := 1) h (by omega)))
                  refine lv_iinc (v := (nI (i + 1))) (lv' := [(5, .int (nI (i + 1))), (7, .int (x_1)), (6, .int ((fcd i) &&& (15))), (4, .int (nI en)), (3, .int (nI tp)), (0, .ref h0)]) hx hb dX1_reckon_210 hl (k := 2) rfl (nI_1 i) (by decide) rfl (fun ls hl => ?_)
                  refine lv_goto (tgt := 23) hx hb dX1_reckon_213 (by decide) ?_
                  have hst : rkS gce gwo ln (fcd i) tp sk = (tp, sk) := (by unfold rkS; first | rw [if_pos ⟨Int32.not_lt.mp c_62, hlt32⟩, if_pos c_78, ← ex_1, nI_clamp (by omega)] | rw [if_pos ⟨Int32.not_lt.mp c_62, hlt32⟩, if_neg c_78, ← ex_1, nI_clamp (by omega)] | rw [if_neg hn1, if_pos ⟨c_103n, h0t⟩, nI_clamp (by omega), hwl] | rw [if_neg hn1, if_neg hn2, if_pos ⟨c_141n, h0t⟩, nI_clamp (by omega), if_pos c_163n] | rw [if_neg hn1, if_neg hn2, if_pos ⟨c_141n, h0t⟩, nI_clamp (by omega), if_neg c_163] | rw [if_neg hn1, if_neg hn2, if_neg hn3, if_pos h1t, nI_clamp (by omega), hjn] | rw [if_neg hn1, if_neg hn2, if_neg hn3, if_neg h1n])
                  exact ih (n0) (i + 1) (tp) (sk) _ _ _ (by omega) (by omega) (by omega) (rkN_step hF hst) (by omega) (hP.sub [0, 1, 2, 3] rfl) (hD.sub [0, 1, 2, 3] (by decide) rfl) hS (lv_sub hl [0, 3, 4, 5] rfl)
                · have h1t : 1 < tp := Nat.lt_of_not_le (fun h => c_177_30 (nI_le (b := 1) h (by decide)))
                  refine lv_iinc (v := (nI (tp - 1))) (lv' := [(3, .int (nI (tp - 1))), (7, .int (x_1)), (6, .int ((fcd i) &&& (15))), (5, .int (nI i)), (4, .int (nI en)), (0, .ref h0)]) hx hb dX1_reckon_180 hl (k := 4) rfl (by rw [show Int32.ofInt (-1) = -1 from rfl]; exact sb_m1 (by omega)) (by decide) rfl (fun ls hl => ?_)
                  refine lv_aload_n hx hb dX1_reckon_183 rfl (lv_at hl 5 rfl) ?_
                  refine va_get (D := D) (ci := 1) (v := .ref m6) (C := RX1) (T := TX1) (N := 12) hx hb hts (fun w h => List.mem_cons_of_mem _ (List.mem_append_left _ (List.mem_append_right _ h))) hown hE.1 hP 0 rfl rfl 6 (by decide) (hts (.fieldLink RX1 24 "WornLines$Machine" "stack" "[I") (by decide +kernel)) (fun _ h9 => h9) rfl dX1_reckon_184 ?_
                  refine lv_iload_n hx hb dX1_reckon_187 rfl (lv_at hl 0 rfl) ?_
                  refine lv_iconst (v := 1) hx hb dX1_reckon_188 (by decide) ?_
                  refine lv_isub hx hb dX1_reckon_189 ?_
                  refine W.eq (g2 := F0 m 190 ls (.int (nI (tp - 2)) :: .ref m6 :: [])) (by rw [show (1 : Int32) = nI 1 from rfl, pk_sub (by omega)]; rfl) ?_
                  refine lv_iload hx hb dX1_reckon_190 (lv_at hl 2 rfl) ?_
                  refine lv_aload_n hx hb dX1_reckon_192 rfl (lv_at hl 5 rfl) ?_
                  refine va_get (D := D) (ci := 1) (v := .ref m6) (C := RX1) (T := TX1) (N := 12) hx hb hts (fun w h => List.mem_cons_of_mem _ (List.mem_append_left _ (List.mem_append_right _ h))) hown hE.1 hP 0 rfl rfl 6 (by decide) (hts (.fieldLink RX1 24 "WornLines$Machine" "stack" "[I") (by decide +kernel)) (fun _ h9 => h9) rfl dX1_reckon_193 ?_
                  refine lv_iload_n hx hb dX1_reckon_196 rfl (lv_at hl 0 rfl) ?_
                  refine lv_iconst (v := 1) hx hb dX1_reckon_197 (by decide) ?_
                  refine lv_isub hx hb dX1_reckon_198 ?_
                  refine W.eq (g2 := F0 m 199 ls (.int (nI (tp - 2)) :: .ref m6 :: .int ((fcd i) &&& (15)) :: .int (nI (tp - 2)) :: .ref m6 :: [])) (by rw [show (1 : Int32) = nI 1 from rfl, pk_sub (by omega)]; rfl) ?_
                  refine va_iald hx hb hE.1 hP 3 0 rfl rfl (in_n (by omega) (by decide)) dX1_reckon_199 ?_
                  refine W.eq (g2 := F0 m 200 ls (.int (sk (tp - 2)) :: .int ((fcd i) &&& (15)) :: .int (nI (tp - 2)) :: .ref m6 :: [])) (by rw [nI_clamp (by omega)]) ?_
                  refine lv_aload_n hx hb dX1_reckon_200 rfl (lv_at hl 5 rfl) ?_
                  refine va_get (D := D) (ci := 1) (v := .ref m6) (C := RX1) (T := TX1) (N := 12) hx hb hts (fun w h => List.mem_cons_of_mem _ (List.mem_append_left _ (List.mem_append_right _ h))) hown hE.1 hP 0 rfl rfl 6 (by decide) (hts (.fieldLink RX1 24 "WornLines$Machine" "stack" "[I") (by decide +kernel)) (fun _ h9 => h9) rfl dX1_reckon_201 ?_
                  refine lv_iload_n hx hb dX1_reckon_204 rfl (lv_at hl 0 rfl) ?_
                  refine va_iald hx hb hE.1 hP 3 0 rfl rfl (in_n (by omega) (by decide)) dX1_reckon_205 ?_
                  refine W.eq (g2 := F0 m 206 ls (.int (sk (tp - 1)) :: .int (sk (tp - 2)) :: .int ((fcd i) &&& (15)) :: .int (nI (tp - 2)) :: .ref m6 :: [])) (by rw [nI_clamp (by omega)]) ?_
                  refine kc_i (wc := []) (wr := [(h0, .inr (1, [.ref pg, .ref m1, .ref m2, .ref m3, .ref m4, .ref m5, .ref m6, .int (wy), .int (sta), .int (nx), .int (sp), .int (wr)])), (m3, .inl (ak 0, 16, .inl (gwo))), (m4, .inl (ak 0, 6, .inl (gce))), (m6, .inl (ak 0, 32, .inl (sk)))]) hP hD hS hA [] [0, 1, 2, 3] rfl rfl (by decide) (by decide) (va_runS (As := [.int ((fcd i) &&& (15)), .int (sk (tp - 2)), .int (sk (tp - 1))]) (rest := [.int (nI (tp - 2)), .ref m6]) ⟨hx, hb, hml, hown, hts⟩ (c_X1_joined l D ak ad _ ((fcd i) &&& (15)) (sk (tp - 2)) (sk (tp - 1)) ) (va_cwS 3 hts gX1_reckon_X1_joined rfl rfl rfl (by decide +kernel) ⟨Nat.le_trans (Nat.le_of_ble_eq_true rfl) hRf, Nat.le_trans (Nat.le_of_ble_eq_true rfl) hRl⟩) (kc_pre (As := [.int ((fcd i) &&& (15)), .int (sk (tp - 2)), .int (sk (tp - 1))]) (wc := []) hE hT hP hD hS hA [] (by decide) rfl rfl) rfl rfl hl.1 rfl (lv_room (Nat.le_of_ble_eq_true rfl)) dX1_reckon_206 ⟨hRc.1, hRc.2⟩) (fun r_32 u_30 H locs hw_32 hP hD hS => ?_)
                  have hP : va_P D vwCl [(h0, .inr (1, [.ref pg, .ref m1, .ref m2, .ref m3, .ref m4, .ref m5, .ref m6, .int (wy), .int (sta), .int (nx), .int (sp), .int (wr)])), (m3, .inl (ak 0, 16, .inl (gwo))), (m4, .inl (ak 0, 6, .inl (gce))), (m6, .inl (ak 0, 32, .inl (sk)))] H := hP
                  have hD : va_D A [(h0, .inr (1, [.ref pg, .ref m1, .ref m2, .ref m3, .ref m4, .ref m5, .ref m6, .int (wy), .int (sta), .int (nx), .int (sp), .int (wr)])), (m3, .inl (ak 0, 16, .inl (gwo))), (m4, .inl (ak 0, 6, .inl (gce))), (m6, .inl (ak 0, 32, .inl (sk)))] := hD
                  have hjn := hw_32
                  refine va_iast hx hb hE.1 hP hD hS 3 0 rfl rfl (in_n (by omega) (by decide)) dX1_reckon_209 (fun H locs hP hD hS => ?_)
                  have hP : va_P D vwCl [(h0, .inr (1, [.ref pg, .ref m1, .ref m2, .ref m3, .ref m4, .ref m5, .ref m6, .int (wy), .int (sta), .int (nx), .int (sp), .int (wr)])), (m3, .inl (ak 0, 16, .inl (gwo))), (m4, .inl (ak 0, 6, .inl (gce))), (m6, .inl (ak 0, 32, .inl (upd (sk) ((nI (tp - 2) : Int32).toNatClampNeg) (r_32))))] H := hP
                  have hD : va_D A [(h0, .inr (1, [.ref pg, .ref m1, .ref m2, .ref m3, .ref m4, .ref m5, .ref m6, .int (wy), .int (sta), .int (nx), .int (sp), .int (wr)])), (m3, .inl (ak 0, 16, .inl (gwo))), (m4, .inl (ak 0, 6, .inl (gce))), (m6, .inl (ak 0, 32, .inl (upd (sk) ((nI (tp - 2) : Int32).toNatClampNeg) (r_32))))] := hD
                  refine lv_iinc (v := (nI (i + 1))) (lv' := [(5, .int (nI (i + 1))), (3, .int (nI (tp - 1))), (7, .int (x_1)), (6, .int ((fcd i) &&& (15))), (4, .int (nI en)), (0, .ref h0)]) hx hb dX1_reckon_210 hl (k := 3) rfl (nI_1 i) (by decide) rfl (fun ls hl => ?_)
                  refine lv_goto (tgt := 23) hx hb dX1_reckon_213 (by decide) ?_
                  have hst : rkS gce gwo ln (fcd i) tp sk = (tp - 1, upd (sk) ((nI (tp - 2) : Int32).toNatClampNeg) (r_32)) := (by unfold rkS; first | rw [if_pos ⟨Int32.not_lt.mp c_62, hlt32⟩, if_pos c_78, ← ex_1, nI_clamp (by omega)] | rw [if_pos ⟨Int32.not_lt.mp c_62, hlt32⟩, if_neg c_78, ← ex_1, nI_clamp (by omega)] | rw [if_neg hn1, if_pos ⟨c_103n, h0t⟩, nI_clamp (by omega), hwl] | rw [if_neg hn1, if_neg hn2, if_pos ⟨c_141n, h0t⟩, nI_clamp (by omega), if_pos c_163n] | rw [if_neg hn1, if_neg hn2, if_pos ⟨c_141n, h0t⟩, nI_clamp (by omega), if_neg c_163] | rw [if_neg hn1, if_neg hn2, if_neg hn3, if_pos h1t, nI_clamp (by omega), hjn] | rw [if_neg hn1, if_neg hn2, if_neg hn3, if_neg h1n])
                  exact ih (n0) (i + 1) (tp - 1) (upd (sk) ((nI (tp - 2) : Int32).toNatClampNeg) (r_32)) _ _ _ (by omega) (by omega) (by omega) (rkN_step hF hst) (by omega) (hP.sub [0, 1, 2, 3] rfl) (hD.sub [0, 1, 2, 3] (by decide) rfl) hS (lv_sub hl [0, 4, 1, 5] rfl)
              · have c_141n : fcd i &&& 15 = 3 := Classical.not_not.mp c_141_29
                refine lv_iload_n hx hb dX1_reckon_144 rfl (lv_at hl 4 rfl) ?_
                refine lv_if_le (tgt := 175) hx hb dX1_reckon_145 (by decide) (fun c_145_33 => ?_) (fun c_145_33 => ?_)
                · have hn3 : ¬ (fcd i &&& 15 = 3 ∧ 0 < tp) := fun h => absurd c_145_33 (nI_nle h.2 (by omega))
                  refine lv_iload_n hx hb dX1_reckon_175 rfl (lv_at hl 4 rfl) ?_
                  refine lv_iconst (v := 1) hx hb dX1_reckon_176 (by decide) ?_
                  refine lv_icmp_le (tgt := 210) hx hb dX1_reckon_177 (by decide) (fun c_177_34 => ?_) (fun c_177_34 => ?_)
                  · have h1n : ¬ 1 < tp := fun h => absurd c_177_34 (Int32.not_le.mpr (nI_lt (a := 1) h (by omega)))
                    refine lv_iinc (v := (nI (i + 1))) (lv' := [(5, .int (nI (i + 1))), (7, .int (x_1)), (6, .int ((fcd i) &&& (15))), (4, .int (nI en)), (3, .int (nI tp)), (0, .ref h0)]) hx hb dX1_reckon_210 hl (k := 2) rfl (nI_1 i) (by decide) rfl (fun ls hl => ?_)
                    refine lv_goto (tgt := 23) hx hb dX1_reckon_213 (by decide) ?_
                    have hst : rkS gce gwo ln (fcd i) tp sk = (tp, sk) := (by unfold rkS; first | rw [if_pos ⟨Int32.not_lt.mp c_62, hlt32⟩, if_pos c_78, ← ex_1, nI_clamp (by omega)] | rw [if_pos ⟨Int32.not_lt.mp c_62, hlt32⟩, if_neg c_78, ← ex_1, nI_clamp (by omega)] | rw [if_neg hn1, if_pos ⟨c_103n, h0t⟩, nI_clamp (by omega), hwl] | rw [if_neg hn1, if_neg hn2, if_pos ⟨c_141n, h0t⟩, nI_clamp (by omega), if_pos c_163n] | rw [if_neg hn1, if_neg hn2, if_pos ⟨c_141n, h0t⟩, nI_clamp (by omega), if_neg c_163] | rw [if_neg hn1, if_neg hn2, if_neg hn3, if_pos h1t, nI_clamp (by omega), hjn] | rw [if_neg hn1, if_neg hn2, if_neg hn3, if_neg h1n])
                    exact ih (n0) (i + 1) (tp) (sk) _ _ _ (by omega) (by omega) (by omega) (rkN_step hF hst) (by omega) (hP.sub [0, 1, 2, 3] rfl) (hD.sub [0, 1, 2, 3] (by decide) rfl) hS (lv_sub hl [0, 3, 4, 5] rfl)
                  · have h1t : 1 < tp := Nat.lt_of_not_le (fun h => c_177_34 (nI_le (b := 1) h (by decide)))
                    refine lv_iinc (v := (nI (tp - 1))) (lv' := [(3, .int (nI (tp - 1))), (7, .int (x_1)), (6, .int ((fcd i) &&& (15))), (5, .int (nI i)), (4, .int (nI en)), (0, .ref h0)]) hx hb dX1_reckon_180 hl (k := 4) rfl (by rw [show Int32.ofInt (-1) = -1 from rfl]; exact sb_m1 (by omega)) (by decide) rfl (fun ls hl => ?_)
                    refine lv_aload_n hx hb dX1_reckon_183 rfl (lv_at hl 5 rfl) ?_
                    refine va_get (D := D) (ci := 1) (v := .ref m6) (C := RX1) (T := TX1) (N := 12) hx hb hts (fun w h => List.mem_cons_of_mem _ (List.mem_append_left _ (List.mem_append_right _ h))) hown hE.1 hP 0 rfl rfl 6 (by decide) (hts (.fieldLink RX1 24 "WornLines$Machine" "stack" "[I") (by decide +kernel)) (fun _ h9 => h9) rfl dX1_reckon_184 ?_
                    refine lv_iload_n hx hb dX1_reckon_187 rfl (lv_at hl 0 rfl) ?_
                    refine lv_iconst (v := 1) hx hb dX1_reckon_188 (by decide) ?_
                    refine lv_isub hx hb dX1_reckon_189 ?_
                    refine W.eq (g2 := F0 m 190 ls (.int (nI (tp - 2)) :: .ref m6 :: [])) (by rw [show (1 : Int32) = nI 1 from rfl, pk_sub (by omega)]; rfl) ?_
                    refine lv_iload hx hb dX1_reckon_190 (lv_at hl 2 rfl) ?_
                    refine lv_aload_n hx hb dX1_reckon_192 rfl (lv_at hl 5 rfl) ?_
                    refine va_get (D := D) (ci := 1) (v := .ref m6) (C := RX1) (T := TX1) (N := 12) hx hb hts (fun w h => List.mem_cons_of_mem _ (List.mem_append_left _ (List.mem_append_right _ h))) hown hE.1 hP 0 rfl rfl 6 (by decide) (hts (.fieldLink RX1 24 "WornLines$Machine" "stack" "[I") (by decide +kernel)) (fun _ h9 => h9) rfl dX1_reckon_193 ?_
                    refine lv_iload_n hx hb dX1_reckon_196 rfl (lv_at hl 0 rfl) ?_
                    refine lv_iconst (v := 1) hx hb dX1_reckon_197 (by decide) ?_
                    refine lv_isub hx hb dX1_reckon_198 ?_
                    refine W.eq (g2 := F0 m 199 ls (.int (nI (tp - 2)) :: .ref m6 :: .int ((fcd i) &&& (15)) :: .int (nI (tp - 2)) :: .ref m6 :: [])) (by rw [show (1 : Int32) = nI 1 from rfl, pk_sub (by omega)]; rfl) ?_
                    refine va_iald hx hb hE.1 hP 3 0 rfl rfl (in_n (by omega) (by decide)) dX1_reckon_199 ?_
                    refine W.eq (g2 := F0 m 200 ls (.int (sk (tp - 2)) :: .int ((fcd i) &&& (15)) :: .int (nI (tp - 2)) :: .ref m6 :: [])) (by rw [nI_clamp (by omega)]) ?_
                    refine lv_aload_n hx hb dX1_reckon_200 rfl (lv_at hl 5 rfl) ?_
                    refine va_get (D := D) (ci := 1) (v := .ref m6) (C := RX1) (T := TX1) (N := 12) hx hb hts (fun w h => List.mem_cons_of_mem _ (List.mem_append_left _ (List.mem_append_right _ h))) hown hE.1 hP 0 rfl rfl 6 (by decide) (hts (.fieldLink RX1 24 "WornLines$Machine" "stack" "[I") (by decide +kernel)) (fun _ h9 => h9) rfl dX1_reckon_201 ?_
                    refine lv_iload_n hx hb dX1_reckon_204 rfl (lv_at hl 0 rfl) ?_
                    refine va_iald hx hb hE.1 hP 3 0 rfl rfl (in_n (by omega) (by decide)) dX1_reckon_205 ?_
                    refine W.eq (g2 := F0 m 206 ls (.int (sk (tp - 1)) :: .int (sk (tp - 2)) :: .int ((fcd i) &&& (15)) :: .int (nI (tp - 2)) :: .ref m6 :: [])) (by rw [nI_clamp (by omega)]) ?_
                    refine kc_i (wc := []) (wr := [(h0, .inr (1, [.ref pg, .ref m1, .ref m2, .ref m3, .ref m4, .ref m5, .ref m6, .int (wy), .int (sta), .int (nx), .int (sp), .int (wr)])), (m3, .inl (ak 0, 16, .inl (gwo))), (m4, .inl (ak 0, 6, .inl (gce))), (m6, .inl (ak 0, 32, .inl (sk)))]) hP hD hS hA [] [0, 1, 2, 3] rfl rfl (by decide) (by decide) (va_runS (As := [.int ((fcd i) &&& (15)), .int (sk (tp - 2)), .int (sk (tp - 1))]) (rest := [.int (nI (tp - 2)), .ref m6]) ⟨hx, hb, hml, hown, hts⟩ (c_X1_joined l D ak ad _ ((fcd i) &&& (15)) (sk (tp - 2)) (sk (tp - 1)) ) (va_cwS 3 hts gX1_reckon_X1_joined rfl rfl rfl (by decide +kernel) ⟨Nat.le_trans (Nat.le_of_ble_eq_true rfl) hRf, Nat.le_trans (Nat.le_of_ble_eq_true rfl) hRl⟩) (kc_pre (As := [.int ((fcd i) &&& (15)), .int (sk (tp - 2)), .int (sk (tp - 1))]) (wc := []) hE hT hP hD hS hA [] (by decide) rfl rfl) rfl rfl hl.1 rfl (lv_room (Nat.le_of_ble_eq_true rfl)) dX1_reckon_206 ⟨hRc.1, hRc.2⟩) (fun r_36 u_34 H locs hw_36 hP hD hS => ?_)
                    have hP : va_P D vwCl [(h0, .inr (1, [.ref pg, .ref m1, .ref m2, .ref m3, .ref m4, .ref m5, .ref m6, .int (wy), .int (sta), .int (nx), .int (sp), .int (wr)])), (m3, .inl (ak 0, 16, .inl (gwo))), (m4, .inl (ak 0, 6, .inl (gce))), (m6, .inl (ak 0, 32, .inl (sk)))] H := hP
                    have hD : va_D A [(h0, .inr (1, [.ref pg, .ref m1, .ref m2, .ref m3, .ref m4, .ref m5, .ref m6, .int (wy), .int (sta), .int (nx), .int (sp), .int (wr)])), (m3, .inl (ak 0, 16, .inl (gwo))), (m4, .inl (ak 0, 6, .inl (gce))), (m6, .inl (ak 0, 32, .inl (sk)))] := hD
                    have hjn := hw_36
                    refine va_iast hx hb hE.1 hP hD hS 3 0 rfl rfl (in_n (by omega) (by decide)) dX1_reckon_209 (fun H locs hP hD hS => ?_)
                    have hP : va_P D vwCl [(h0, .inr (1, [.ref pg, .ref m1, .ref m2, .ref m3, .ref m4, .ref m5, .ref m6, .int (wy), .int (sta), .int (nx), .int (sp), .int (wr)])), (m3, .inl (ak 0, 16, .inl (gwo))), (m4, .inl (ak 0, 6, .inl (gce))), (m6, .inl (ak 0, 32, .inl (upd (sk) ((nI (tp - 2) : Int32).toNatClampNeg) (r_36))))] H := hP
                    have hD : va_D A [(h0, .inr (1, [.ref pg, .ref m1, .ref m2, .ref m3, .ref m4, .ref m5, .ref m6, .int (wy), .int (sta), .int (nx), .int (sp), .int (wr)])), (m3, .inl (ak 0, 16, .inl (gwo))), (m4, .inl (ak 0, 6, .inl (gce))), (m6, .inl (ak 0, 32, .inl (upd (sk) ((nI (tp - 2) : Int32).toNatClampNeg) (r_36))))] := hD
                    refine lv_iinc (v := (nI (i + 1))) (lv' := [(5, .int (nI (i + 1))), (3, .int (nI (tp - 1))), (7, .int (x_1)), (6, .int ((fcd i) &&& (15))), (4, .int (nI en)), (0, .ref h0)]) hx hb dX1_reckon_210 hl (k := 3) rfl (nI_1 i) (by decide) rfl (fun ls hl => ?_)
                    refine lv_goto (tgt := 23) hx hb dX1_reckon_213 (by decide) ?_
                    have hst : rkS gce gwo ln (fcd i) tp sk = (tp - 1, upd (sk) ((nI (tp - 2) : Int32).toNatClampNeg) (r_36)) := (by unfold rkS; first | rw [if_pos ⟨Int32.not_lt.mp c_62, hlt32⟩, if_pos c_78, ← ex_1, nI_clamp (by omega)] | rw [if_pos ⟨Int32.not_lt.mp c_62, hlt32⟩, if_neg c_78, ← ex_1, nI_clamp (by omega)] | rw [if_neg hn1, if_pos ⟨c_103n, h0t⟩, nI_clamp (by omega), hwl] | rw [if_neg hn1, if_neg hn2, if_pos ⟨c_141n, h0t⟩, nI_clamp (by omega), if_pos c_163n] | rw [if_neg hn1, if_neg hn2, if_pos ⟨c_141n, h0t⟩, nI_clamp (by omega), if_neg c_163] | rw [if_neg hn1, if_neg hn2, if_neg hn3, if_pos h1t, nI_clamp (by omega), hjn] | rw [if_neg hn1, if_neg hn2, if_neg hn3, if_neg h1n])
                    exact ih (n0) (i + 1) (tp - 1) (upd (sk) ((nI (tp - 2) : Int32).toNatClampNeg) (r_36)) _ _ _ (by omega) (by omega) (by omega) (rkN_step hF hst) (by omega) (hP.sub [0, 1, 2, 3] rfl) (hD.sub [0, 1, 2, 3] (by decide) rfl) hS (lv_sub hl [0, 4, 1, 5] rfl)
                · have h0t : 0 < tp := Nat.pos_of_ne_zero (fun h => c_145_33 (by rw [h]; decide))
                  refine lv_aload_n hx hb dX1_reckon_148 rfl (lv_at hl 5 rfl) ?_
                  refine va_get (D := D) (ci := 1) (v := .ref m6) (C := RX1) (T := TX1) (N := 12) hx hb hts (fun w h => List.mem_cons_of_mem _ (List.mem_append_left _ (List.mem_append_right _ h))) hown hE.1 hP 0 rfl rfl 6 (by decide) (hts (.fieldLink RX1 24 "WornLines$Machine" "stack" "[I") (by decide +kernel)) (fun _ h9 => h9) rfl dX1_reckon_149 ?_
                  refine lv_iload_n hx hb dX1_reckon_152 rfl (lv_at hl 4 rfl) ?_
                  refine lv_iconst (v := 1) hx hb dX1_reckon_153 (by decide) ?_
                  refine lv_isub hx hb dX1_reckon_154 ?_
                  refine W.eq (g2 := F0 m 155 ls (.int (nI (tp - 1)) :: .ref m6 :: [])) (by rw [show (1 : Int32) = nI 1 from rfl, pk_sub (by omega)]) ?_
                  refine lv_aload_n hx hb dX1_reckon_155 rfl (lv_at hl 5 rfl) ?_
                  refine va_get (D := D) (ci := 1) (v := .ref m6) (C := RX1) (T := TX1) (N := 12) hx hb hts (fun w h => List.mem_cons_of_mem _ (List.mem_append_left _ (List.mem_append_right _ h))) hown hE.1 hP 0 rfl rfl 6 (by decide) (hts (.fieldLink RX1 24 "WornLines$Machine" "stack" "[I") (by decide +kernel)) (fun _ h9 => h9) rfl dX1_reckon_156 ?_
                  refine lv_iload_n hx hb dX1_reckon_159 rfl (lv_at hl 4 rfl) ?_
                  refine lv_iconst (v := 1) hx hb dX1_reckon_160 (by decide) ?_
                  refine lv_isub hx hb dX1_reckon_161 ?_
                  refine W.eq (g2 := F0 m 162 ls (.int (nI (tp - 1)) :: .ref m6 :: .int (nI (tp - 1)) :: .ref m6 :: [])) (by rw [show (1 : Int32) = nI 1 from rfl, pk_sub (by omega)]) ?_
                  refine va_iald hx hb hE.1 hP 3 0 rfl rfl (in_n (by omega) (by decide)) dX1_reckon_162 ?_
                  refine W.eq (g2 := F0 m 163 ls (.int (sk (tp - 1)) :: .int (nI (tp - 1)) :: .ref m6 :: [])) (by rw [nI_clamp (by omega)]) ?_
                  refine lv_if_ne (tgt := 170) hx hb dX1_reckon_163 (by decide) (fun c_163_37 => ?_) (fun c_163_37 => ?_)
                  · refine lv_iconst (v := 0) hx hb dX1_reckon_170 (by decide) ?_
                    refine va_iast hx hb hE.1 hP hD hS 3 0 rfl rfl (in_n (by omega) (by decide)) dX1_reckon_171 (fun H locs hP hD hS => ?_)
                    have hP : va_P D vwCl [(h0, .inr (1, [.ref pg, .ref m1, .ref m2, .ref m3, .ref m4, .ref m5, .ref m6, .int (wy), .int (sta), .int (nx), .int (sp), .int (wr)])), (m3, .inl (ak 0, 16, .inl (gwo))), (m4, .inl (ak 0, 6, .inl (gce))), (m6, .inl (ak 0, 32, .inl (upd (sk) ((nI (tp - 1) : Int32).toNatClampNeg) (0))))] H := hP
                    have hD : va_D A [(h0, .inr (1, [.ref pg, .ref m1, .ref m2, .ref m3, .ref m4, .ref m5, .ref m6, .int (wy), .int (sta), .int (nx), .int (sp), .int (wr)])), (m3, .inl (ak 0, 16, .inl (gwo))), (m4, .inl (ak 0, 6, .inl (gce))), (m6, .inl (ak 0, 32, .inl (upd (sk) ((nI (tp - 1) : Int32).toNatClampNeg) (0))))] := hD
                    refine lv_goto (tgt := 210) hx hb dX1_reckon_172 (by decide) ?_
                    refine lv_iinc (v := (nI (i + 1))) (lv' := [(5, .int (nI (i + 1))), (7, .int (x_1)), (6, .int ((fcd i) &&& (15))), (4, .int (nI en)), (3, .int (nI tp)), (0, .ref h0)]) hx hb dX1_reckon_210 hl (k := 2) rfl (nI_1 i) (by decide) rfl (fun ls hl => ?_)
                    refine lv_goto (tgt := 23) hx hb dX1_reckon_213 (by decide) ?_
                    have hst : rkS gce gwo ln (fcd i) tp sk = (tp, upd (sk) ((nI (tp - 1) : Int32).toNatClampNeg) (0)) := (by unfold rkS; first | rw [if_pos ⟨Int32.not_lt.mp c_62, hlt32⟩, if_pos c_78, ← ex_1, nI_clamp (by omega)] | rw [if_pos ⟨Int32.not_lt.mp c_62, hlt32⟩, if_neg c_78, ← ex_1, nI_clamp (by omega)] | rw [if_neg hn1, if_pos ⟨c_103n, h0t⟩, nI_clamp (by omega), hwl] | rw [if_neg hn1, if_neg hn2, if_pos ⟨c_141n, h0t⟩, nI_clamp (by omega), if_pos c_163n] | rw [if_neg hn1, if_neg hn2, if_pos ⟨c_141n, h0t⟩, nI_clamp (by omega), if_neg c_163] | rw [if_neg hn1, if_neg hn2, if_neg hn3, if_pos h1t, nI_clamp (by omega), hjn] | rw [if_neg hn1, if_neg hn2, if_neg hn3, if_neg h1n])
                    exact ih (n0) (i + 1) (tp) (upd (sk) ((nI (tp - 1) : Int32).toNatClampNeg) (0)) _ _ _ (by omega) (by omega) (by omega) (rkN_step hF hst) (by omega) (hP.sub [0, 1, 2, 3] rfl) (hD.sub [0, 1, 2, 3] (by decide) rfl) hS (lv_sub hl [0, 3, 4, 5] rfl)
                  · have c_163n : sk (tp - 1) = 0 := Classical.not_not.mp c_163_37
                    refine lv_iconst (v := 1) hx hb dX1_reckon_166 (by decide) ?_
                    refine lv_goto (tgt := 171) hx hb dX1_reckon_167 (by decide) ?_
                    refine va_iast hx hb hE.1 hP hD hS 3 0 rfl rfl (in_n (by omega) (by decide)) dX1_reckon_171 (fun H locs hP hD hS => ?_)
                    have hP : va_P D vwCl [(h0, .inr (1, [.ref pg, .ref m1, .ref m2, .ref m3, .ref m4, .ref m5, .ref m6, .int (wy), .int (sta), .int (nx), .int (sp), .int (wr)])), (m3, .inl (ak 0, 16, .inl (gwo))), (m4, .inl (ak 0, 6, .inl (gce))), (m6, .inl (ak 0, 32, .inl (upd (sk) ((nI (tp - 1) : Int32).toNatClampNeg) (1))))] H := hP
                    have hD : va_D A [(h0, .inr (1, [.ref pg, .ref m1, .ref m2, .ref m3, .ref m4, .ref m5, .ref m6, .int (wy), .int (sta), .int (nx), .int (sp), .int (wr)])), (m3, .inl (ak 0, 16, .inl (gwo))), (m4, .inl (ak 0, 6, .inl (gce))), (m6, .inl (ak 0, 32, .inl (upd (sk) ((nI (tp - 1) : Int32).toNatClampNeg) (1))))] := hD
                    refine lv_goto (tgt := 210) hx hb dX1_reckon_172 (by decide) ?_
                    refine lv_iinc (v := (nI (i + 1))) (lv' := [(5, .int (nI (i + 1))), (7, .int (x_1)), (6, .int ((fcd i) &&& (15))), (4, .int (nI en)), (3, .int (nI tp)), (0, .ref h0)]) hx hb dX1_reckon_210 hl (k := 2) rfl (nI_1 i) (by decide) rfl (fun ls hl => ?_)
                    refine lv_goto (tgt := 23) hx hb dX1_reckon_213 (by decide) ?_
                    have hst : rkS gce gwo ln (fcd i) tp sk = (tp, upd (sk) ((nI (tp - 1) : Int32).toNatClampNeg) (1)) := (by unfold rkS; first | rw [if_pos ⟨Int32.not_lt.mp c_62, hlt32⟩, if_pos c_78, ← ex_1, nI_clamp (by omega)] | rw [if_pos ⟨Int32.not_lt.mp c_62, hlt32⟩, if_neg c_78, ← ex_1, nI_clamp (by omega)] | rw [if_neg hn1, if_pos ⟨c_103n, h0t⟩, nI_clamp (by omega), hwl] | rw [if_neg hn1, if_neg hn2, if_pos ⟨c_141n, h0t⟩, nI_clamp (by omega), if_pos c_163n] | rw [if_neg hn1, if_neg hn2, if_pos ⟨c_141n, h0t⟩, nI_clamp (by omega), if_neg c_163] | rw [if_neg hn1, if_neg hn2, if_neg hn3, if_pos h1t, nI_clamp (by omega), hjn] | rw [if_neg hn1, if_neg hn2, if_neg hn3, if_neg h1n])
                    exact ih (n0) (i + 1) (tp) (upd (sk) ((nI (tp - 1) : Int32).toNatClampNeg) (1)) _ _ _ (by omega) (by omega) (by omega) (rkN_step hF hst) (by omega) (hP.sub [0, 1, 2, 3] rfl) (hD.sub [0, 1, 2, 3] (by decide) rfl) hS (lv_sub hl [0, 3, 4, 5] rfl)
            · have h0t : 0 < tp := Nat.pos_of_ne_zero (fun h => c_107_28 (by rw [h]; decide))
              refine lv_aload_n hx hb dX1_reckon_110 rfl (lv_at hl 5 rfl) ?_
              refine va_get (D := D) (ci := 1) (v := .ref m6) (C := RX1) (T := TX1) (N := 12) hx hb hts (fun w h => List.mem_cons_of_mem _ (List.mem_append_left _ (List.mem_append_right _ h))) hown hE.1 hP 0 rfl rfl 6 (by decide) (hts (.fieldLink RX1 24 "WornLines$Machine" "stack" "[I") (by decide +kernel)) (fun _ h9 => h9) rfl dX1_reckon_111 ?_
              refine lv_iload_n hx hb dX1_reckon_114 rfl (lv_at hl 4 rfl) ?_
              refine lv_iconst (v := 1) hx hb dX1_reckon_115 (by decide) ?_
              refine lv_isub hx hb dX1_reckon_116 ?_
              refine W.eq (g2 := F0 m 117 ls (.int (nI (tp - 1)) :: .ref m6 :: [])) (by rw [show (1 : Int32) = nI 1 from rfl, pk_sub (by omega)]) ?_
              refine lv_aload_n hx hb dX1_reckon_117 rfl (lv_at hl 5 rfl) ?_
              refine va_get (D := D) (ci := 1) (v := .ref m3) (C := RX1) (T := TX1) (N := 12) hx hb hts (fun w h => List.mem_cons_of_mem _ (List.mem_append_left _ (List.mem_append_right _ h))) hown hE.1 hP 0 rfl rfl 3 (by decide) (hts (.fieldLink RX1 18 "WornLines$Machine" "worn" "[I") (by decide +kernel)) (fun _ h9 => h9) rfl dX1_reckon_118 ?_
              refine lv_aload_n hx hb dX1_reckon_121 rfl (lv_at hl 5 rfl) ?_
              refine lv_aload_n hx hb dX1_reckon_122 rfl (lv_at hl 5 rfl) ?_
              refine va_get (D := D) (ci := 1) (v := .ref m6) (C := RX1) (T := TX1) (N := 12) hx hb hts (fun w h => List.mem_cons_of_mem _ (List.mem_append_left _ (List.mem_append_right _ h))) hown hE.1 hP 0 rfl rfl 6 (by decide) (hts (.fieldLink RX1 24 "WornLines$Machine" "stack" "[I") (by decide +kernel)) (fun _ h9 => h9) rfl dX1_reckon_123 ?_
              refine lv_iload_n hx hb dX1_reckon_126 rfl (lv_at hl 4 rfl) ?_
              refine lv_iconst (v := 1) hx hb dX1_reckon_127 (by decide) ?_
              refine lv_isub hx hb dX1_reckon_128 ?_
              refine W.eq (g2 := F0 m 129 ls (.int (nI (tp - 1)) :: .ref m6 :: .ref h0 :: .ref m3 :: .int (nI (tp - 1)) :: .ref m6 :: [])) (by rw [show (1 : Int32) = nI 1 from rfl, pk_sub (by omega)]) ?_
              refine va_iald hx hb hE.1 hP 3 0 rfl rfl (in_n (by omega) (by decide)) dX1_reckon_129 ?_
              refine W.eq (g2 := F0 m 130 ls (.int (sk (tp - 1)) :: .ref h0 :: .ref m3 :: .int (nI (tp - 1)) :: .ref m6 :: [])) (by rw [nI_clamp (by omega)]) ?_
              refine kc_i (wc := [(h0, .inr (1, [.ref pg, .ref m1, .ref m2, .ref m3, .ref m4, .ref m5, .ref m6, .int (wy), .int (sta), .int (nx), .int (sp), .int (wr)]))]) (wr := [(m3, .inl (ak 0, 16, .inl (gwo))), (m4, .inl (ak 0, 6, .inl (gce))), (m6, .inl (ak 0, 32, .inl (sk)))]) hP hD hS hA [0] [1, 2, 3] rfl rfl (by decide) (by decide) (va_runV (As := [.int (sk (tp - 1))]) (rest := [.ref m3, .int (nI (tp - 1)), .ref m6]) ⟨hx, hb, hml, hown, hts⟩ (c_X1_lineOf l D ak ad _ (h0) (pg) (m1) (m2) (m3) (m4) (m5) (m6) (wy) (sta) (nx) (sp) (wr) (st) (ce) (gi) (ln) (p1) (p2) (p4) (p6) (p7) (p8) (p10) (p11) (p12) (p13) (p14) (p15) (p16) (sk (tp - 1)) (h1) (h2)) (cwV 1 hts gX1_reckon_X1_lineOf rfl rfl rfl (by decide +kernel) ⟨Nat.le_trans (Nat.le_of_ble_eq_true rfl) hRf, Nat.le_trans (Nat.le_of_ble_eq_true rfl) hRl⟩) (kc_preVK (As := [.int (sk (tp - 1))]) (wc := [(h0, .inr (1, [.ref pg, .ref m1, .ref m2, .ref m3, .ref m4, .ref m5, .ref m6, .int (wy), .int (sta), .int (nx), .int (sp), .int (wr)]))]) (ck := [(pg, .inr (2, [.int (nI st), .ref p1, .ref p2, .int (nI ce), .ref p4, .int (nI gi), .ref p6, .ref p7, .ref p8, .int (nI ln), .ref p10, .ref p11, .ref p12, .ref p13, .ref p14, .ref p15, .ref p16]))]) hKT hE hT hP hD hS hA [0] [0] (by decide) rfl rfl rfl hP 0 1 rfl rfl rfl) rfl rfl hl.1 rfl (lv_room (Nat.le_of_ble_eq_true rfl)) dX1_reckon_130 ⟨hRc.1, hRc.2⟩) (fun r_39 u_37 H locs hw_39 hP hD hS => ?_)
              have hP : va_P D vwCl [(m3, .inl (ak 0, 16, .inl (gwo))), (m4, .inl (ak 0, 6, .inl (gce))), (m6, .inl (ak 0, 32, .inl (sk))), (h0, .inr (1, [.ref pg, .ref m1, .ref m2, .ref m3, .ref m4, .ref m5, .ref m6, .int (wy), .int (sta), .int (nx), .int (sp), .int (wr)]))] H := hP
              have hD : va_D A [(m3, .inl (ak 0, 16, .inl (gwo))), (m4, .inl (ak 0, 6, .inl (gce))), (m6, .inl (ak 0, 32, .inl (sk))), (h0, .inr (1, [.ref pg, .ref m1, .ref m2, .ref m3, .ref m4, .ref m5, .ref m6, .int (wy), .int (sta), .int (nx), .int (sp), .int (wr)]))] := hD
              have hwl : gwo (r_39 : Int32).toNatClampNeg = gwo (lnOf (sk (tp - 1)) ln) := by rw [hw_39, nI_clamp (Nat.lt_of_lt_of_le (lnOf_lt _ h1) (by omega))]
              subst hw_39
              refine va_iald hx hb hE.1 hP 0 0 rfl rfl (in_n (Nat.lt_of_lt_of_le (lnOf_lt _ h1) h2) (by decide)) dX1_reckon_133 ?_
              refine va_iast hx hb hE.1 hP hD hS 2 0 rfl rfl (in_n (by omega) (by decide)) dX1_reckon_134 (fun H locs hP hD hS => ?_)
              have hP : va_P D vwCl [(m3, .inl (ak 0, 16, .inl (gwo))), (m4, .inl (ak 0, 6, .inl (gce))), (m6, .inl (ak 0, 32, .inl (upd (sk) ((nI (tp - 1) : Int32).toNatClampNeg) ((gwo) (nI (lnOf (sk (tp - 1)) ln) : Int32).toNatClampNeg)))), (h0, .inr (1, [.ref pg, .ref m1, .ref m2, .ref m3, .ref m4, .ref m5, .ref m6, .int (wy), .int (sta), .int (nx), .int (sp), .int (wr)]))] H := hP
              have hD : va_D A [(m3, .inl (ak 0, 16, .inl (gwo))), (m4, .inl (ak 0, 6, .inl (gce))), (m6, .inl (ak 0, 32, .inl (upd (sk) ((nI (tp - 1) : Int32).toNatClampNeg) ((gwo) (nI (lnOf (sk (tp - 1)) ln) : Int32).toNatClampNeg)))), (h0, .inr (1, [.ref pg, .ref m1, .ref m2, .ref m3, .ref m4, .ref m5, .ref m6, .int (wy), .int (sta), .int (nx), .int (sp), .int (wr)]))] := hD
              refine lv_goto (tgt := 210) hx hb dX1_reckon_135 (by decide) ?_
              refine lv_iinc (v := (nI (i + 1))) (lv' := [(5, .int (nI (i + 1))), (7, .int (x_1)), (6, .int ((fcd i) &&& (15))), (4, .int (nI en)), (3, .int (nI tp)), (0, .ref h0)]) hx hb dX1_reckon_210 hl (k := 2) rfl (nI_1 i) (by decide) rfl (fun ls hl => ?_)
              refine lv_goto (tgt := 23) hx hb dX1_reckon_213 (by decide) ?_
              have hst : rkS gce gwo ln (fcd i) tp sk = (tp, upd (sk) ((nI (tp - 1) : Int32).toNatClampNeg) ((gwo) (nI (lnOf (sk (tp - 1)) ln) : Int32).toNatClampNeg)) := (by unfold rkS; first | rw [if_pos ⟨Int32.not_lt.mp c_62, hlt32⟩, if_pos c_78, ← ex_1, nI_clamp (by omega)] | rw [if_pos ⟨Int32.not_lt.mp c_62, hlt32⟩, if_neg c_78, ← ex_1, nI_clamp (by omega)] | rw [if_neg hn1, if_pos ⟨c_103n, h0t⟩, nI_clamp (by omega), hwl] | rw [if_neg hn1, if_neg hn2, if_pos ⟨c_141n, h0t⟩, nI_clamp (by omega), if_pos c_163n] | rw [if_neg hn1, if_neg hn2, if_pos ⟨c_141n, h0t⟩, nI_clamp (by omega), if_neg c_163] | rw [if_neg hn1, if_neg hn2, if_neg hn3, if_pos h1t, nI_clamp (by omega), hjn] | rw [if_neg hn1, if_neg hn2, if_neg hn3, if_neg h1n])
              exact ih (n0) (i + 1) (tp) (upd (sk) ((nI (tp - 1) : Int32).toNatClampNeg) ((gwo) (nI (lnOf (sk (tp - 1)) ln) : Int32).toNatClampNeg)) _ _ _ (by omega) (by omega) (by omega) (rkN_step hF hst) (by omega) (hP.sub [3, 0, 1, 2] rfl) (hD.sub [3, 0, 1, 2] (by decide) rfl) hS (lv_sub hl [0, 3, 4, 5] rfl)
        · have hlt32 : tp < 32 := Nat.lt_of_not_le (fun h => c_68 (nI_le (a := 32) h (by omega)))
          refine lv_aload_n hx hb dX1_reckon_71 rfl (lv_at hl 5 rfl) ?_
          refine va_get (D := D) (ci := 1) (v := .ref m6) (C := RX1) (T := TX1) (N := 12) hx hb hts (fun w h => List.mem_cons_of_mem _ (List.mem_append_left _ (List.mem_append_right _ h))) hown hE.1 hP 0 rfl rfl 6 (by decide) (hts (.fieldLink RX1 24 "WornLines$Machine" "stack" "[I") (by decide +kernel)) (fun _ h9 => h9) rfl dX1_reckon_72 ?_
          refine lv_iload_n hx hb dX1_reckon_75 rfl (lv_at hl 4 rfl) ?_
          refine lv_iload hx hb dX1_reckon_76 (lv_at hl 1 rfl) ?_
          refine lv_if_ne (tgt := 86) hx hb dX1_reckon_78 (by decide) (fun c_78 => ?_) (fun c_78 => ?_)
          · refine lv_aload_n hx hb dX1_reckon_86 rfl (lv_at hl 5 rfl) ?_
            refine va_get (D := D) (ci := 1) (v := .ref m4) (C := RX1) (T := TX1) (N := 12) hx hb hts (fun w h => List.mem_cons_of_mem _ (List.mem_append_left _ (List.mem_append_right _ h))) hown hE.1 hP 0 rfl rfl 4 (by decide) (hts (.fieldLink RX1 21 "WornLines$Machine" "cells" "[I") (by decide +kernel)) (fun _ h9 => h9) rfl dX1_reckon_87 ?_
            refine lv_iload hx hb dX1_reckon_90 (lv_at hl 0 rfl) ?_
            refine va_iald hx hb hE.1 hP 2 0 rfl rfl (by rw [ex_1]; exact hcd i (Nat.lt_of_lt_of_le hie hen) (m15 c_62 c_78)) dX1_reckon_92 ?_
            refine va_iast hx hb hE.1 hP hD hS 3 0 rfl rfl (in_n hlt32 (by decide)) dX1_reckon_93 (fun H locs hP hD hS => ?_)
            have hP : va_P D vwCl [(h0, .inr (1, [.ref pg, .ref m1, .ref m2, .ref m3, .ref m4, .ref m5, .ref m6, .int (wy), .int (sta), .int (nx), .int (sp), .int (wr)])), (m3, .inl (ak 0, 16, .inl (gwo))), (m4, .inl (ak 0, 6, .inl (gce))), (m6, .inl (ak 0, 32, .inl (upd (sk) ((nI tp : Int32).toNatClampNeg) ((gce) (x_1 : Int32).toNatClampNeg))))] H := hP
            have hD : va_D A [(h0, .inr (1, [.ref pg, .ref m1, .ref m2, .ref m3, .ref m4, .ref m5, .ref m6, .int (wy), .int (sta), .int (nx), .int (sp), .int (wr)])), (m3, .inl (ak 0, 16, .inl (gwo))), (m4, .inl (ak 0, 6, .inl (gce))), (m6, .inl (ak 0, 32, .inl (upd (sk) ((nI tp : Int32).toNatClampNeg) ((gce) (x_1 : Int32).toNatClampNeg))))] := hD
            refine lv_iinc (v := (nI (tp + 1))) (lv' := [(3, .int (nI (tp + 1))), (7, .int (x_1)), (6, .int ((fcd i) &&& (15))), (5, .int (nI i)), (4, .int (nI en)), (0, .ref h0)]) hx hb dX1_reckon_94 hl (k := 4) rfl (nI_1 tp) (by decide) rfl (fun ls hl => ?_)
            refine lv_goto (tgt := 210) hx hb dX1_reckon_97 (by decide) ?_
            refine lv_iinc (v := (nI (i + 1))) (lv' := [(5, .int (nI (i + 1))), (3, .int (nI (tp + 1))), (7, .int (x_1)), (6, .int ((fcd i) &&& (15))), (4, .int (nI en)), (0, .ref h0)]) hx hb dX1_reckon_210 hl (k := 3) rfl (nI_1 i) (by decide) rfl (fun ls hl => ?_)
            refine lv_goto (tgt := 23) hx hb dX1_reckon_213 (by decide) ?_
            have hst : rkS gce gwo ln (fcd i) tp sk = (tp + 1, upd (sk) ((nI tp : Int32).toNatClampNeg) ((gce) (x_1 : Int32).toNatClampNeg)) := (by unfold rkS; first | rw [if_pos ⟨Int32.not_lt.mp c_62, hlt32⟩, if_pos c_78, ← ex_1, nI_clamp (by omega)] | rw [if_pos ⟨Int32.not_lt.mp c_62, hlt32⟩, if_neg c_78, ← ex_1, nI_clamp (by omega)] | rw [if_neg hn1, if_pos ⟨c_103n, h0t⟩, nI_clamp (by omega), hwl] | rw [if_neg hn1, if_neg hn2, if_pos ⟨c_141n, h0t⟩, nI_clamp (by omega), if_pos c_163n] | rw [if_neg hn1, if_neg hn2, if_pos ⟨c_141n, h0t⟩, nI_clamp (by omega), if_neg c_163] | rw [if_neg hn1, if_neg hn2, if_neg hn3, if_pos h1t, nI_clamp (by omega), hjn] | rw [if_neg hn1, if_neg hn2, if_neg hn3, if_neg h1n])
            exact ih (n0) (i + 1) (tp + 1) (upd (sk) ((nI tp : Int32).toNatClampNeg) ((gce) (x_1 : Int32).toNatClampNeg)) _ _ _ (by omega) (by omega) (by omega) (rkN_step hF hst) (by omega) (hP.sub [0, 1, 2, 3] rfl) (hD.sub [0, 1, 2, 3] (by decide) rfl) hS (lv_sub hl [0, 4, 1, 5] rfl)
          · refine lv_iload hx hb dX1_reckon_81 (lv_at hl 0 rfl) ?_
            refine lv_goto (tgt := 93) hx hb dX1_reckon_83 (by decide) ?_
            refine va_iast hx hb hE.1 hP hD hS 3 0 rfl rfl (in_n hlt32 (by decide)) dX1_reckon_93 (fun H locs hP hD hS => ?_)
            have hP : va_P D vwCl [(h0, .inr (1, [.ref pg, .ref m1, .ref m2, .ref m3, .ref m4, .ref m5, .ref m6, .int (wy), .int (sta), .int (nx), .int (sp), .int (wr)])), (m3, .inl (ak 0, 16, .inl (gwo))), (m4, .inl (ak 0, 6, .inl (gce))), (m6, .inl (ak 0, 32, .inl (upd (sk) ((nI tp : Int32).toNatClampNeg) (x_1))))] H := hP
            have hD : va_D A [(h0, .inr (1, [.ref pg, .ref m1, .ref m2, .ref m3, .ref m4, .ref m5, .ref m6, .int (wy), .int (sta), .int (nx), .int (sp), .int (wr)])), (m3, .inl (ak 0, 16, .inl (gwo))), (m4, .inl (ak 0, 6, .inl (gce))), (m6, .inl (ak 0, 32, .inl (upd (sk) ((nI tp : Int32).toNatClampNeg) (x_1))))] := hD
            refine lv_iinc (v := (nI (tp + 1))) (lv' := [(3, .int (nI (tp + 1))), (7, .int (x_1)), (6, .int ((fcd i) &&& (15))), (5, .int (nI i)), (4, .int (nI en)), (0, .ref h0)]) hx hb dX1_reckon_94 hl (k := 4) rfl (nI_1 tp) (by decide) rfl (fun ls hl => ?_)
            refine lv_goto (tgt := 210) hx hb dX1_reckon_97 (by decide) ?_
            refine lv_iinc (v := (nI (i + 1))) (lv' := [(5, .int (nI (i + 1))), (3, .int (nI (tp + 1))), (7, .int (x_1)), (6, .int ((fcd i) &&& (15))), (4, .int (nI en)), (0, .ref h0)]) hx hb dX1_reckon_210 hl (k := 3) rfl (nI_1 i) (by decide) rfl (fun ls hl => ?_)
            refine lv_goto (tgt := 23) hx hb dX1_reckon_213 (by decide) ?_
            have hst : rkS gce gwo ln (fcd i) tp sk = (tp + 1, upd (sk) ((nI tp : Int32).toNatClampNeg) (x_1)) := (by unfold rkS; first | rw [if_pos ⟨Int32.not_lt.mp c_62, hlt32⟩, if_pos c_78, ← ex_1, nI_clamp (by omega)] | rw [if_pos ⟨Int32.not_lt.mp c_62, hlt32⟩, if_neg c_78, ← ex_1, nI_clamp (by omega)] | rw [if_neg hn1, if_pos ⟨c_103n, h0t⟩, nI_clamp (by omega), hwl] | rw [if_neg hn1, if_neg hn2, if_pos ⟨c_141n, h0t⟩, nI_clamp (by omega), if_pos c_163n] | rw [if_neg hn1, if_neg hn2, if_pos ⟨c_141n, h0t⟩, nI_clamp (by omega), if_neg c_163] | rw [if_neg hn1, if_neg hn2, if_neg hn3, if_pos h1t, nI_clamp (by omega), hjn] | rw [if_neg hn1, if_neg hn2, if_neg hn3, if_neg h1n])
            exact ih (n0) (i + 1) (tp + 1) (upd (sk) ((nI tp : Int32).toNatClampNeg) (x_1)) _ _ _ (by omega) (by omega) (by omega) (rkN_step hF hst) (by omega) (hP.sub [0, 1, 2, 3] rfl) (hD.sub [0, 1, 2, 3] (by decide) rfl) hS (lv_sub hl [0, 4, 1, 5] rfl)
