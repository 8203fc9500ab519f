theorem dX1_reckon_175 : decode cX1_reckon 175 = .ok (.iload_n 3, 1) := by decide +kernel
theorem dX1_reckon_176 : decode cX1_reckon 176 = .ok (.iconst 1, 1) := by decide +kernel
theorem dX1_reckon_177 : decode cX1_reckon 177 = .ok (.if_icmp .le 33, 3) := by decide +kernel
theorem dX1_reckon_210 : decode cX1_reckon 210 = .ok (.iinc 5 1, 3) := by decide +kernel
theorem dX1_reckon_213 : decode cX1_reckon 213 = .ok (.goto (-190), 3) := by decide +kernel
theorem dX1_reckon_180 : decode cX1_reckon 180 = .ok (.iinc 3 (-1), 3) := by decide +kernel
theorem dX1_reckon_183 : decode cX1_reckon 183 = .ok (.aload_n 0, 1) := by decide +kernel
theorem dX1_reckon_184 : decode cX1_reckon 184 = .ok (.getfield 24, 3) := by decide +kernel
theorem dX1_reckon_187 : decode cX1_reckon 187 = .ok (.iload_n 3, 1) := by decide +kernel
theorem dX1_reckon_188 : decode cX1_reckon 188 = .ok (.iconst 1, 1) := by decide +kernel
theorem dX1_reckon_189 : decode cX1_reckon 189 = .ok (.isub, 1) := by decide +kernel
theorem dX1_reckon_190 : decode cX1_reckon 190 = .ok (.iload 6, 2) := by decide +kernel
theorem dX1_reckon_192 : decode cX1_reckon 192 = .ok (.aload_n 0, 1) := by decide +kernel
theorem dX1_reckon_193 : decode cX1_reckon 193 = .ok (.getfield 24, 3) := by decide +kernel
theorem dX1_reckon_196 : decode cX1_reckon 196 = .ok (.iload_n 3, 1) := by decide +kernel
theorem dX1_reckon_197 : decode cX1_reckon 197 = .ok (.iconst 1, 1) := by decide +kernel
theorem dX1_reckon_198 : decode cX1_reckon 198 = .ok (.isub, 1) := by decide +kernel
theorem dX1_reckon_199 : decode cX1_reckon 199 = .ok (.iaload, 1) := by decide +kernel
theorem dX1_reckon_200 : decode cX1_reckon 200 = .ok (.aload_n 0, 1) := by decide +kernel
theorem dX1_reckon_201 : decode cX1_reckon 201 = .ok (.getfield 24, 3) := by decide +kernel
theorem dX1_reckon_204 : decode cX1_reckon 204 = .ok (.iload_n 3, 1) := by decide +kernel
theorem dX1_reckon_205 : decode cX1_reckon 205 = .ok (.iaload, 1) := by decide +kernel
set_option maxRecDepth 20000 in
theorem ggX1_reckon_X1_joined : GoodIn wsX1_reckon wsX1_joined := gup gc_X1_joined
set_option maxRecDepth 20000 in
theorem gX1_reckon_X1_joined : GoodIn wsX1_reckon (va_wsS RX1 141 yX1_joined wsX1_joined) := gup (glS hw_337 hw_338 hw_331 gc_X1_joined)
theorem dX1_reckon_206 : decode cX1_reckon 206 = .ok (.invokestatic 141, 3) := by decide +kernel
theorem dX1_reckon_209 : decode cX1_reckon 209 = .ok (.iastore, 1) := by decide +kernel
theorem dX1_reckon_138 : decode cX1_reckon 138 = .ok (.iload 6, 2) := by decide +kernel
theorem dX1_reckon_140 : decode cX1_reckon 140 = .ok (.iconst 3, 1) := by decide +kernel
theorem dX1_reckon_141 : decode cX1_reckon 141 = .ok (.if_icmp .ne 34, 3) := by decide +kernel
theorem dX1_reckon_144 : decode cX1_reckon 144 = .ok (.iload_n 3, 1) := by decide +kernel
theorem dX1_reckon_145 : decode cX1_reckon 145 = .ok (.ifCond .le 30, 3) := by decide +kernel
theorem dX1_reckon_148 : decode cX1_reckon 148 = .ok (.aload_n 0, 1) := by decide +kernel
theorem dX1_reckon_149 : decode cX1_reckon 149 = .ok (.getfield 24, 3) := by decide +kernel
theorem dX1_reckon_152 : decode cX1_reckon 152 = .ok (.iload_n 3, 1) := by decide +kernel
theorem dX1_reckon_153 : decode cX1_reckon 153 = .ok (.iconst 1, 1) := by decide +kernel
theorem dX1_reckon_154 : decode cX1_reckon 154 = .ok (.isub, 1) := by decide +kernel
theorem dX1_reckon_155 : decode cX1_reckon 155 = .ok (.aload_n 0, 1) := by decide +kernel
theorem dX1_reckon_156 : decode cX1_reckon 156 = .ok (.getfield 24, 3) := by decide +kernel
theorem dX1_reckon_159 : decode cX1_reckon 159 = .ok (.iload_n 3, 1) := by decide +kernel
theorem dX1_reckon_160 : decode cX1_reckon 160 = .ok (.iconst 1, 1) := by decide +kernel
theorem dX1_reckon_161 : decode cX1_reckon 161 = .ok (.isub, 1) := by decide +kernel
theorem dX1_reckon_162 : decode cX1_reckon 162 = .ok (.iaload, 1) := by decide +kernel
theorem dX1_reckon_163 : decode cX1_reckon 163 = .ok (.ifCond .ne 7, 3) := by decide +kernel
theorem dX1_reckon_170 : decode cX1_reckon 170 = .ok (.iconst 0, 1) := by decide +kernel
theorem dX1_reckon_171 : decode cX1_reckon 171 = .ok (.iastore, 1) := by decide +kernel
theorem dX1_reckon_172 : decode cX1_reckon 172 = .ok (.goto 38, 3) := by decide +kernel
theorem dX1_reckon_166 : decode cX1_reckon 166 = .ok (.iconst 1, 1) := by decide +kernel
theorem dX1_reckon_167 : decode cX1_reckon 167 = .ok (.goto 4, 3) := by decide +kernel
theorem dX1_reckon_100 : decode cX1_reckon 100 = .ok (.iload 6, 2) := by decide +kernel
theorem dX1_reckon_102 : decode cX1_reckon 102 = .ok (.iconst 2, 1) := by decide +kernel
theorem dX1_reckon_103 : decode cX1_reckon 103 = .ok (.if_icmp .ne 35, 3) := by decide +kernel
theorem dX1_reckon_106 : decode cX1_reckon 106 = .ok (.iload_n 3, 1) := by decide +kernel
theorem dX1_reckon_107 : decode cX1_reckon 107 = .ok (.ifCond .le 31, 3) := by decide +kernel
theorem dX1_reckon_110 : decode cX1_reckon 110 = .ok (.aload_n 0, 1) := by decide +kernel
theorem dX1_reckon_111 : decode cX1_reckon 111 = .ok (.getfield 24, 3) := by decide +kernel
theorem dX1_reckon_114 : decode cX1_reckon 114 = .ok (.iload_n 3, 1) := by decide +kernel
theorem dX1_reckon_115 : decode cX1_reckon 115 = .ok (.iconst 1, 1) := by decide +kernel
theorem dX1_reckon_116 : decode cX1_reckon 116 = .ok (.isub, 1) := by decide +kernel
theorem dX1_reckon_117 : decode cX1_reckon 117 = .ok (.aload_n 0, 1) := by decide +kernel
theorem dX1_reckon_118 : decode cX1_reckon 118 = .ok (.getfield 18, 3) := by decide +kernel
theorem dX1_reckon_121 : decode cX1_reckon 121 = .ok (.aload_n 0, 1) := by decide +kernel
theorem dX1_reckon_122 : decode cX1_reckon 122 = .ok (.aload_n 0, 1) := by decide +kernel
theorem dX1_reckon_123 : decode cX1_reckon 123 = .ok (.getfield 24, 3) := by decide +kernel
theorem dX1_reckon_126 : decode cX1_reckon 126 = .ok (.iload_n 3, 1) := by decide +kernel
theorem dX1_reckon_127 : decode cX1_reckon 127 = .ok (.iconst 1, 1) := by decide +kernel
theorem dX1_reckon_128 : decode cX1_reckon 128 = .ok (.isub, 1) := by decide +kernel
theorem dX1_reckon_129 : decode cX1_reckon 129 = .ok (.iaload, 1) := by decide +kernel
set_option maxRecDepth 20000 in
theorem ggX1_reckon_X1_lineOf : GoodIn wsX1_reckon wsX1_lineOf := gup gc_X1_lineOf
set_option maxRecDepth 20000 in
theorem gX1_reckon_X1_lineOf : GoodIn wsX1_reckon (wsV RX1 128 RX1 yX1_lineOf wsX1_lineOf) := gup (glV hw_339 hw_340 hw_341 hw_331 gc_X1_lineOf)
theorem dX1_reckon_130 : decode cX1_reckon 130 = .ok (.invokevirtual 128, 3) := by decide +kernel
theorem dX1_reckon_133 : decode cX1_reckon 133 = .ok (.iaload, 1) := by decide +kernel
theorem dX1_reckon_134 : decode cX1_reckon 134 = .ok (.iastore, 1) := by decide +kernel
theorem dX1_reckon_135 : decode cX1_reckon 135 = .ok (.goto 75, 3) := by decide +kernel
theorem dX1_reckon_23 : decode cX1_reckon 23 = .ok (.iload 5, 2) := by decide +kernel
theorem dX1_reckon_25 : decode cX1_reckon 25 = .ok (.iload 4, 2) := by decide +kernel
theorem dX1_reckon_27 : decode cX1_reckon 27 = .ok (.if_icmp .ge 189, 3) := by decide +kernel
theorem dX1_reckon_216 : decode cX1_reckon 216 = .ok (.iload_n 3, 1) := by decide +kernel
theorem dX1_reckon_217 : decode cX1_reckon 217 = .ok (.ifCond .le 12, 3) := by decide +kernel
theorem dX1_reckon_229 : decode cX1_reckon 229 = .ok (.iconst 0, 1) := by decide +kernel
theorem dX1_reckon_220 : decode cX1_reckon 220 = .ok (.aload_n 0, 1) := by decide +kernel
theorem dX1_reckon_221 : decode cX1_reckon 221 = .ok (.getfield 24, 3) := by decide +kernel
theorem dX1_reckon_224 : decode cX1_reckon 224 = .ok (.iconst 0, 1) := by decide +kernel
theorem dX1_reckon_225 : decode cX1_reckon 225 = .ok (.iaload, 1) := by decide +kernel
theorem dX1_reckon_226 : decode cX1_reckon 226 = .ok (.goto 4, 3) := by decide +kernel
theorem dX1_reckon_30 : decode cX1_reckon 30 = .ok (.aload_n 0, 1) := by decide +kernel
theorem dX1_reckon_31 : decode cX1_reckon 31 = .ok (.getfield 34, 3) := by decide +kernel
theorem dX1_reckon_34 : decode cX1_reckon 34 = .ok (.getfield 138, 3) := by decide +kernel
theorem dX1_reckon_37 : decode cX1_reckon 37 = .ok (.iload 5, 2) := by decide +kernel
theorem dX1_reckon_39 : decode cX1_reckon 39 = .ok (.iaload, 1) := by decide +kernel
theorem dX1_reckon_40 : decode cX1_reckon 40 = .ok (.bipush 15, 2) := by decide +kernel
theorem dX1_reckon_42 : decode cX1_reckon 42 = .ok (.iand, 1) := by decide +kernel
theorem dX1_reckon_43 : decode cX1_reckon 43 = .ok (.istore 6, 2) := by decide +kernel
theorem dX1_reckon_45 : decode cX1_reckon 45 = .ok (.aload_n 0, 1) := by decide +kernel
theorem dX1_reckon_46 : decode cX1_reckon 46 = .ok (.getfield 34, 3) := by decide +kernel
theorem dX1_reckon_49 : decode cX1_reckon 49 = .ok (.getfield 138, 3) := by decide +kernel
theorem dX1_reckon_52 : decode cX1_reckon 52 = .ok (.iload 5, 2) := by decide +kernel
theorem dX1_reckon_54 : decode cX1_reckon 54 = .ok (.iaload, 1) := by decide +kernel
theorem dX1_reckon_55 : decode cX1_reckon 55 = .ok (.iconst 4, 1) := by decide +kernel
theorem dX1_reckon_56 : decode cX1_reckon 56 = .ok (.ishr, 1) := by decide +kernel
theorem dX1_reckon_57 : decode cX1_reckon 57 = .ok (.istore 7, 2) := by decide +kernel
theorem dX1_reckon_59 : decode cX1_reckon 59 = .ok (.iload 6, 2) := by decide +kernel
theorem dX1_reckon_61 : decode cX1_reckon 61 = .ok (.iconst 1, 1) := by decide +kernel
theorem dX1_reckon_62 : decode cX1_reckon 62 = .ok (.if_icmp .gt 38, 3) := by decide +kernel
theorem dX1_reckon_65 : decode cX1_reckon 65 = .ok (.iload_n 3, 1) := by decide +kernel
theorem dX1_reckon_66 : decode cX1_reckon 66 = .ok (.bipush 32, 2) := by decide +kernel
theorem dX1_reckon_68 : decode cX1_reckon 68 = .ok (.if_icmp .ge 32, 3) := by decide +kernel
theorem dX1_reckon_71 : decode cX1_reckon 71 = .ok (.aload_n 0, 1) := by decide +kernel
theorem dX1_reckon_72 : decode cX1_reckon 72 = .ok (.getfield 24, 3) := by decide +kernel
theorem dX1_reckon_75 : decode cX1_reckon 75 = .ok (.iload_n 3, 1) := by decide +kernel
theorem dX1_reckon_76 : decode cX1_reckon 76 = .ok (.iload 6, 2) := by decide +kernel
theorem dX1_reckon_78 : decode cX1_reckon 78 = .ok (.ifCond .ne 8, 3) := by decide +kernel
theorem dX1_reckon_86 : decode cX1_reckon 86 = .ok (.aload_n 0, 1) := by decide +kernel
theorem dX1_reckon_87 : decode cX1_reckon 87 = .ok (.getfield 21, 3) := by decide +kernel
theorem dX1_reckon_90 : decode cX1_reckon 90 = .ok (.iload 7, 2) := by decide +kernel
theorem dX1_reckon_92 : decode cX1_reckon 92 = .ok (.iaload, 1) := by decide +kernel
theorem dX1_reckon_93 : decode cX1_reckon 93 = .ok (.iastore, 1) := by decide +kernel
theorem dX1_reckon_94 : decode cX1_reckon 94 = .ok (.iinc 3 1, 3) := by decide +kernel
theorem dX1_reckon_97 : decode cX1_reckon 97 = .ok (.goto 113, 3) := by decide +kernel
theorem dX1_reckon_81 : decode cX1_reckon 81 = .ok (.iload 7, 2) := by decide +kernel
theorem dX1_reckon_83 : decode cX1_reckon 83 = .ok (.goto 10, 3) := by decide +kernel
theorem dX1_reckon_0 : decode cX1_reckon 0 = .ok (.iconst 0, 1) := by decide +kernel
theorem dX1_reckon_1 : decode cX1_reckon 1 = .ok (.istore_n 3, 1) := by decide +kernel
theorem dX1_reckon_2 : decode cX1_reckon 2 = .ok (.iload_n 2, 1) := by decide +kernel
theorem dX1_reckon_3 : decode cX1_reckon 3 = .ok (.aload_n 0, 1) := by decide +kernel
theorem dX1_reckon_4 : decode cX1_reckon 4 = .ok (.getfield 34, 3) := by decide +kernel
theorem dX1_reckon_7 : decode cX1_reckon 7 = .ok (.getfield 138, 3) := by decide +kernel
theorem dX1_reckon_10 : decode cX1_reckon 10 = .ok (.arraylength, 1) := by decide +kernel
theorem dX1_reckon_11 : decode cX1_reckon 11 = .ok (.invokestatic 71, 3) := by decide +kernel
theorem dX1_reckon_14 : decode cX1_reckon 14 = .ok (.istore 4, 2) := by decide +kernel
theorem dX1_reckon_16 : decode cX1_reckon 16 = .ok (.iconst 0, 1) := by decide +kernel
theorem dX1_reckon_17 : decode cX1_reckon 17 = .ok (.iload_n 1, 1) := by decide +kernel
theorem dX1_reckon_18 : decode cX1_reckon 18 = .ok (.invokestatic 135, 3) := by decide +kernel
theorem dX1_reckon_21 : decode cX1_reckon 21 = .ok (.istore 5, 2) := by decide +kernel
theorem dX1_reckon_230 : decode cX1_reckon 230 = .ok (.ireturn, 1) := by decide +kernel
def wW_X1_reckon (ak : Nat → ClassId) (ad : Nat → Nat) (h : Nat) (mm : Nat → Nat) (pg : Nat) (Mway : Int32) (Mstate : Int32) (Mnext : Int32) (Msteps : Int32) (Mwritten : Int32) (Mworn : Nat → Int32) (Mcells : Nat → Int32) (Mstack : Nat → Int32) : va_W := [(h, .inr (1, xob mm (pg) (Mway) (Mstate) (Mnext) (Msteps) (Mwritten))), ((mm 2), .inl (ak 0, 16, .inl (Mworn))), ((mm 3), .inl (ak 0, 6, .inl (Mcells))), ((mm 5), .inl (ak 0, 32, .inl (Mstack)))]
def wK_X1_reckon (ak : Nat → ClassId) (ad : Nat → Nat) (pg : Nat) (pa : Nat → Nat) (cl : Nat) (Pst : Int32) (Pce : Int32) (Pgi : Int32) (Pln : Int32) (Pcode : Nat → Int32) : va_W := [(pg, .inr (2, pob pa (Pst) (Pce) (Pgi) (Pln))), ((pa 12), .inl (ak 0, cl, .inl (Pcode)))]
def kf_X1_reckon_175 (Mworn : Nat → Int32) (Mcells : Nat → Int32) (Pln : Int32) (Pcode : Nat → Int32) (cl : Nat) (xf : Int32) (xt : Int32) (κ23 : (Nat → Int32) → Int32 → Int32 → Int32 → Prop) (Φ : Int32 → (Nat → Int32) → Prop) (Mstack : Nat → Int32) (l3 : Int32) (l4 : Int32) (l5 : Int32) (l6 : Int32) : Prop := (l3 ≤ 1 → κ23 Mstack l3 l4 (l5 + 1)) ∧ (¬ l3 ≤ 1 → vp_in ((l3 + (-1)) - 1) 32 ∧ vp_in (l3 + (-1)) 32 ∧ wp_X1_joined l6 (Mstack ((l3 + (-1)) - 1).toNatClampNeg) (Mstack (l3 + (-1)).toNatClampNeg) (fun r_12 => vp_in ((l3 + (-1)) - 1) 32 ∧ κ23 (upd Mstack ((l3 + (-1)) - 1).toNatClampNeg r_12) (l3 + (-1)) l4 (l5 + 1)))
set_option maxHeartbeats 4000000 in
set_option maxRecDepth 100000 in
theorem kj_X1_reckon_175 {p : Program} {l : Launch} {e : Env} {R : Room} {s : State} {m : MethodId} {args : Array Value} {below : List Frame} {meth : Method} {c : Code} {cells slots : Nat} {Q : State → Prop} {A : Nat → Prop} {D : va_G} {ak : Nat → ClassId} {ad : Nat → Nat} (hx : p.tables.exec = Jvm.exec) (hb : c.code = cX1_reckon) (hown : s.vm.findClass RX1 = some m.cls) (hts : ∀ w ∈ wsX1_reckon, w.before args s = true) (hml : c.maxLocals = 8) (hE : EV D ak s) (hT : ST D ak ad A s s.heap) (hA : ∀ q, s.heap.size ≤ q → A q) (hRf : 1 ≤ R.frames) (hRl : 22 ≤ R.locals) (hRc : cells ≤ R.cells ∧ slots ≤ R.slots) (h : Nat) (mm : Nat → Nat) (pg : Nat) (pa : Nat → Nat) (cl : Nat) (Mway : Int32) (Mstate : Int32) (Mnext : Int32) (Msteps : Int32) (Mwritten : Int32) (Mworn : Nat → Int32) (Mcells : Nat → Int32) (Pst : Int32) (Pce : Int32) (Pgi : Int32) (Pln : Int32) (Pcode : Nat → Int32) (xf : Int32) (xt : Int32) (hKT : KT D A (wK_X1_reckon ak ad pg pa cl Pst Pce Pgi Pln Pcode) s.heap) (κ23 : (Nat → Int32) → Int32 → Int32 → Int32 → Prop) (Φ : Int32 → (Nat → Int32) → Prop)
    (kk23 : ∀ (Mstack : Nat → Int32) (l3 : Int32) (l4 : Int32) (l5 : Int32) (H : Heap) (locs : List Loc) (ls : Array Slot), κ23 Mstack l3 l4 l5 → va_P D vwCl (wW_X1_reckon ak ad h mm pg Mway Mstate Mnext Msteps Mwritten Mworn Mcells Mstack) H → va_D A (wW_X1_reckon ak ad h mm pg Mway Mstate Mnext Msteps Mwritten Mworn Mcells Mstack) → va_S A s.heap H locs → lv_has ls 8 [(0, .ref h), (3, .int (l3)), (4, .int (l4)), (5, .int (l5))] → W p l e R s m args below meth c H locs cells slots Q (F0 m 23 ls ([])))
    (kR230 : ∀ (r : Int32) (Mstack : Nat → Int32) (H : Heap) (locs : List Loc) (ls : Array Slot), Φ r Mstack → va_P D vwCl (wW_X1_reckon ak ad h mm pg Mway Mstate Mnext Msteps Mwritten Mworn Mcells Mstack) H → va_D A (wW_X1_reckon ak ad h mm pg Mway Mstate Mnext Msteps Mwritten Mworn Mcells Mstack) → va_S A s.heap H locs → W p l e R s m args below meth c H locs cells slots Q (F0 m 230 ls [.int r]))
    : ∀ (Mstack : Nat → Int32) (l3 : Int32) (l4 : Int32) (l5 : Int32) (l6 : Int32) (H : Heap) (locs : List Loc) (ls : Array Slot), kf_X1_reckon_175 Mworn Mcells Pln Pcode cl xf xt κ23 Φ Mstack l3 l4 l5 l6 → va_P D vwCl (wW_X1_reckon ak ad h mm pg Mway Mstate Mnext Msteps Mwritten Mworn Mcells Mstack) H → va_D A (wW_X1_reckon ak ad h mm pg Mway Mstate Mnext Msteps Mwritten Mworn Mcells Mstack) → va_S A s.heap H locs → lv_has ls 8 [(0, .ref h), (3, .int (l3)), (4, .int (l4)), (5, .int (l5)), (6, .int (l6))] → W p l e R s m args below meth c H locs cells slots Q (F0 m 175 ls ([])) := by
  have hCW : ∀ {H : Heap} {locs : List Loc}, va_S A s.heap H locs → va_P D vwCl (wK_X1_reckon ak ad pg pa cl Pst Pce Pgi Pln Pcode) H := fun hS => (hKT.kept hS.2.1).1
  intro Mstack l3 l4 l5 l6 H locs ls hw hP hD hS hl
  delta kf_X1_reckon_175 at hw
  refine lv_iload_n hx hb dX1_reckon_175 rfl (lv_at hl 1 rfl) ?_
  refine lv_iconst (v := 1) hx hb dX1_reckon_176 (by decide) ?_
  refine lv_icmp_le (tgt := 210) hx hb dX1_reckon_177 (by decide) (fun c_8 => ?_) (fun c_8 => ?_)
  · replace hw := hw.1 c_8
    refine lv_iinc (v := (l5 + 1)) (lv' := [(5, .int (l5 + 1)), (0, .ref h), (3, .int (l3)), (4, .int (l4)), (6, .int (l6))]) hx hb dX1_reckon_210 hl (k := 3) rfl (rfl) (by decide) rfl (fun ls hl => ?_)
    refine lv_goto (tgt := 23) hx hb dX1_reckon_213 (by decide) ?_
    exact kk23 Mstack l3 l4 (l5 + 1) _ _ _ hw hP hD hS (lv_sub hl [1, 2, 3, 0] rfl)
  · replace hw := hw.2 c_8
    refine lv_iinc (v := (l3 + (-1))) (lv' := [(3, .int (l3 + (-1))), (0, .ref h), (4, .int (l4)), (5, .int (l5)), (6, .int (l6))]) hx hb dX1_reckon_180 hl (k := 1) rfl (rfl) (by decide) rfl (fun ls hl => ?_)
    refine lv_aload_n hx hb dX1_reckon_183 rfl (lv_at hl 1 rfl) ?_
    refine vt_get (D := D) (ci := 1) (v := .ref (mm 5)) (C := RX1) (T := TX1) (N := 12) hx hb hts (fun w h => wm_c (wc_X1 w h)) hown hE.1 hP 0 rfl rfl 6 (by decide) tX1_6 (hts (.fieldLink RX1 24 "WornLines$Machine" "stack" "[I") (wm_c hw_298)) (fun _ h9 => h9) rfl dX1_reckon_184 ?_
    refine lv_iload_n hx hb dX1_reckon_187 rfl (lv_at hl 0 rfl) ?_
    refine lv_iconst (v := 1) hx hb dX1_reckon_188 (by decide) ?_
    refine lv_isub hx hb dX1_reckon_189 ?_
    refine lv_iload hx hb dX1_reckon_190 (lv_at hl 4 rfl) ?_
    refine lv_aload_n hx hb dX1_reckon_192 rfl (lv_at hl 1 rfl) ?_
    refine vt_get (D := D) (ci := 1) (v := .ref (mm 5)) (C := RX1) (T := TX1) (N := 12) hx hb hts (fun w h => wm_c (wc_X1 w h)) hown hE.1 hP 0 rfl rfl 6 (by decide) tX1_6 (hts (.fieldLink RX1 24 "WornLines$Machine" "stack" "[I") (wm_c hw_298)) (fun _ h9 => h9) rfl dX1_reckon_193 ?_
    refine lv_iload_n hx hb dX1_reckon_196 rfl (lv_at hl 0 rfl) ?_
    refine lv_iconst (v := 1) hx hb dX1_reckon_197 (by decide) ?_
    refine lv_isub hx hb dX1_reckon_198 ?_
    obtain ⟨h_9, hw⟩ := hw
    refine va_iald hx hb hE.1 hP 3 0 rfl rfl (h_9) dX1_reckon_199 ?_
    refine lv_aload_n hx hb dX1_reckon_200 rfl (lv_at hl 1 rfl) ?_
    refine vt_get (D := D) (ci := 1) (v := .ref (mm 5)) (C := RX1) (T := TX1) (N := 12) hx hb hts (fun w h => wm_c (wc_X1 w h)) hown hE.1 hP 0 rfl rfl 6 (by decide) tX1_6 (hts (.fieldLink RX1 24 "WornLines$Machine" "stack" "[I") (wm_c hw_298)) (fun _ h9 => h9) rfl dX1_reckon_201 ?_
    refine lv_iload_n hx hb dX1_reckon_204 rfl (lv_at hl 0 rfl) ?_
    obtain ⟨h_10, hw⟩ := hw
    refine va_iald hx hb hE.1 hP 3 0 rfl rfl (h_10) dX1_reckon_205 ?_
    refine kc_i (wc := []) (wr := [(h, .inr (1, xob mm (pg) (Mway) (Mstate) (Mnext) (Msteps) (Mwritten))), ((mm 2), .inl (ak 0, 16, .inl (Mworn))), ((mm 3), .inl (ak 0, 6, .inl (Mcells))), ((mm 5), .inl (ak 0, 32, .inl (Mstack)))]) hP hD hS hA [] [0, 1, 2, 3] rfl rfl (by decide) (by decide) (va_runS (As := [.int (l6), .int (Mstack ((l3 + (-1)) - 1).toNatClampNeg), .int (Mstack (l3 + (-1)).toNatClampNeg)]) (rest := [.int ((l3 + (-1)) - 1), .ref (mm 5)]) ⟨hx, hb, hml, hown, hts⟩ (c_X1_joined l D ak ad _ l6 (Mstack ((l3 + (-1)) - 1).toNatClampNeg) (Mstack (l3 + (-1)).toNatClampNeg) _ hw) (va_cwS 3 hts gX1_reckon_X1_joined rfl rfl rfl hz_X1_joined ⟨(Nat.le_trans (Nat.le_of_ble_eq_true rfl) hRf), (Nat.le_trans (Nat.le_of_ble_eq_true rfl) hRl)⟩) (kc_pre (As := [.int (l6), .int (Mstack ((l3 + (-1)) - 1).toNatClampNeg), .int (Mstack (l3 + (-1)).toNatClampNeg)]) (wc := []) hE hT hP hD hS hA [] (by decide) rfl rfl) rfl rfl hl.1 rfl (lv_room (Nat.le_of_ble_eq_true rfl)) dX1_reckon_206 ⟨hRc.1, hRc.2⟩) (fun r_12 u_11 H locs hw hP hD hS => ?_)
    try dsimp -zeta only at hw
    have hP : va_P D vwCl (wW_X1_reckon ak ad h mm pg Mway Mstate Mnext Msteps Mwritten Mworn Mcells Mstack) H := hP.sub [0, 1, 2, 3] rfl
    have hD : va_D A (wW_X1_reckon ak ad h mm pg Mway Mstate Mnext Msteps Mwritten Mworn Mcells Mstack) := hD.sub [0, 1, 2, 3] (by decide) rfl
    obtain ⟨h_13, hw⟩ := hw
    refine va_iast hx hb hE.1 hP hD hS 3 0 rfl rfl (h_13) dX1_reckon_209 (fun H locs hP hD hS => ?_)
    have hP : va_P D vwCl (wW_X1_reckon ak ad h mm pg Mway Mstate Mnext Msteps Mwritten Mworn Mcells (upd Mstack ((l3 + (-1)) - 1).toNatClampNeg r_12)) H := hP
    have hD : va_D A (wW_X1_reckon ak ad h mm pg Mway Mstate Mnext Msteps Mwritten Mworn Mcells (upd Mstack ((l3 + (-1)) - 1).toNatClampNeg r_12)) := hD
    refine lv_iinc (v := (l5 + 1)) (lv' := [(5, .int (l5 + 1)), (3, .int (l3 + (-1))), (0, .ref h), (4, .int (l4)), (6, .int (l6))]) hx hb dX1_reckon_210 hl (k := 3) rfl (rfl) (by decide) rfl (fun ls hl => ?_)
    refine lv_goto (tgt := 23) hx hb dX1_reckon_213 (by decide) ?_
    exact kk23 (upd Mstack ((l3 + (-1)) - 1).toNatClampNeg r_12) (l3 + (-1)) l4 (l5 + 1) _ _ _ hw hP hD hS (lv_sub hl [2, 1, 3, 0] rfl)

def kf_X1_reckon_138 (Mworn : Nat → Int32) (Mcells : Nat → Int32) (Pln : Int32) (Pcode : Nat → Int32) (cl : Nat) (xf : Int32) (xt : Int32) (κ23 : (Nat → Int32) → Int32 → Int32 → Int32 → Prop) (Φ : Int32 → (Nat → Int32) → Prop) (Mstack : Nat → Int32) (l3 : Int32) (l4 : Int32) (l5 : Int32) (l6 : Int32) : Prop := (¬ l6 = 3 → kf_X1_reckon_175 Mworn Mcells Pln Pcode cl xf xt κ23 Φ Mstack l3 l4 l5 l6) ∧ (l6 = 3 → (l3 ≤ 0 → kf_X1_reckon_175 Mworn Mcells Pln Pcode cl xf xt κ23 Φ Mstack l3 l4 l5 l6) ∧ (¬ l3 ≤ 0 → vp_in (l3 - 1) 32 ∧ (¬ (Mstack (l3 - 1).toNatClampNeg) = 0 → vp_in (l3 - 1) 32 ∧ κ23 (upd Mstack (l3 - 1).toNatClampNeg 0) l3 l4 (l5 + 1)) ∧ ((Mstack (l3 - 1).toNatClampNeg) = 0 → vp_in (l3 - 1) 32 ∧ κ23 (upd Mstack (l3 - 1).toNatClampNeg 1) l3 l4 (l5 + 1))))
set_option maxHeartbeats 4000000 in
set_option maxRecDepth 100000 in
theorem kj_X1_reckon_138 {p : Program} {l : Launch} {e : Env} {R : Room} {s : State} {m : MethodId} {args : Array Value} {below : List Frame} {meth : Method} {c : Code} {cells slots : Nat} {Q : State → Prop} {A : Nat → Prop} {D : va_G} {ak : Nat → ClassId} {ad : Nat → Nat} (hx : p.tables.exec = Jvm.exec) (hb : c.code = cX1_reckon) (hown : s.vm.findClass RX1 = some m.cls) (hts : ∀ w ∈ wsX1_reckon, w.before args s = true) (hml : c.maxLocals = 8) (hE : EV D ak s) (hT : ST D ak ad A s s.heap) (hA : ∀ q, s.heap.size ≤ q → A q) (hRf : 1 ≤ R.frames) (hRl : 22 ≤ R.locals) (hRc : cells ≤ R.cells ∧ slots ≤ R.slots) (h : Nat) (mm : Nat → Nat) (pg : Nat) (pa : Nat → Nat) (cl : Nat) (Mway : Int32) (Mstate : Int32) (Mnext : Int32) (Msteps : Int32) (Mwritten : Int32) (Mworn : Nat → Int32) (Mcells : Nat → Int32) (Pst : Int32) (Pce : Int32) (Pgi : Int32) (Pln : Int32) (Pcode : Nat → Int32) (xf : Int32) (xt : Int32) (hKT : KT D A (wK_X1_reckon ak ad pg pa cl Pst Pce Pgi Pln Pcode) s.heap) (κ23 : (Nat → Int32) → Int32 → Int32 → Int32 → Prop) (Φ : Int32 → (Nat → Int32) → Prop)
    (kk23 : ∀ (Mstack : Nat → Int32) (l3 : Int32) (l4 : Int32) (l5 : Int32) (H : Heap) (locs : List Loc) (ls : Array Slot), κ23 Mstack l3 l4 l5 → va_P D vwCl (wW_X1_reckon ak ad h mm pg Mway Mstate Mnext Msteps Mwritten Mworn Mcells Mstack) H → va_D A (wW_X1_reckon ak ad h mm pg Mway Mstate Mnext Msteps Mwritten Mworn Mcells Mstack) → va_S A s.heap H locs → lv_has ls 8 [(0, .ref h), (3, .int (l3)), (4, .int (l4)), (5, .int (l5))] → W p l e R s m args below meth c H locs cells slots Q (F0 m 23 ls ([])))
    (kR230 : ∀ (r : Int32) (Mstack : Nat → Int32) (H : Heap) (locs : List Loc) (ls : Array Slot), Φ r Mstack → va_P D vwCl (wW_X1_reckon ak ad h mm pg Mway Mstate Mnext Msteps Mwritten Mworn Mcells Mstack) H → va_D A (wW_X1_reckon ak ad h mm pg Mway Mstate Mnext Msteps Mwritten Mworn Mcells Mstack) → va_S A s.heap H locs → W p l e R s m args below meth c H locs cells slots Q (F0 m 230 ls [.int r]))
    : ∀ (Mstack : Nat → Int32) (l3 : Int32) (l4 : Int32) (l5 : Int32) (l6 : Int32) (H : Heap) (locs : List Loc) (ls : Array Slot), kf_X1_reckon_138 Mworn Mcells Pln Pcode cl xf xt κ23 Φ Mstack l3 l4 l5 l6 → va_P D vwCl (wW_X1_reckon ak ad h mm pg Mway Mstate Mnext Msteps Mwritten Mworn Mcells Mstack) H → va_D A (wW_X1_reckon ak ad h mm pg Mway Mstate Mnext Msteps Mwritten Mworn Mcells Mstack) → va_S A s.heap H locs → lv_has ls 8 [(0, .ref h), (3, .int (l3)), (4, .int (l4)), (5, .int (l5)), (6, .int (l6))] → W p l e R s m args below meth c H locs cells slots Q (F0 m 138 ls ([])) := by
  have hCW : ∀ {H : Heap} {locs : List Loc}, va_S A s.heap H locs → va_P D vwCl (wK_X1_reckon ak ad pg pa cl Pst Pce Pgi Pln Pcode) H := fun hS => (hKT.kept hS.2.1).1
  intro Mstack l3 l4 l5 l6 H locs ls hw hP hD hS hl
  delta kf_X1_reckon_138 at hw
  refine lv_iload hx hb dX1_reckon_138 (lv_at hl 4 rfl) ?_
  refine lv_iconst (v := 3) hx hb dX1_reckon_140 (by decide) ?_
  refine lv_icmp_ne (tgt := 175) hx hb dX1_reckon_141 (by decide) (fun c_7 => ?_) (fun c_7 => ?_)
  · replace hw := hw.1 c_7
    exact kj_X1_reckon_175 hx hb hown hts hml hE hT hA hRf hRl hRc h mm pg pa cl Mway Mstate Mnext Msteps Mwritten Mworn Mcells Pst Pce Pgi Pln Pcode xf xt hKT _ Φ kk23 kR230 Mstack l3 l4 l5 l6 _ _ _ hw hP hD hS (lv_sub hl [0, 1, 2, 3, 4] rfl)
  · replace hw := hw.2 c_7
    refine lv_iload_n hx hb dX1_reckon_144 rfl (lv_at hl 1 rfl) ?_
    refine lv_if_le (tgt := 175) hx hb dX1_reckon_145 (by decide) (fun c_14 => ?_) (fun c_14 => ?_)
    · replace hw := hw.1 c_14
      exact kj_X1_reckon_175 hx hb hown hts hml hE hT hA hRf hRl hRc h mm pg pa cl Mway Mstate Mnext Msteps Mwritten Mworn Mcells Pst Pce Pgi Pln Pcode xf xt hKT _ Φ kk23 kR230 Mstack l3 l4 l5 l6 _ _ _ hw hP hD hS (lv_sub hl [0, 1, 2, 3, 4] rfl)
    · replace hw := hw.2 c_14
      refine lv_aload_n hx hb dX1_reckon_148 rfl (lv_at hl 0 rfl) ?_
      refine vt_get (D := D) (ci := 1) (v := .ref (mm 5)) (C := RX1) (T := TX1) (N := 12) hx hb hts (fun w h => wm_c (wc_X1 w h)) hown hE.1 hP 0 rfl rfl 6 (by decide) tX1_6 (hts (.fieldLink RX1 24 "WornLines$Machine" "stack" "[I") (wm_c hw_298)) (fun _ h9 => h9) rfl dX1_reckon_149 ?_
      refine lv_iload_n hx hb dX1_reckon_152 rfl (lv_at hl 1 rfl) ?_
      refine lv_iconst (v := 1) hx hb dX1_reckon_153 (by decide) ?_
      refine lv_isub hx hb dX1_reckon_154 ?_
      refine lv_aload_n hx hb dX1_reckon_155 rfl (lv_at hl 0 rfl) ?_
      refine vt_get (D := D) (ci := 1) (v := .ref (mm 5)) (C := RX1) (T := TX1) (N := 12) hx hb hts (fun w h => wm_c (wc_X1 w h)) hown hE.1 hP 0 rfl rfl 6 (by decide) tX1_6 (hts (.fieldLink RX1 24 "WornLines$Machine" "stack" "[I") (wm_c hw_298)) (fun _ h9 => h9) rfl dX1_reckon_156 ?_
      refine lv_iload_n hx hb dX1_reckon_159 rfl (lv_at hl 1 rfl) ?_
      refine lv_iconst (v := 1) hx hb dX1_reckon_160 (by decide) ?_
      refine lv_isub hx hb dX1_reckon_161 ?_
      obtain ⟨h_15, hw⟩ := hw
      refine va_iald hx hb hE.1 hP 3 0 rfl rfl (h_15) dX1_reckon_162 ?_
      refine lv_if_ne (tgt := 170) hx hb dX1_reckon_163 (by decide) (fun c_16 => ?_) (fun c_16 => ?_)
      · replace hw := hw.1 c_16
        refine lv_iconst (v := 0) hx hb dX1_reckon_170 (by decide) ?_
        obtain ⟨h_17, hw⟩ := hw
        refine va_iast hx hb hE.1 hP hD hS 3 0 rfl rfl (h_17) dX1_reckon_171 (fun H locs hP hD hS => ?_)
        have hP : va_P D vwCl (wW_X1_reckon ak ad h mm pg Mway Mstate Mnext Msteps Mwritten Mworn Mcells (upd Mstack (l3 - 1).toNatClampNeg 0)) H := hP
        have hD : va_D A (wW_X1_reckon ak ad h mm pg Mway Mstate Mnext Msteps Mwritten Mworn Mcells (upd Mstack (l3 - 1).toNatClampNeg 0)) := hD
        refine lv_goto (tgt := 210) hx hb dX1_reckon_172 (by decide) ?_
        refine lv_iinc (v := (l5 + 1)) (lv' := [(5, .int (l5 + 1)), (0, .ref h), (3, .int (l3)), (4, .int (l4)), (6, .int (l6))]) hx hb dX1_reckon_210 hl (k := 3) rfl (rfl) (by decide) rfl (fun ls hl => ?_)
        refine lv_goto (tgt := 23) hx hb dX1_reckon_213 (by decide) ?_
        exact kk23 (upd Mstack (l3 - 1).toNatClampNeg 0) l3 l4 (l5 + 1) _ _ _ hw hP hD hS (lv_sub hl [1, 2, 3, 0] rfl)
      · replace hw := hw.2 c_16
        refine lv_iconst (v := 1) hx hb dX1_reckon_166 (by decide) ?_
        refine lv_goto (tgt := 171) hx hb dX1_reckon_167 (by decide) ?_
        obtain ⟨h_18, hw⟩ := hw
        refine va_iast hx hb hE.1 hP hD hS 3 0 rfl rfl (h_18) dX1_reckon_171 (fun H locs hP hD hS => ?_)
        have hP : va_P D vwCl (wW_X1_reckon ak ad h mm pg Mway Mstate Mnext Msteps Mwritten Mworn Mcells (upd Mstack (l3 - 1).toNatClampNeg 1)) H := hP
        have hD : va_D A (wW_X1_reckon ak ad h mm pg Mway Mstate Mnext Msteps Mwritten Mworn Mcells (upd Mstack (l3 - 1).toNatClampNeg 1)) := hD
        refine lv_goto (tgt := 210) hx hb dX1_reckon_172 (by decide) ?_
        refine lv_iinc (v := (l5 + 1)) (lv' := [(5, .int (l5 + 1)), (0, .ref h), (3, .int (l3)), (4, .int (l4)), (6, .int (l6))]) hx hb dX1_reckon_210 hl (k := 3) rfl (rfl) (by decide) rfl (fun ls hl => ?_)
        refine lv_goto (tgt := 23) hx hb dX1_reckon_213 (by decide) ?_
        exact kk23 (upd Mstack (l3 - 1).toNatClampNeg 1) l3 l4 (l5 + 1) _ _ _ hw hP hD hS (lv_sub hl [1, 2, 3, 0] rfl)

def kf_X1_reckon_100 (Mworn : Nat → Int32) (Mcells : Nat → Int32) (Pln : Int32) (Pcode : Nat → Int32) (cl : Nat) (xf : Int32) (xt : Int32) (κ23 : (Nat → Int32) → Int32 → Int32 → Int32 → Prop) (Φ : Int32 → (Nat → Int32) → Prop) (Mstack : Nat → Int32) (l3 : Int32) (l4 : Int32) (l5 : Int32) (l6 : Int32) : Prop := (¬ l6 = 2 → kf_X1_reckon_138 Mworn Mcells Pln Pcode cl xf xt κ23 Φ Mstack l3 l4 l5 l6) ∧ (l6 = 2 → (l3 ≤ 0 → kf_X1_reckon_138 Mworn Mcells Pln Pcode cl xf xt κ23 Φ Mstack l3 l4 l5 l6) ∧ (¬ l3 ≤ 0 → vp_in (l3 - 1) 32 ∧ wp_X1_lineOf Pln (Mstack (l3 - 1).toNatClampNeg) (fun r_22 => vp_in r_22 16 ∧ vp_in (l3 - 1) 32 ∧ κ23 (upd Mstack (l3 - 1).toNatClampNeg ((Mworn (r_22).toNatClampNeg))) l3 l4 (l5 + 1))))
set_option maxHeartbeats 4000000 in
set_option maxRecDepth 100000 in
theorem kj_X1_reckon_100 {p : Program} {l : Launch} {e : Env} {R : Room} {s : State} {m : MethodId} {args : Array Value} {below : List Frame} {meth : Method} {c : Code} {cells slots : Nat} {Q : State → Prop} {A : Nat → Prop} {D : va_G} {ak : Nat → ClassId} {ad : Nat → Nat} (hx : p.tables.exec = Jvm.exec) (hb : c.code = cX1_reckon) (hown : s.vm.findClass RX1 = some m.cls) (hts : ∀ w ∈ wsX1_reckon, w.before args s = true) (hml : c.maxLocals = 8) (hE : EV D ak s) (hT : ST D ak ad A s s.heap) (hA : ∀ q, s.heap.size ≤ q → A q) (hRf : 1 ≤ R.frames) (hRl : 22 ≤ R.locals) (hRc : cells ≤ R.cells ∧ slots ≤ R.slots) (h : Nat) (mm : Nat → Nat) (pg : Nat) (pa : Nat → Nat) (cl : Nat) (Mway : Int32) (Mstate : Int32) (Mnext : Int32) (Msteps : Int32) (Mwritten : Int32) (Mworn : Nat → Int32) (Mcells : Nat → Int32) (Pst : Int32) (Pce : Int32) (Pgi : Int32) (Pln : Int32) (Pcode : Nat → Int32) (xf : Int32) (xt : Int32) (hKT : KT D A (wK_X1_reckon ak ad pg pa cl Pst Pce Pgi Pln Pcode) s.heap) (κ23 : (Nat → Int32) → Int32 → Int32 → Int32 → Prop) (Φ : Int32 → (Nat → Int32) → Prop)
    (kk23 : ∀ (Mstack : Nat → Int32) (l3 : Int32) (l4 : Int32) (l5 : Int32) (H : Heap) (locs : List Loc) (ls : Array Slot), κ23 Mstack l3 l4 l5 → va_P D vwCl (wW_X1_reckon ak ad h mm pg Mway Mstate Mnext Msteps Mwritten Mworn Mcells Mstack) H → va_D A (wW_X1_reckon ak ad h mm pg Mway Mstate Mnext Msteps Mwritten Mworn Mcells Mstack) → va_S A s.heap H locs → lv_has ls 8 [(0, .ref h), (3, .int (l3)), (4, .int (l4)), (5, .int (l5))] → W p l e R s m args below meth c H locs cells slots Q (F0 m 23 ls ([])))
    (kR230 : ∀ (r : Int32) (Mstack : Nat → Int32) (H : Heap) (locs : List Loc) (ls : Array Slot), Φ r Mstack → va_P D vwCl (wW_X1_reckon ak ad h mm pg Mway Mstate Mnext Msteps Mwritten Mworn Mcells Mstack) H → va_D A (wW_X1_reckon ak ad h mm pg Mway Mstate Mnext Msteps Mwritten Mworn Mcells Mstack) → va_S A s.heap H locs → W p l e R s m args below meth c H locs cells slots Q (F0 m 230 ls [.int r]))
    : ∀ (Mstack : Nat → Int32) (l3 : Int32) (l4 : Int32) (l5 : Int32) (l6 : Int32) (H : Heap) (locs : List Loc) (ls : Array Slot), kf_X1_reckon_100 Mworn Mcells Pln Pcode cl xf xt κ23 Φ Mstack l3 l4 l5 l6 → va_P D vwCl (wW_X1_reckon ak ad h mm pg Mway Mstate Mnext Msteps Mwritten Mworn Mcells Mstack) H → va_D A (wW_X1_reckon ak ad h mm pg Mway Mstate Mnext Msteps Mwritten Mworn Mcells Mstack) → va_S A s.heap H locs → lv_has ls 8 [(0, .ref h), (3, .int (l3)), (4, .int (l4)), (5, .int (l5)), (6, .int (l6))] → W p l e R s m args below meth c H locs cells slots Q (F0 m 100 ls ([])) := by
  have hCW : ∀ {H : Heap} {locs : List Loc}, va_S A s.heap H locs → va_P D vwCl (wK_X1_reckon ak ad pg pa cl Pst Pce Pgi Pln Pcode) H := fun hS => (hKT.kept hS.2.1).1
  intro Mstack l3 l4 l5 l6 H locs ls hw hP hD hS hl
  delta kf_X1_reckon_100 at hw
  refine lv_iload hx hb dX1_reckon_100 (lv_at hl 4 rfl) ?_
  refine lv_iconst (v := 2) hx hb dX1_reckon_102 (by decide) ?_
  refine lv_icmp_ne (tgt := 138) hx hb dX1_reckon_103 (by decide) (fun c_6 => ?_) (fun c_6 => ?_)
  · replace hw := hw.1 c_6
    exact kj_X1_reckon_138 hx hb hown hts hml hE hT hA hRf hRl hRc h mm pg pa cl Mway Mstate Mnext Msteps Mwritten Mworn Mcells Pst Pce Pgi Pln Pcode xf xt hKT _ Φ kk23 kR230 Mstack l3 l4 l5 l6 _ _ _ hw hP hD hS (lv_sub hl [0, 1, 2, 3, 4] rfl)
  · replace hw := hw.2 c_6
    refine lv_iload_n hx hb dX1_reckon_106 rfl (lv_at hl 1 rfl) ?_
    refine lv_if_le (tgt := 138) hx hb dX1_reckon_107 (by decide) (fun c_19 => ?_) (fun c_19 => ?_)
    · replace hw := hw.1 c_19
      exact kj_X1_reckon_138 hx hb hown hts hml hE hT hA hRf hRl hRc h mm pg pa cl Mway Mstate Mnext Msteps Mwritten Mworn Mcells Pst Pce Pgi Pln Pcode xf xt hKT _ Φ kk23 kR230 Mstack l3 l4 l5 l6 _ _ _ hw hP hD hS (lv_sub hl [0, 1, 2, 3, 4] rfl)
    · replace hw := hw.2 c_19
      refine lv_aload_n hx hb dX1_reckon_110 rfl (lv_at hl 0 rfl) ?_
      refine vt_get (D := D) (ci := 1) (v := .ref (mm 5)) (C := RX1) (T := TX1) (N := 12) hx hb hts (fun w h => wm_c (wc_X1 w h)) hown hE.1 hP 0 rfl rfl 6 (by decide) tX1_6 (hts (.fieldLink RX1 24 "WornLines$Machine" "stack" "[I") (wm_c hw_298)) (fun _ h9 => h9) rfl dX1_reckon_111 ?_
      refine lv_iload_n hx hb dX1_reckon_114 rfl (lv_at hl 1 rfl) ?_
      refine lv_iconst (v := 1) hx hb dX1_reckon_115 (by decide) ?_
      refine lv_isub hx hb dX1_reckon_116 ?_
      refine lv_aload_n hx hb dX1_reckon_117 rfl (lv_at hl 0 rfl) ?_
      refine vt_get (D := D) (ci := 1) (v := .ref (mm 2)) (C := RX1) (T := TX1) (N := 12) hx hb hts (fun w h => wm_c (wc_X1 w h)) hown hE.1 hP 0 rfl rfl 3 (by decide) tX1_3 (hts (.fieldLink RX1 18 "WornLines$Machine" "worn" "[I") (wm_c hw_296)) (fun _ h9 => h9) rfl dX1_reckon_118 ?_
      refine lv_aload_n hx hb dX1_reckon_121 rfl (lv_at hl 0 rfl) ?_
      refine lv_aload_n hx hb dX1_reckon_122 rfl (lv_at hl 0 rfl) ?_
      refine vt_get (D := D) (ci := 1) (v := .ref (mm 5)) (C := RX1) (T := TX1) (N := 12) hx hb hts (fun w h => wm_c (wc_X1 w h)) hown hE.1 hP 0 rfl rfl 6 (by decide) tX1_6 (hts (.fieldLink RX1 24 "WornLines$Machine" "stack" "[I") (wm_c hw_298)) (fun _ h9 => h9) rfl dX1_reckon_123 ?_
      refine lv_iload_n hx hb dX1_reckon_126 rfl (lv_at hl 1 rfl) ?_
      refine lv_iconst (v := 1) hx hb dX1_reckon_127 (by decide) ?_
      refine lv_isub hx hb dX1_reckon_128 ?_
      obtain ⟨h_20, hw⟩ := hw
      refine va_iald hx hb hE.1 hP 3 0 rfl rfl (h_20) dX1_reckon_129 ?_
      refine kc_i (wc := (wW_X1_lineOf ak ad h mm pg Mway Mstate Mnext Msteps Mwritten)) (wr := [((mm 2), .inl (ak 0, 16, .inl (Mworn))), ((mm 3), .inl (ak 0, 6, .inl (Mcells))), ((mm 5), .inl (ak 0, 32, .inl (Mstack)))]) hP hD hS hA [0] [1, 2, 3] rfl rfl (by decide) (by decide) (va_runV (As := [.int (Mstack (l3 - 1).toNatClampNeg)]) (rest := [.ref (mm 2), .int (l3 - 1), .ref (mm 5)]) ⟨hx, hb, hml, hown, hts⟩ (c_X1_lineOf l D ak ad _ h mm pg pa Mway Mstate Mnext Msteps Mwritten Pst Pce Pgi Pln (Mstack (l3 - 1).toNatClampNeg) _ hw) (cwV 1 hts gX1_reckon_X1_lineOf rfl rfl rfl hv_X1_lineOf ⟨(Nat.le_trans (Nat.le_of_ble_eq_true rfl) hRf), (Nat.le_trans (Nat.le_of_ble_eq_true rfl) hRl)⟩) (kc_preVK (As := [.int (Mstack (l3 - 1).toNatClampNeg)]) (wc := (wW_X1_lineOf ak ad h mm pg Mway Mstate Mnext Msteps Mwritten)) (ck := (wK_X1_lineOf ak ad pg pa Pst Pce Pgi Pln)) hKT hE hT hP hD hS hA [0] [0] (by decide) rfl rfl rfl hP 0 1 rfl rfl rfl) rfl rfl hl.1 rfl (lv_room (Nat.le_of_ble_eq_true rfl)) dX1_reckon_130 ⟨hRc.1, hRc.2⟩) (fun r_22 u_21 H locs hw hP hD hS => ?_)
      try dsimp -zeta only at hw
      have hP : va_P D vwCl (wW_X1_reckon ak ad h mm pg Mway Mstate Mnext Msteps Mwritten Mworn Mcells Mstack) H := hP.sub [3, 0, 1, 2] rfl
      have hD : va_D A (wW_X1_reckon ak ad h mm pg Mway Mstate Mnext Msteps Mwritten Mworn Mcells Mstack) := hD.sub [3, 0, 1, 2] (by decide) rfl
      obtain ⟨h_23, hw⟩ := hw
      refine va_iald hx hb hE.1 hP 1 0 rfl rfl (h_23) dX1_reckon_133 ?_
      obtain ⟨h_24, hw⟩ := hw
      refine va_iast hx hb hE.1 hP hD hS 3 0 rfl rfl (h_24) dX1_reckon_134 (fun H locs hP hD hS => ?_)
      have hP : va_P D vwCl (wW_X1_reckon ak ad h mm pg Mway Mstate Mnext Msteps Mwritten Mworn Mcells (upd Mstack (l3 - 1).toNatClampNeg ((Mworn (r_22).toNatClampNeg)))) H := hP
      have hD : va_D A (wW_X1_reckon ak ad h mm pg Mway Mstate Mnext Msteps Mwritten Mworn Mcells (upd Mstack (l3 - 1).toNatClampNeg ((Mworn (r_22).toNatClampNeg)))) := hD
      refine lv_goto (tgt := 210) hx hb dX1_reckon_135 (by decide) ?_
      refine lv_iinc (v := (l5 + 1)) (lv' := [(5, .int (l5 + 1)), (0, .ref h), (3, .int (l3)), (4, .int (l4)), (6, .int (l6))]) hx hb dX1_reckon_210 hl (k := 3) rfl (rfl) (by decide) rfl (fun ls hl => ?_)
      refine lv_goto (tgt := 23) hx hb dX1_reckon_213 (by decide) ?_
      exact kk23 (upd Mstack (l3 - 1).toNatClampNeg ((Mworn (r_22).toNatClampNeg))) l3 l4 (l5 + 1) _ _ _ hw hP hD hS (lv_sub hl [1, 2, 3, 0] rfl)

def lb_X1_reckon_23 (Mworn : Nat → Int32) (Mcells : Nat → Int32) (Pln : Int32) (Pcode : Nat → Int32) (cl : Nat) (xf : Int32) (xt : Int32)  (Φ : Int32 → (Nat → Int32) → Prop) (back : (Nat → Int32) → Int32 → Int32 → Int32 → Prop) (Mstack : Nat → Int32) (l3 : Int32) (l4 : Int32) (l5 : Int32) : Prop := (l4 ≤ l5 → (l3 ≤ 0 → Φ 0 Mstack) ∧ (¬ l3 ≤ 0 → Φ (Mstack 0) Mstack)) ∧ (¬ l4 ≤ l5 → vp_in l5 cl ∧ vp_in l5 cl ∧ (1 < ((Pcode (l5).toNatClampNeg) &&& 15) → kf_X1_reckon_100 Mworn Mcells Pln Pcode cl xf xt back Φ Mstack l3 l4 l5 ((Pcode (l5).toNatClampNeg) &&& 15)) ∧ (¬ 1 < ((Pcode (l5).toNatClampNeg) &&& 15) → (32 ≤ l3 → kf_X1_reckon_100 Mworn Mcells Pln Pcode cl xf xt back Φ Mstack l3 l4 l5 ((Pcode (l5).toNatClampNeg) &&& 15)) ∧ (¬ 32 ≤ l3 → (¬ ((Pcode (l5).toNatClampNeg) &&& 15) = 0 → vp_in ((Pcode (l5).toNatClampNeg) >>> ((4 : Int32) &&& 31)) 6 ∧ vp_in l3 32 ∧ back (upd Mstack (l3).toNatClampNeg ((Mcells ((Pcode (l5).toNatClampNeg) >>> ((4 : Int32) &&& 31)).toNatClampNeg))) (l3 + 1) l4 (l5 + 1)) ∧ (((Pcode (l5).toNatClampNeg) &&& 15) = 0 → vp_in l3 32 ∧ back (upd Mstack (l3).toNatClampNeg (((Pcode (l5).toNatClampNeg) >>> ((4 : Int32) &&& 31)))) (l3 + 1) l4 (l5 + 1)))))
def lf_X1_reckon_23 (Mworn : Nat → Int32) (Mcells : Nat → Int32) (Pln : Int32) (Pcode : Nat → Int32) (cl : Nat) (xf : Int32) (xt : Int32)  (Φ : Int32 → (Nat → Int32) → Prop) : Nat → (Nat → Int32) → Int32 → Int32 → Int32 → Prop
  | 0, _, _, _, _ => False
  | n_ + 1, Mstack, l3, l4, l5 => lb_X1_reckon_23 Mworn Mcells Pln Pcode cl xf xt  Φ (lf_X1_reckon_23 Mworn Mcells Pln Pcode cl xf xt  Φ n_) Mstack l3 l4 l5
theorem li_X1_reckon_23 (Mworn : Nat → Int32) (Mcells : Nat → Int32) (Pln : Int32) (Pcode : Nat → Int32) (cl : Nat) (xf : Int32) (xt : Int32)  (Φ : Int32 → (Nat → Int32) → Prop) (Inv : (Nat → Int32) → Int32 → Int32 → Int32 → Prop) (mu : (Nat → Int32) → Int32 → Int32 → Int32 → Nat) (hs : ∀ (back : (Nat → Int32) → Int32 → Int32 → Int32 → Prop) (Mstack : Nat → Int32) (l3 : Int32) (l4 : Int32) (l5 : Int32), Inv Mstack l3 l4 l5 → (∀ (Mstack' : Nat → Int32) (l3' : Int32) (l4' : Int32) (l5' : Int32), Inv Mstack' l3' l4' l5' → mu Mstack' l3' l4' l5' < mu Mstack l3 l4 l5 → back Mstack' l3' l4' l5') → lb_X1_reckon_23 Mworn Mcells Pln Pcode cl xf xt  Φ back Mstack l3 l4 l5) : ∀ (n_ : Nat) (Mstack : Nat → Int32) (l3 : Int32) (l4 : Int32) (l5 : Int32), Inv Mstack l3 l4 l5 → mu Mstack l3 l4 l5 < n_ → lf_X1_reckon_23 Mworn Mcells Pln Pcode cl xf xt  Φ n_ Mstack l3 l4 l5 := by
  intro n_
  induction n_ with
  | zero => intro Mstack l3 l4 l5 _ h; exact absurd h (Nat.not_lt_zero _)
  | succ n_ ih => intro Mstack l3 l4 l5 hI hm; exact hs _ Mstack l3 l4 l5 hI (fun Mstack' l3' l4' l5' h1 h2 => ih Mstack' l3' l4' l5' h1 (by omega))
set_option maxHeartbeats 4000000 in
set_option maxRecDepth 100000 in
theorem lp_X1_reckon_23 {p : Program} {l : Launch} {e : Env} {R : Room} {s : State} {m : MethodId} {args : Array Value} {below : List Frame} {meth : Method} {c : Code} {cells slots : Nat} {Q : State → Prop} {A : Nat → Prop} {D : va_G} {ak : Nat → ClassId} {ad : Nat → Nat} (hx : p.tables.exec = Jvm.exec) (hb : c.code = cX1_reckon) (hown : s.vm.findClass RX1 = some m.cls) (hts : ∀ w ∈ wsX1_reckon, w.before args s = true) (hml : c.maxLocals = 8) (hE : EV D ak s) (hT : ST D ak ad A s s.heap) (hA : ∀ q, s.heap.size ≤ q → A q) (hRf : 1 ≤ R.frames) (hRl : 22 ≤ R.locals) (hRc : cells ≤ R.cells ∧ slots ≤ R.slots) (h : Nat) (mm : Nat → Nat) (pg : Nat) (pa : Nat → Nat) (cl : Nat) (Mway : Int32) (Mstate : Int32) (Mnext : Int32) (Msteps : Int32) (Mwritten : Int32) (Mworn : Nat → Int32) (Mcells : Nat → Int32) (Pst : Int32) (Pce : Int32) (Pgi : Int32) (Pln : Int32) (Pcode : Nat → Int32) (xf : Int32) (xt : Int32) (hKT : KT D A (wK_X1_reckon ak ad pg pa cl Pst Pce Pgi Pln Pcode) s.heap)  (Φ : Int32 → (Nat → Int32) → Prop)
    (kR230 : ∀ (r : Int32) (Mstack : Nat → Int32) (H : Heap) (locs : List Loc) (ls : Array Slot), Φ r Mstack → va_P D vwCl (wW_X1_reckon ak ad h mm pg Mway Mstate Mnext Msteps Mwritten Mworn Mcells Mstack) H → va_D A (wW_X1_reckon ak ad h mm pg Mway Mstate Mnext Msteps Mwritten Mworn Mcells Mstack) → va_S A s.heap H locs → W p l e R s m args below meth c H locs cells slots Q (F0 m 230 ls [.int r]))
    : ∀ (n_ : Nat) (Mstack : Nat → Int32) (l3 : Int32) (l4 : Int32) (l5 : Int32) (H : Heap) (locs : List Loc) (ls : Array Slot), lf_X1_reckon_23 Mworn Mcells Pln Pcode cl xf xt  Φ n_ Mstack l3 l4 l5 → va_P D vwCl (wW_X1_reckon ak ad h mm pg Mway Mstate Mnext Msteps Mwritten Mworn Mcells Mstack) H → va_D A (wW_X1_reckon ak ad h mm pg Mway Mstate Mnext Msteps Mwritten Mworn Mcells Mstack) → va_S A s.heap H locs → lv_has ls 8 [(0, .ref h), (3, .int (l3)), (4, .int (l4)), (5, .int (l5))] → W p l e R s m args below meth c H locs cells slots Q (F0 m 23 ls ([])) := by
  have hCW : ∀ {H : Heap} {locs : List Loc}, va_S A s.heap H locs → va_P D vwCl (wK_X1_reckon ak ad pg pa cl Pst Pce Pgi Pln Pcode) H := fun hS => (hKT.kept hS.2.1).1
  intro n_
  induction n_ with
  | zero =>
    intro Mstack l3 l4 l5 H locs ls hw
    exact hw.elim
  | succ n_ ih =>
    intro Mstack l3 l4 l5 H locs ls hw hP hD hS hl
    have hw : lb_X1_reckon_23 Mworn Mcells Pln Pcode cl xf xt  Φ (lf_X1_reckon_23 Mworn Mcells Pln Pcode cl xf xt  Φ n_) Mstack l3 l4 l5 := hw
    delta lb_X1_reckon_23 at hw
    refine lv_iload hx hb dX1_reckon_23 (lv_at hl 3 rfl) ?_
    refine lv_iload hx hb dX1_reckon_25 (lv_at hl 2 rfl) ?_
    refine lv_icmp_ge (tgt := 216) hx hb dX1_reckon_27 (by decide) (fun c_1 => ?_) (fun c_1 => ?_)
    · replace hw := hw.1 c_1
      refine lv_iload_n hx hb dX1_reckon_216 rfl (lv_at hl 1 rfl) ?_
      refine lv_if_le (tgt := 229) hx hb dX1_reckon_217 (by decide) (fun c_2 => ?_) (fun c_2 => ?_)
      · replace hw := hw.1 c_2
        refine lv_iconst (v := 0) hx hb dX1_reckon_229 (by decide) ?_
        exact kR230 0 Mstack _ _ _ hw hP hD hS
      · replace hw := hw.2 c_2
        refine lv_aload_n hx hb dX1_reckon_220 rfl (lv_at hl 0 rfl) ?_
        refine vt_get (D := D) (ci := 1) (v := .ref (mm 5)) (C := RX1) (T := TX1) (N := 12) hx hb hts (fun w h => wm_c (wc_X1 w h)) hown hE.1 hP 0 rfl rfl 6 (by decide) tX1_6 (hts (.fieldLink RX1 24 "WornLines$Machine" "stack" "[I") (wm_c hw_298)) (fun _ h9 => h9) rfl dX1_reckon_221 ?_
        refine lv_iconst (v := 0) hx hb dX1_reckon_224 (by decide) ?_
        refine va_iald hx hb hE.1 hP 3 0 rfl rfl (by unfold vp_in; decide) dX1_reckon_225 ?_
        refine W.eq (g2 := F0 m 226 ls (.int (Mstack 0) :: [])) rfl ?_
        refine lv_goto (tgt := 230) hx hb dX1_reckon_226 (by decide) ?_
        exact kR230 (Mstack 0) Mstack _ _ _ hw hP hD hS
    · replace hw := hw.2 c_1
      refine lv_aload_n hx hb dX1_reckon_30 rfl (lv_at hl 0 rfl) ?_
      refine vt_get (D := D) (ci := 1) (v := .ref pg) (C := RX1) (T := TX1) (N := 12) hx hb hts (fun w h => wm_c (wc_X1 w h)) hown hE.1 hP 0 rfl rfl 0 (by decide) tX1_0 (hts (.fieldLink RX1 34 "WornLines$Machine" "programme" "LWornLines$Programme;") (wm_c hw_301)) (fun _ h9 => h9) rfl dX1_reckon_31 ?_
      refine va_get (D := D) (ci := 2) (v := .ref (pa 12)) (C := RX2) (T := TX2) (N := 17) hx hb hts (fun w h => wm_c (wc_X2 w h)) hown hE.1 (hCW hS) 0 rfl rfl 16 (by decide) (hts (.fieldLink RX1 138 "WornLines$Programme" "code" "[I") (wm_c hw_335)) (fun _ h9 => h9) rfl dX1_reckon_34 ?_
      refine lv_iload hx hb dX1_reckon_37 (lv_at hl 3 rfl) ?_
      obtain ⟨h_3, hw⟩ := hw
      refine va_iald hx hb hE.1 (hCW hS) 1 0 rfl rfl (h_3) dX1_reckon_39 ?_
      refine lv_bipush (v := 15) hx hb dX1_reckon_40 (by decide) ?_
      refine lv_iand hx hb dX1_reckon_42 ?_
      refine lv_istore (lv' := [(6, .int ((Pcode (l5).toNatClampNeg) &&& 15)), (0, .ref h), (3, .int (l3)), (4, .int (l4)), (5, .int (l5))]) hx hb dX1_reckon_43 hl (by decide) rfl (fun ls hl => ?_)
      refine lv_aload_n hx hb dX1_reckon_45 rfl (lv_at hl 1 rfl) ?_
      refine vt_get (D := D) (ci := 1) (v := .ref pg) (C := RX1) (T := TX1) (N := 12) hx hb hts (fun w h => wm_c (wc_X1 w h)) hown hE.1 hP 0 rfl rfl 0 (by decide) tX1_0 (hts (.fieldLink RX1 34 "WornLines$Machine" "programme" "LWornLines$Programme;") (wm_c hw_301)) (fun _ h9 => h9) rfl dX1_reckon_46 ?_
      refine va_get (D := D) (ci := 2) (v := .ref (pa 12)) (C := RX2) (T := TX2) (N := 17) hx hb hts (fun w h => wm_c (wc_X2 w h)) hown hE.1 (hCW hS) 0 rfl rfl 16 (by decide) (hts (.fieldLink RX1 138 "WornLines$Programme" "code" "[I") (wm_c hw_335)) (fun _ h9 => h9) rfl dX1_reckon_49 ?_
      refine lv_iload hx hb dX1_reckon_52 (lv_at hl 4 rfl) ?_
      obtain ⟨h_4, hw⟩ := hw
      refine va_iald hx hb hE.1 (hCW hS) 1 0 rfl rfl (h_4) dX1_reckon_54 ?_
      refine lv_iconst (v := 4) hx hb dX1_reckon_55 (by decide) ?_
      refine lv_ishr hx hb dX1_reckon_56 ?_
      refine lv_istore (lv' := [(7, .int ((Pcode (l5).toNatClampNeg) >>> ((4 : Int32) &&& 31))), (6, .int ((Pcode (l5).toNatClampNeg) &&& 15)), (0, .ref h), (3, .int (l3)), (4, .int (l4)), (5, .int (l5))]) hx hb dX1_reckon_57 hl (by decide) rfl (fun ls hl => ?_)
      refine lv_iload hx hb dX1_reckon_59 (lv_at hl 1 rfl) ?_
      refine lv_iconst (v := 1) hx hb dX1_reckon_61 (by decide) ?_
      refine lv_icmp_gt (tgt := 100) hx hb dX1_reckon_62 (by decide) (fun c_5 => ?_) (fun c_5 => ?_)
      · replace hw := hw.1 c_5
        exact kj_X1_reckon_100 hx hb hown hts hml hE hT hA hRf hRl hRc h mm pg pa cl Mway Mstate Mnext Msteps Mwritten Mworn Mcells Pst Pce Pgi Pln Pcode xf xt hKT _ Φ ih kR230 Mstack l3 l4 l5 ((Pcode (l5).toNatClampNeg) &&& 15) _ _ _ hw hP hD hS (lv_sub hl [2, 3, 4, 5, 1] rfl)
      · replace hw := hw.2 c_5
        refine lv_iload_n hx hb dX1_reckon_65 rfl (lv_at hl 3 rfl) ?_
        refine lv_bipush (v := 32) hx hb dX1_reckon_66 (by decide) ?_
        refine lv_icmp_ge (tgt := 100) hx hb dX1_reckon_68 (by decide) (fun c_25 => ?_) (fun c_25 => ?_)
        · replace hw := hw.1 c_25
          exact kj_X1_reckon_100 hx hb hown hts hml hE hT hA hRf hRl hRc h mm pg pa cl Mway Mstate Mnext Msteps Mwritten Mworn Mcells Pst Pce Pgi Pln Pcode xf xt hKT _ Φ ih kR230 Mstack l3 l4 l5 ((Pcode (l5).toNatClampNeg) &&& 15) _ _ _ hw hP hD hS (lv_sub hl [2, 3, 4, 5, 1] rfl)
        · replace hw := hw.2 c_25
          refine lv_aload_n hx hb dX1_reckon_71 rfl (lv_at hl 2 rfl) ?_
          refine vt_get (D := D) (ci := 1) (v := .ref (mm 5)) (C := RX1) (T := TX1) (N := 12) hx hb hts (fun w h => wm_c (wc_X1 w h)) hown hE.1 hP 0 rfl rfl 6 (by decide) tX1_6 (hts (.fieldLink RX1 24 "WornLines$Machine" "stack" "[I") (wm_c hw_298)) (fun _ h9 => h9) rfl dX1_reckon_72 ?_
          refine lv_iload_n hx hb dX1_reckon_75 rfl (lv_at hl 3 rfl) ?_
          refine lv_iload hx hb dX1_reckon_76 (lv_at hl 1 rfl) ?_
          refine lv_if_ne (tgt := 86) hx hb dX1_reckon_78 (by decide) (fun c_26 => ?_) (fun c_26 => ?_)
          · replace hw := hw.1 c_26
            refine lv_aload_n hx hb dX1_reckon_86 rfl (lv_at hl 2 rfl) ?_
            refine vt_get (D := D) (ci := 1) (v := .ref (mm 3)) (C := RX1) (T := TX1) (N := 12) hx hb hts (fun w h => wm_c (wc_X1 w h)) hown hE.1 hP 0 rfl rfl 4 (by decide) tX1_4 (hts (.fieldLink RX1 21 "WornLines$Machine" "cells" "[I") (wm_c hw_297)) (fun _ h9 => h9) rfl dX1_reckon_87 ?_
            refine lv_iload hx hb dX1_reckon_90 (lv_at hl 0 rfl) ?_
            obtain ⟨h_27, hw⟩ := hw
            refine va_iald hx hb hE.1 hP 2 0 rfl rfl (h_27) dX1_reckon_92 ?_
            obtain ⟨h_28, hw⟩ := hw
            refine va_iast hx hb hE.1 hP hD hS 3 0 rfl rfl (h_28) dX1_reckon_93 (fun H locs hP hD hS => ?_)
            have hP : va_P D vwCl (wW_X1_reckon ak ad h mm pg Mway Mstate Mnext Msteps Mwritten Mworn Mcells (upd Mstack (l3).toNatClampNeg ((Mcells ((Pcode (l5).toNatClampNeg) >>> ((4 : Int32) &&& 31)).toNatClampNeg)))) H := hP
            have hD : va_D A (wW_X1_reckon ak ad h mm pg Mway Mstate Mnext Msteps Mwritten Mworn Mcells (upd Mstack (l3).toNatClampNeg ((Mcells ((Pcode (l5).toNatClampNeg) >>> ((4 : Int32) &&& 31)).toNatClampNeg)))) := hD
            refine lv_iinc (v := (l3 + 1)) (lv' := [(3, .int (l3 + 1)), (7, .int ((Pcode (l5).toNatClampNeg) >>> ((4 : Int32) &&& 31))), (6, .int ((Pcode (l5).toNatClampNeg) &&& 15)), (0, .ref h), (4, .int (l4)), (5, .int (l5))]) hx hb dX1_reckon_94 hl (k := 3) rfl (rfl) (by decide) rfl (fun ls hl => ?_)
            refine lv_goto (tgt := 210) hx hb dX1_reckon_97 (by decide) ?_
            refine lv_iinc (v := (l5 + 1)) (lv' := [(5, .int (l5 + 1)), (3, .int (l3 + 1)), (7, .int ((Pcode (l5).toNatClampNeg) >>> ((4 : Int32) &&& 31))), (6, .int ((Pcode (l5).toNatClampNeg) &&& 15)), (0, .ref h), (4, .int (l4))]) hx hb dX1_reckon_210 hl (k := 5) rfl (rfl) (by decide) rfl (fun ls hl => ?_)
            refine lv_goto (tgt := 23) hx hb dX1_reckon_213 (by decide) ?_
            exact ih (upd Mstack (l3).toNatClampNeg ((Mcells ((Pcode (l5).toNatClampNeg) >>> ((4 : Int32) &&& 31)).toNatClampNeg))) (l3 + 1) l4 (l5 + 1) _ _ _ hw hP hD hS (lv_sub hl [4, 1, 5, 0] rfl)
          · replace hw := hw.2 c_26
            refine lv_iload hx hb dX1_reckon_81 (lv_at hl 0 rfl) ?_
            refine lv_goto (tgt := 93) hx hb dX1_reckon_83 (by decide) ?_
            obtain ⟨h_29, hw⟩ := hw
            refine va_iast hx hb hE.1 hP hD hS 3 0 rfl rfl (h_29) dX1_reckon_93 (fun H locs hP hD hS => ?_)
            have hP : va_P D vwCl (wW_X1_reckon ak ad h mm pg Mway Mstate Mnext Msteps Mwritten Mworn Mcells (upd Mstack (l3).toNatClampNeg (((Pcode (l5).toNatClampNeg) >>> ((4 : Int32) &&& 31))))) H := hP
            have hD : va_D A (wW_X1_reckon ak ad h mm pg Mway Mstate Mnext Msteps Mwritten Mworn Mcells (upd Mstack (l3).toNatClampNeg (((Pcode (l5).toNatClampNeg) >>> ((4 : Int32) &&& 31))))) := hD
            refine lv_iinc (v := (l3 + 1)) (lv' := [(3, .int (l3 + 1)), (7, .int ((Pcode (l5).toNatClampNeg) >>> ((4 : Int32) &&& 31))), (6, .int ((Pcode (l5).toNatClampNeg) &&& 15)), (0, .ref h), (4, .int (l4)), (5, .int (l5))]) hx hb dX1_reckon_94 hl (k := 3) rfl (rfl) (by decide) rfl (fun ls hl => ?_)
            refine lv_goto (tgt := 210) hx hb dX1_reckon_97 (by decide) ?_
            refine lv_iinc (v := (l5 + 1)) (lv' := [(5, .int (l5 + 1)), (3, .int (l3 + 1)), (7, .int ((Pcode (l5).toNatClampNeg) >>> ((4 : Int32) &&& 31))), (6, .int ((Pcode (l5).toNatClampNeg) &&& 15)), (0, .ref h), (4, .int (l4))]) hx hb dX1_reckon_210 hl (k := 5) rfl (rfl) (by decide) rfl (fun ls hl => ?_)
            refine lv_goto (tgt := 23) hx hb dX1_reckon_213 (by decide) ?_
            exact ih (upd Mstack (l3).toNatClampNeg (((Pcode (l5).toNatClampNeg) >>> ((4 : Int32) &&& 31)))) (l3 + 1) l4 (l5 + 1) _ _ _ hw hP hD hS (lv_sub hl [4, 1, 5, 0] rfl)

def wp_X1_reckon (Mworn : Nat → Int32) (Mcells : Nat → Int32) (Pln : Int32) (Pcode : Nat → Int32) (cl : Nat) (xf : Int32) (xt : Int32) (Mstack : Nat → Int32) (Φ : Int32 → (Nat → Int32) → Prop) : Prop := (∃ n_, lf_X1_reckon_23 Mworn Mcells Pln Pcode cl xf xt  Φ n_ Mstack 0 (if (nI cl) < xt then (nI cl) else xt) (if (0 : Int32) < xf then xf else (0 : Int32)))
set_option maxHeartbeats 4000000 in
set_option maxRecDepth 100000 in
theorem kj_X1_reckon_e {p : Program} {l : Launch} {e : Env} {R : Room} {s : State} {m : MethodId} {args : Array Value} {below : List Frame} {meth : Method} {c : Code} {cells slots : Nat} {Q : State → Prop} {A : Nat → Prop} {D : va_G} {ak : Nat → ClassId} {ad : Nat → Nat} (hx : p.tables.exec = Jvm.exec) (hb : c.code = cX1_reckon) (hown : s.vm.findClass RX1 = some m.cls) (hts : ∀ w ∈ wsX1_reckon, w.before args s = true) (hml : c.maxLocals = 8) (hE : EV D ak s) (hT : ST D ak ad A s s.heap) (hA : ∀ q, s.heap.size ≤ q → A q) (hRf : 1 ≤ R.frames) (hRl : 22 ≤ R.locals) (hRc : cells ≤ R.cells ∧ slots ≤ R.slots) (h : Nat) (mm : Nat → Nat) (pg : Nat) (pa : Nat → Nat) (cl : Nat) (Mway : Int32) (Mstate : Int32) (Mnext : Int32) (Msteps : Int32) (Mwritten : Int32) (Mworn : Nat → Int32) (Mcells : Nat → Int32) (Pst : Int32) (Pce : Int32) (Pgi : Int32) (Pln : Int32) (Pcode : Nat → Int32) (xf : Int32) (xt : Int32) (hKT : KT D A (wK_X1_reckon ak ad pg pa cl Pst Pce Pgi Pln Pcode) s.heap)  (Φ : Int32 → (Nat → Int32) → Prop)
    (kR230 : ∀ (r : Int32) (Mstack : Nat → Int32) (H : Heap) (locs : List Loc) (ls : Array Slot), Φ r Mstack → va_P D vwCl (wW_X1_reckon ak ad h mm pg Mway Mstate Mnext Msteps Mwritten Mworn Mcells Mstack) H → va_D A (wW_X1_reckon ak ad h mm pg Mway Mstate Mnext Msteps Mwritten Mworn Mcells Mstack) → va_S A s.heap H locs → W p l e R s m args below meth c H locs cells slots Q (F0 m 230 ls [.int r]))
    : ∀ (Mstack : Nat → Int32) (H : Heap) (locs : List Loc) (ls : Array Slot), wp_X1_reckon Mworn Mcells Pln Pcode cl xf xt Mstack Φ → va_P D vwCl (wW_X1_reckon ak ad h mm pg Mway Mstate Mnext Msteps Mwritten Mworn Mcells Mstack) H → va_D A (wW_X1_reckon ak ad h mm pg Mway Mstate Mnext Msteps Mwritten Mworn Mcells Mstack) → va_S A s.heap H locs → lv_has ls 8 [(0, .ref h), (1, .int (xf)), (2, .int (xt))] → W p l e R s m args below meth c H locs cells slots Q (F0 m 0 ls ([])) := by
  have hCW : ∀ {H : Heap} {locs : List Loc}, va_S A s.heap H locs → va_P D vwCl (wK_X1_reckon ak ad pg pa cl Pst Pce Pgi Pln Pcode) H := fun hS => (hKT.kept hS.2.1).1
  intro Mstack H locs ls hw hP hD hS hl
  delta wp_X1_reckon at hw
  refine lv_iconst (v := 0) hx hb dX1_reckon_0 (by decide) ?_
  refine lv_istore_n (lv' := [(3, .int (0)), (0, .ref h), (1, .int (xf)), (2, .int (xt))]) hx hb dX1_reckon_1 rfl hl (by decide) rfl (fun ls hl => ?_)
  refine lv_iload_n hx hb dX1_reckon_2 rfl (lv_at hl 3 rfl) ?_
  refine lv_aload_n hx hb dX1_reckon_3 rfl (lv_at hl 1 rfl) ?_
  refine vt_get (D := D) (ci := 1) (v := .ref pg) (C := RX1) (T := TX1) (N := 12) hx hb hts (fun w h => wm_c (wc_X1 w h)) hown hE.1 hP 0 rfl rfl 0 (by decide) tX1_0 (hts (.fieldLink RX1 34 "WornLines$Machine" "programme" "LWornLines$Programme;") (wm_c hw_301)) (fun _ h9 => h9) rfl dX1_reckon_4 ?_
  refine va_get (D := D) (ci := 2) (v := .ref (pa 12)) (C := RX2) (T := TX2) (N := 17) hx hb hts (fun w h => wm_c (wc_X2 w h)) hown hE.1 (hCW hS) 0 rfl rfl 16 (by decide) (hts (.fieldLink RX1 138 "WornLines$Programme" "code" "[I") (wm_c hw_335)) (fun _ h9 => h9) rfl dX1_reckon_7 ?_
  refine va_alen hx hb hE.1 (hCW hS) 1 0 rfl rfl (v := nI cl) rfl dX1_reckon_10 ?_
  refine va_mmin hx hb (by rw [hml]; exact hl.1.symm) hown (hts (.methodLink RX1 71 Lib.Math.min.name) (wm_c hw_336)) (hts (.static Lib.Math.min.name) (wm_c hw_217)) (hts (.initialized "java/lang/Math") (wm_c hw_184)) (hts (.code Lib.Math.min.name Lib.Math.min.code 2 (some .int)) (wm_c hw_218)) (Nat.le_trans (Nat.le_of_ble_eq_true rfl) hRf) (Nat.le_trans (Nat.le_of_ble_eq_true rfl) hRl) hRc.1 hRc.2 dX1_reckon_11 ?_
  refine lv_istore (lv' := [(4, .int (if (nI cl) < xt then (nI cl) else xt)), (3, .int (0)), (0, .ref h), (1, .int (xf)), (2, .int (xt))]) hx hb dX1_reckon_14 hl (by decide) rfl (fun ls hl => ?_)
  refine lv_iconst (v := 0) hx hb dX1_reckon_16 (by decide) ?_
  refine lv_iload_n hx hb dX1_reckon_17 rfl (lv_at hl 3 rfl) ?_
  refine va_mmax hx hb (by rw [hml]; exact hl.1.symm) hown (hts (.methodLink RX1 135 Lib.Math.max.name) (wm_c hw_321)) (hts (.static Lib.Math.max.name) (wm_c hw_183)) (hts (.initialized "java/lang/Math") (wm_c hw_184)) (hts (.code Lib.Math.max.name Lib.Math.max.code 2 (some .int)) (wm_c hw_185)) (Nat.le_trans (Nat.le_of_ble_eq_true rfl) hRf) (Nat.le_trans (Nat.le_of_ble_eq_true rfl) hRl) hRc.1 hRc.2 dX1_reckon_18 ?_
  refine lv_istore (lv' := [(5, .int (if (0 : Int32) < xf then xf else (0 : Int32))), (4, .int (if (nI cl) < xt then (nI cl) else xt)), (3, .int (0)), (0, .ref h), (1, .int (xf)), (2, .int (xt))]) hx hb dX1_reckon_21 hl (by decide) rfl (fun ls hl => ?_)
  obtain ⟨n1_, hw⟩ := hw
  exact lp_X1_reckon_23 hx hb hown hts hml hE hT hA hRf hRl hRc h mm pg pa cl Mway Mstate Mnext Msteps Mwritten Mworn Mcells Pst Pce Pgi Pln Pcode xf xt hKT  Φ  kR230 n1_ Mstack 0 (if (nI cl) < xt then (nI cl) else xt) (if (0 : Int32) < xf then xf else (0 : Int32)) _ _ _ hw hP hD hS (lv_sub hl [3, 2, 1, 0] rfl)
set_option maxHeartbeats 4000000 in
set_option maxRecDepth 100000 in
theorem c_X1_reckon (l : Launch) (D : va_G) (ak : Nat → ClassId) (ad : Nat → Nat) (sz : Nat) (h : Nat) (mm : Nat → Nat) (pg : Nat) (pa : Nat → Nat) (cl : Nat) (Mway : Int32) (Mstate : Int32) (Mnext : Int32) (Msteps : Int32) (Mwritten : Int32) (Mworn : Nat → Int32) (Mcells : Nat → Int32) (Mstack : Nat → Int32) (Pst : Int32) (Pce : Int32) (Pgi : Int32) (Pln : Int32) (Pcode : Nat → Int32) (xf : Int32) (xt : Int32) (Φ : Int32 → (Nat → Int32) → Prop) (hf : wp_X1_reckon Mworn Mcells Pln Pcode cl xf xt Mstack Φ) : Met l yX1_reckon wsX1_reckon ({ frames := 1, cells := 0, slots := 0, locals := 22 }) (cPreK D ak ad [.ref h, .int (xf), .int (xt)] ((wW_X1_reckon ak ad h mm pg Mway Mstate Mnext Msteps Mwritten Mworn Mcells Mstack)) sz ((wK_X1_reckon ak ad pg pa cl Pst Pce Pgi Pln Pcode))) (cI D (S := (Nat → Int32)) (fun (r : Int32) (u : (Nat → Int32)) => Φ r u) (fun u => (wW_X1_reckon ak ad h mm pg Mway Mstate Mnext Msteps Mwritten Mworn Mcells u)) ((wW_X1_reckon ak ad h mm pg Mway Mstate Mnext Msteps Mwritten Mworn Mcells Mstack)) sz) 0 0 (va_A ((wW_X1_reckon ak ad h mm pg Mway Mstate Mnext Msteps Mwritten Mworn Mcells Mstack)) sz) := by
  refine Met.ofW (cc := cX1_reckon) (maxL := 8) (ret := (some .int)) (by decide) rfl ?_
  intro p e s m args below meth c s₁ B hml hv
  obtain ⟨⟨rfl, hsz, hP, hE, hD0, hT⟩, hKT⟩ := hv
  have hx := B.exec
  have hb := B.bytes
  have hr := B.returns
  have hts := atoms_spec (ws := wsX1_reckon) B.pre
  have hown : s.vm.findClass RX1 = some m.cls := findClass_of_methodNamed B.named
  have hlocks := B.notSynchronized
  subst hsz
  have hD := hD0.self (sz := s.heap.size)
  generalize hAe : va_A ((wW_X1_reckon ak ad h mm pg Mway Mstate Mnext Msteps Mwritten Mworn Mcells Mstack)) s.heap.size = A at hD hT hKT ⊢
  have hA : ∀ q : Nat, s.heap.size ≤ q → A q := fun q h => by rw [← hAe]; exact Or.inr h
  have hS : va_S A s.heap s.heap [] := va_S.rf
  have hl := lv_entry ([.ref h, .int (xf), .int (xt)]) (n := 8) (Nat.le_of_ble_eq_true rfl)
  rw [lg_entry_eq]
  generalize (lg_sl ([.ref h, .int (xf), .int (xt)]) ++ List.replicate (8 - (lg_sl ([.ref h, .int (xf), .int (xt)])).length) Slot.unset).toArray = ls at hl ⊢
  have hl : lv_has ls 8 [(0, .ref h), (1, .int (xf)), (2, .int (xt))] := hl
  exact kj_X1_reckon_e hx hb hown hts hml hE hT hA (Nat.le_of_ble_eq_true rfl) (Nat.le_of_ble_eq_true rfl) ⟨Nat.le_of_ble_eq_true rfl, Nat.le_of_ble_eq_true rfl⟩ h mm pg pa cl Mway Mstate Mnext Msteps Mwritten Mworn Mcells Pst Pce Pgi Pln Pcode xf xt hKT Φ (fun r Mstack H locs ls hw hP hD hS => W.iret (v := r) hx hb hr (fun t ht hW => ⟨⟨r, Mstack, rfl, hw, by rw [ht]; exact hP, by rw [hAe]; exact hD⟩, by rw [hAe]; exact hS.F ht⟩) hS.2.2 dX1_reckon_230) Mstack _ _ _ hf hP hD hS hl
