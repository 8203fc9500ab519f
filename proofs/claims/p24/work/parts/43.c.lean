theorem dX1_work_0 : decode cX1_work 0 = .ok (.aload_n 0, 1) := by decide +kernel
theorem dX1_work_1 : decode cX1_work 1 = .ok (.aload_n 0, 1) := by decide +kernel
theorem dX1_work_2 : decode cX1_work 2 = .ok (.getfield 34, 3) := by decide +kernel
theorem dX1_work_5 : decode cX1_work 5 = .ok (.getfield 106, 3) := by decide +kernel
theorem dX1_work_8 : decode cX1_work 8 = .ok (.iload_n 1, 1) := by decide +kernel
theorem dX1_work_9 : decode cX1_work 9 = .ok (.iaload, 1) := by decide +kernel
theorem dX1_work_10 : decode cX1_work 10 = .ok (.aload_n 0, 1) := by decide +kernel
theorem dX1_work_11 : decode cX1_work 11 = .ok (.getfield 34, 3) := by decide +kernel
theorem dX1_work_14 : decode cX1_work 14 = .ok (.getfield 109, 3) := by decide +kernel
theorem dX1_work_17 : decode cX1_work 17 = .ok (.iload_n 1, 1) := by decide +kernel
theorem dX1_work_18 : decode cX1_work 18 = .ok (.iaload, 1) := by decide +kernel
set_option maxRecDepth 20000 in
theorem ggX1_work_X1_reckon : GoodIn wsX1_work wsX1_reckon := gup gc_X1_reckon
set_option maxRecDepth 20000 in
theorem gX1_work_X1_reckon : GoodIn wsX1_work (wsV RX1 112 RX1 yX1_reckon wsX1_reckon) := gup (glV hw_347 hw_348 hw_349 hw_331 gc_X1_reckon)
theorem dX1_work_19 : decode cX1_work 19 = .ok (.invokevirtual 112, 3) := by decide +kernel
theorem dX1_work_22 : decode cX1_work 22 = .ok (.istore_n 2, 1) := by decide +kernel
theorem dX1_work_23 : decode cX1_work 23 = .ok (.aload_n 0, 1) := by decide +kernel
theorem dX1_work_24 : decode cX1_work 24 = .ok (.aload_n 0, 1) := by decide +kernel
theorem dX1_work_25 : decode cX1_work 25 = .ok (.getfield 34, 3) := by decide +kernel
theorem dX1_work_28 : decode cX1_work 28 = .ok (.getfield 109, 3) := by decide +kernel
theorem dX1_work_31 : decode cX1_work 31 = .ok (.iload_n 1, 1) := by decide +kernel
theorem dX1_work_32 : decode cX1_work 32 = .ok (.iaload, 1) := by decide +kernel
theorem dX1_work_33 : decode cX1_work 33 = .ok (.aload_n 0, 1) := by decide +kernel
theorem dX1_work_34 : decode cX1_work 34 = .ok (.getfield 34, 3) := by decide +kernel
theorem dX1_work_37 : decode cX1_work 37 = .ok (.getfield 115, 3) := by decide +kernel
theorem dX1_work_40 : decode cX1_work 40 = .ok (.iload_n 1, 1) := by decide +kernel
theorem dX1_work_41 : decode cX1_work 41 = .ok (.iaload, 1) := by decide +kernel
theorem dX1_work_42 : decode cX1_work 42 = .ok (.invokevirtual 112, 3) := by decide +kernel
theorem dX1_work_45 : decode cX1_work 45 = .ok (.istore_n 3, 1) := by decide +kernel
theorem dX1_work_46 : decode cX1_work 46 = .ok (.aload_n 0, 1) := by decide +kernel
theorem dX1_work_47 : decode cX1_work 47 = .ok (.getfield 34, 3) := by decide +kernel
theorem dX1_work_50 : decode cX1_work 50 = .ok (.getfield 118, 3) := by decide +kernel
theorem dX1_work_53 : decode cX1_work 53 = .ok (.iload_n 1, 1) := by decide +kernel
theorem dX1_work_54 : decode cX1_work 54 = .ok (.iaload, 1) := by decide +kernel
theorem dX1_work_55 : decode cX1_work 55 = .ok (.tableswitch 124 0 5 #[37, 56, 65, 71, 87, 110], 37) := by decide +kernel
theorem dX1_work_92 : decode cX1_work 92 = .ok (.aload_n 0, 1) := by decide +kernel
theorem dX1_work_93 : decode cX1_work 93 = .ok (.getfield 21, 3) := by decide +kernel
theorem dX1_work_96 : decode cX1_work 96 = .ok (.aload_n 0, 1) := by decide +kernel
theorem dX1_work_97 : decode cX1_work 97 = .ok (.getfield 34, 3) := by decide +kernel
theorem dX1_work_100 : decode cX1_work 100 = .ok (.getfield 121, 3) := by decide +kernel
theorem dX1_work_103 : decode cX1_work 103 = .ok (.iload_n 1, 1) := by decide +kernel
theorem dX1_work_104 : decode cX1_work 104 = .ok (.iaload, 1) := by decide +kernel
theorem dX1_work_105 : decode cX1_work 105 = .ok (.iload_n 2, 1) := by decide +kernel
theorem dX1_work_106 : decode cX1_work 106 = .ok (.iastore, 1) := by decide +kernel
theorem dX1_work_107 : decode cX1_work 107 = .ok (.iload_n 1, 1) := by decide +kernel
theorem dX1_work_108 : decode cX1_work 108 = .ok (.iconst 1, 1) := by decide +kernel
theorem dX1_work_109 : decode cX1_work 109 = .ok (.iadd, 1) := by decide +kernel
theorem dX1_work_111 : decode cX1_work 111 = .ok (.aload_n 0, 1) := by decide +kernel
theorem dX1_work_112 : decode cX1_work 112 = .ok (.iload_n 2, 1) := by decide +kernel
set_option maxRecDepth 20000 in
theorem ggX1_work_X1_write : GoodIn wsX1_work wsX1_write := gup gc_X1_write
set_option maxRecDepth 20000 in
theorem gX1_work_X1_write : GoodIn wsX1_work (wsV RX1 124 RX1 yX1_write wsX1_write) := gup (glV hw_350 hw_351 hw_352 hw_331 gc_X1_write)
theorem dX1_work_113 : decode cX1_work 113 = .ok (.invokevirtual 124, 3) := by decide +kernel
theorem dX1_work_116 : decode cX1_work 116 = .ok (.iload_n 1, 1) := by decide +kernel
theorem dX1_work_117 : decode cX1_work 117 = .ok (.iconst 1, 1) := by decide +kernel
theorem dX1_work_118 : decode cX1_work 118 = .ok (.iadd, 1) := by decide +kernel
theorem dX1_work_120 : decode cX1_work 120 = .ok (.aload_n 0, 1) := by decide +kernel
theorem dX1_work_121 : decode cX1_work 121 = .ok (.iload_n 2, 1) := by decide +kernel
set_option maxRecDepth 20000 in
theorem ggX1_work_X1_lineOf : GoodIn wsX1_work wsX1_lineOf := gup gc_X1_lineOf
set_option maxRecDepth 20000 in
theorem gX1_work_X1_lineOf : GoodIn wsX1_work (wsV RX1 128 RX1 yX1_lineOf wsX1_lineOf) := gup (glV hw_339 hw_340 hw_341 hw_331 gc_X1_lineOf)
theorem dX1_work_122 : decode cX1_work 122 = .ok (.invokevirtual 128, 3) := by decide +kernel
theorem dX1_work_126 : decode cX1_work 126 = .ok (.iload_n 2, 1) := by decide +kernel
theorem dX1_work_127 : decode cX1_work 127 = .ok (.ifCond .eq 11, 3) := by decide +kernel
theorem dX1_work_138 : decode cX1_work 138 = .ok (.iload_n 1, 1) := by decide +kernel
theorem dX1_work_139 : decode cX1_work 139 = .ok (.iconst 1, 1) := by decide +kernel
theorem dX1_work_140 : decode cX1_work 140 = .ok (.iadd, 1) := by decide +kernel
theorem dX1_work_130 : decode cX1_work 130 = .ok (.aload_n 0, 1) := by decide +kernel
theorem dX1_work_131 : decode cX1_work 131 = .ok (.iload_n 3, 1) := by decide +kernel
theorem dX1_work_132 : decode cX1_work 132 = .ok (.invokevirtual 128, 3) := by decide +kernel
theorem dX1_work_135 : decode cX1_work 135 = .ok (.goto 6, 3) := by decide +kernel
theorem dX1_work_142 : decode cX1_work 142 = .ok (.aload_n 0, 1) := by decide +kernel
theorem dX1_work_143 : decode cX1_work 143 = .ok (.getfield 21, 3) := by decide +kernel
theorem dX1_work_146 : decode cX1_work 146 = .ok (.aload_n 0, 1) := by decide +kernel
theorem dX1_work_147 : decode cX1_work 147 = .ok (.getfield 34, 3) := by decide +kernel
theorem dX1_work_150 : decode cX1_work 150 = .ok (.getfield 121, 3) := by decide +kernel
theorem dX1_work_153 : decode cX1_work 153 = .ok (.iload_n 1, 1) := by decide +kernel
theorem dX1_work_154 : decode cX1_work 154 = .ok (.iaload, 1) := by decide +kernel
theorem dX1_work_155 : decode cX1_work 155 = .ok (.iload_n 1, 1) := by decide +kernel
theorem dX1_work_156 : decode cX1_work 156 = .ok (.iconst 1, 1) := by decide +kernel
theorem dX1_work_157 : decode cX1_work 157 = .ok (.iadd, 1) := by decide +kernel
theorem dX1_work_158 : decode cX1_work 158 = .ok (.iastore, 1) := by decide +kernel
theorem dX1_work_159 : decode cX1_work 159 = .ok (.aload_n 0, 1) := by decide +kernel
theorem dX1_work_160 : decode cX1_work 160 = .ok (.iload_n 2, 1) := by decide +kernel
theorem dX1_work_161 : decode cX1_work 161 = .ok (.invokevirtual 128, 3) := by decide +kernel
theorem dX1_work_165 : decode cX1_work 165 = .ok (.aload_n 0, 1) := by decide +kernel
theorem dX1_work_166 : decode cX1_work 166 = .ok (.aload_n 0, 1) := by decide +kernel
theorem dX1_work_167 : decode cX1_work 167 = .ok (.iload_n 2, 1) := by decide +kernel
theorem dX1_work_168 : decode cX1_work 168 = .ok (.invokevirtual 128, 3) := by decide +kernel
theorem dX1_work_171 : decode cX1_work 171 = .ok (.iload_n 3, 1) := by decide +kernel
set_option maxRecDepth 20000 in
theorem ggX1_work_X1_mend : GoodIn wsX1_work wsX1_mend := gup gc_X1_mend
set_option maxRecDepth 20000 in
theorem gX1_work_X1_mend : GoodIn wsX1_work (wsV RX1 131 RX1 yX1_mend wsX1_mend) := gup (glV hw_353 hw_354 hw_355 hw_331 gc_X1_mend)
theorem dX1_work_172 : decode cX1_work 172 = .ok (.invokevirtual 131, 3) := by decide +kernel
theorem dX1_work_175 : decode cX1_work 175 = .ok (.iload_n 1, 1) := by decide +kernel
theorem dX1_work_176 : decode cX1_work 176 = .ok (.iconst 1, 1) := by decide +kernel
theorem dX1_work_177 : decode cX1_work 177 = .ok (.iadd, 1) := by decide +kernel
theorem dX1_work_179 : decode cX1_work 179 = .ok (.aload_n 0, 1) := by decide +kernel
theorem dX1_work_180 : decode cX1_work 180 = .ok (.getfield 34, 3) := by decide +kernel
theorem dX1_work_183 : decode cX1_work 183 = .ok (.getfield 92, 3) := by decide +kernel
theorem dX1_work_110 : decode cX1_work 110 = .ok (.ireturn, 1) := by decide +kernel
theorem dX1_work_119 : decode cX1_work 119 = .ok (.ireturn, 1) := by decide +kernel
theorem dX1_work_125 : decode cX1_work 125 = .ok (.ireturn, 1) := by decide +kernel
theorem dX1_work_141 : decode cX1_work 141 = .ok (.ireturn, 1) := by decide +kernel
theorem dX1_work_164 : decode cX1_work 164 = .ok (.ireturn, 1) := by decide +kernel
theorem dX1_work_178 : decode cX1_work 178 = .ok (.ireturn, 1) := by decide +kernel
theorem dX1_work_186 : decode cX1_work 186 = .ok (.ireturn, 1) := by decide +kernel
theorem dX1_step_52 : decode cX1_step 52 = .ok (.aload_n 0, 1) := by decide +kernel
theorem dX1_step_53 : decode cX1_step 53 = .ok (.dup, 1) := by decide +kernel
theorem dX1_step_54 : decode cX1_step 54 = .ok (.getfield 61, 3) := by decide +kernel
theorem dX1_step_57 : decode cX1_step 57 = .ok (.iconst 1, 1) := by decide +kernel
theorem dX1_step_58 : decode cX1_step 58 = .ok (.iadd, 1) := by decide +kernel
theorem dX1_step_59 : decode cX1_step 59 = .ok (.putfield 61, 3) := by decide +kernel
theorem dX1_step_62 : decode cX1_step 62 = .ok (.aload_n 0, 1) := by decide +kernel
theorem dX1_step_63 : decode cX1_step 63 = .ok (.aload_n 0, 1) := by decide +kernel
theorem dX1_step_64 : decode cX1_step 64 = .ok (.aload_n 0, 1) := by decide +kernel
theorem dX1_step_65 : decode cX1_step 65 = .ok (.getfield 58, 3) := by decide +kernel
set_option maxRecDepth 20000 in
theorem ggX1_step_X1_work : GoodIn wsX1_step wsX1_work := gup gc_X1_work
set_option maxRecDepth 20000 in
theorem gX1_step_X1_work : GoodIn wsX1_step (wsV RX1 99 RX1 yX1_work wsX1_work) := gup (glV hw_356 hw_357 hw_358 hw_331 gc_X1_work)
theorem dX1_step_68 : decode cX1_step 68 = .ok (.invokevirtual 99, 3) := by decide +kernel
theorem dX1_step_71 : decode cX1_step 71 = .ok (.putfield 58, 3) := by decide +kernel
theorem dX1_step_74 : decode cX1_step 74 = .ok (.aload_n 0, 1) := by decide +kernel
theorem dX1_step_75 : decode cX1_step 75 = .ok (.getfield 58, 3) := by decide +kernel
theorem dX1_step_78 : decode cX1_step 78 = .ok (.aload_n 0, 1) := by decide +kernel
theorem dX1_step_79 : decode cX1_step 79 = .ok (.getfield 34, 3) := by decide +kernel
theorem dX1_step_82 : decode cX1_step 82 = .ok (.getfield 92, 3) := by decide +kernel
theorem dX1_step_85 : decode cX1_step 85 = .ok (.if_icmp .lt 8, 3) := by decide +kernel
theorem dX1_step_93 : decode cX1_step 93 = .ok (.iconst 1, 1) := by decide +kernel
theorem dX1_step_88 : decode cX1_step 88 = .ok (.aload_n 0, 1) := by decide +kernel
theorem dX1_step_89 : decode cX1_step 89 = .ok (.iconst 2, 1) := by decide +kernel
theorem dX1_step_90 : decode cX1_step 90 = .ok (.putfield 31, 3) := by decide +kernel
theorem dX1_step_0 : decode cX1_step 0 = .ok (.aload_n 0, 1) := by decide +kernel
set_option maxRecDepth 20000 in
theorem ggX1_step_X1_fallIfHole : GoodIn wsX1_step wsX1_fallIfHole := gup gc_X1_fallIfHole
set_option maxRecDepth 20000 in
theorem gX1_step_X1_fallIfHole : GoodIn wsX1_step (wsV RX1 89 RX1 yX1_fallIfHole wsX1_fallIfHole) := gup (glV hw_359 hw_360 hw_361 hw_331 gc_X1_fallIfHole)
theorem dX1_step_1 : decode cX1_step 1 = .ok (.invokevirtual 89, 3) := by decide +kernel
theorem dX1_step_4 : decode cX1_step 4 = .ok (.aload_n 0, 1) := by decide +kernel
theorem dX1_step_5 : decode cX1_step 5 = .ok (.getfield 31, 3) := by decide +kernel
theorem dX1_step_8 : decode cX1_step 8 = .ok (.iconst 1, 1) := by decide +kernel
theorem dX1_step_9 : decode cX1_step 9 = .ok (.if_icmp .ne 20, 3) := by decide +kernel
theorem dX1_step_29 : decode cX1_step 29 = .ok (.iconst 0, 1) := by decide +kernel
theorem dX1_step_12 : decode cX1_step 12 = .ok (.aload_n 0, 1) := by decide +kernel
theorem dX1_step_13 : decode cX1_step 13 = .ok (.getfield 58, 3) := by decide +kernel
theorem dX1_step_16 : decode cX1_step 16 = .ok (.aload_n 0, 1) := by decide +kernel
theorem dX1_step_17 : decode cX1_step 17 = .ok (.getfield 34, 3) := by decide +kernel
theorem dX1_step_20 : decode cX1_step 20 = .ok (.getfield 92, 3) := by decide +kernel
set_option maxRecDepth 20000 in
theorem ggX1_step_X7_within : GoodIn wsX1_step wsX7_within := gup gc_X7_within
set_option maxRecDepth 20000 in
theorem gX1_step_X7_within_n95 : GoodIn wsX1_step (wsX7_within) := ggX1_step_X7_within
theorem dX1_step_23 : decode cX1_step 23 = .ok (.invokestatic 95, 3) := by decide +kernel
theorem dX1_step_26 : decode cX1_step 26 = .ok (.ifCond .ne 5, 3) := by decide +kernel
theorem dX1_step_31 : decode cX1_step 31 = .ok (.aload_n 0, 1) := by decide +kernel
theorem dX1_step_32 : decode cX1_step 32 = .ok (.getfield 27, 3) := by decide +kernel
theorem dX1_step_35 : decode cX1_step 35 = .ok (.iconst 2, 1) := by decide +kernel
theorem dX1_step_36 : decode cX1_step 36 = .ok (.if_icmp .eq 16, 3) := by decide +kernel
theorem dX1_step_39 : decode cX1_step 39 = .ok (.aload_n 0, 1) := by decide +kernel
theorem dX1_step_40 : decode cX1_step 40 = .ok (.getfield 18, 3) := by decide +kernel
theorem dX1_step_43 : decode cX1_step 43 = .ok (.aload_n 0, 1) := by decide +kernel
theorem dX1_step_44 : decode cX1_step 44 = .ok (.getfield 58, 3) := by decide +kernel
theorem dX1_step_47 : decode cX1_step 47 = .ok (.dup2, 1) := by decide +kernel
theorem dX1_step_48 : decode cX1_step 48 = .ok (.iaload, 1) := by decide +kernel
theorem dX1_step_49 : decode cX1_step 49 = .ok (.iconst 1, 1) := by decide +kernel
theorem dX1_step_50 : decode cX1_step 50 = .ok (.iadd, 1) := by decide +kernel
theorem dX1_step_51 : decode cX1_step 51 = .ok (.iastore, 1) := by decide +kernel
theorem dX1_step_30 : decode cX1_step 30 = .ok (.ireturn, 1) := by decide +kernel
theorem dX1_step_94 : decode cX1_step 94 = .ok (.ireturn, 1) := by decide +kernel
theorem dX1_go_4 : decode cX1_go 4 = .ok (.iload_n 3, 1) := by decide +kernel
theorem dX1_go_5 : decode cX1_go 5 = .ok (.iload_n 1, 1) := by decide +kernel
theorem dX1_go_6 : decode cX1_go 6 = .ok (.if_icmp .ge 19, 3) := by decide +kernel
theorem dX1_go_25 : decode cX1_go 25 = .ok (.iload_n 2, 1) := by decide +kernel
theorem dX1_go_9 : decode cX1_go 9 = .ok (.aload_n 0, 1) := by decide +kernel
set_option maxRecDepth 20000 in
theorem ggX1_go_X1_step : GoodIn wsX1_go wsX1_step := gup gc_X1_step
set_option maxRecDepth 20000 in
theorem gX1_go_X1_step : GoodIn wsX1_go (wsV RX1 85 RX1 yX1_step wsX1_step) := gup (glV hw_362 hw_363 hw_364 hw_331 gc_X1_step)
theorem dX1_go_10 : decode cX1_go 10 = .ok (.invokevirtual 85, 3) := by decide +kernel
theorem dX1_go_13 : decode cX1_go 13 = .ok (.ifCond .eq 12, 3) := by decide +kernel
theorem dX1_go_16 : decode cX1_go 16 = .ok (.iinc 2 1, 3) := by decide +kernel
theorem dX1_go_19 : decode cX1_go 19 = .ok (.iinc 3 1, 3) := by decide +kernel
theorem dX1_go_22 : decode cX1_go 22 = .ok (.goto (-18), 3) := by decide +kernel
theorem dX1_go_0 : decode cX1_go 0 = .ok (.iconst 0, 1) := by decide +kernel
theorem dX1_go_1 : decode cX1_go 1 = .ok (.istore_n 2, 1) := by decide +kernel
theorem dX1_go_2 : decode cX1_go 2 = .ok (.iconst 0, 1) := by decide +kernel
theorem dX1_go_3 : decode cX1_go 3 = .ok (.istore_n 3, 1) := by decide +kernel
theorem dX1_go_26 : decode cX1_go 26 = .ok (.ireturn, 1) := by decide +kernel
def wW_X1_work (ak : Nat → ClassId) (ad : Nat → Nat) (h : Nat) (mm : Nat → Nat) (pg : Nat) (kn : Nat) (Mway : Int32) (Mstate : Int32) (Mnext : Int32) (Msteps : Int32) (Mwritten : Int32) (Mworn : Nat → Int32) (Mcells : Nat → Int32) (Mkept : Nat → Int32) (Mstack : Nat → Int32) : va_W := [(h, .inr (1, xob mm (pg) (Mway) (Mstate) (Mnext) (Msteps) (Mwritten))), ((mm 2), .inl (ak 0, 16, .inl (Mworn))), ((mm 3), .inl (ak 0, 6, .inl (Mcells))), ((mm 4), .inl (ak 0, kn, .inl (Mkept))), ((mm 5), .inl (ak 0, 32, .inl (Mstack)))]
def wK_X1_work (ak : Nat → ClassId) (ad : Nat → Nat) (pg : Nat) (pa : Nat → Nat) (cl : Nat) (Pst : Int32) (Pce : Int32) (Pgi : Int32) (Pln : Int32) (Pact : Nat → Int32) (Ptarget : Nat → Int32) (Pfrom : Nat → Int32) (Pmiddle : Nat → Int32) (Pend : Nat → Int32) (Pcode : Nat → Int32) : va_W := [(pg, .inr (2, pob pa (Pst) (Pce) (Pgi) (Pln))), ((pa 6), .inl (ak 0, 16, .inl (Pact))), ((pa 8), .inl (ak 0, 16, .inl (Ptarget))), ((pa 9), .inl (ak 0, 16, .inl (Pfrom))), ((pa 10), .inl (ak 0, 16, .inl (Pmiddle))), ((pa 11), .inl (ak 0, 16, .inl (Pend))), ((pa 12), .inl (ak 0, cl, .inl (Pcode)))]
def wp_X1_work (Pln : Int32) (Pact : Nat → Int32) (Ptarget : Nat → Int32) (Pfrom : Nat → Int32) (Pmiddle : Nat → Int32) (Pend : Nat → Int32) (Pcode : Nat → Int32) (kn : Nat) (cl : Nat) (xl : Int32) (Mwritten : Int32) (Mworn : Nat → Int32) (Mcells : Nat → Int32) (Mkept : Nat → Int32) (Mstack : Nat → Int32) (Φ : Int32 → Int32 → (Nat → Int32) → (Nat → Int32) → (Nat → Int32) → (Nat → Int32) → Prop) : Prop := vp_in xl 16 ∧ vp_in xl 16 ∧ wp_X1_reckon Mworn Mcells Pln Pcode cl (Pfrom (xl).toNatClampNeg) (Pmiddle (xl).toNatClampNeg) Mstack (fun r_5 Mstack_4 => vp_in xl 16 ∧ vp_in xl 16 ∧ wp_X1_reckon Mworn Mcells Pln Pcode cl (Pmiddle (xl).toNatClampNeg) (Pend (xl).toNatClampNeg) Mstack_4 (fun r_10 Mstack_9 => vp_in xl 16 ∧ ((Pact (xl).toNatClampNeg) = 0 → vp_in xl 16 ∧ vp_in (Ptarget (xl).toNatClampNeg) 6 ∧ Φ (xl + 1) Mwritten Mworn (upd Mcells (Ptarget (xl).toNatClampNeg).toNatClampNeg r_5) Mkept Mstack_9) ∧ ((Pact (xl).toNatClampNeg) = 1 → wp_X1_write kn r_5 Mwritten Mkept (fun Mwritten_15 Mkept_16 => Φ (xl + 1) Mwritten_15 Mworn Mcells Mkept_16 Mstack_9)) ∧ ((Pact (xl).toNatClampNeg) = 2 → wp_X1_lineOf Pln r_5 (fun r_19 => Φ r_19 Mwritten Mworn Mcells Mkept Mstack_9)) ∧ ((Pact (xl).toNatClampNeg) = 3 → (r_5 = 0 → Φ (xl + 1) Mwritten Mworn Mcells Mkept Mstack_9) ∧ (¬ r_5 = 0 → wp_X1_lineOf Pln r_10 (fun r_22 => Φ r_22 Mwritten Mworn Mcells Mkept Mstack_9))) ∧ ((Pact (xl).toNatClampNeg) = 4 → vp_in xl 16 ∧ vp_in (Ptarget (xl).toNatClampNeg) 6 ∧ wp_X1_lineOf Pln r_5 (fun r_26 => Φ r_26 Mwritten Mworn (upd Mcells (Ptarget (xl).toNatClampNeg).toNatClampNeg ((xl + 1))) Mkept Mstack_9)) ∧ ((Pact (xl).toNatClampNeg) = 5 → wp_X1_lineOf Pln r_5 (fun r_28 => wp_X1_mend r_28 r_10 Mworn (fun Mworn_30 => Φ (xl + 1) Mwritten Mworn_30 Mcells Mkept Mstack_9))) ∧ ((((Pact (xl).toNatClampNeg) : Int32).toInt < 0 ∨ 5 < ((Pact (xl).toNatClampNeg) : Int32).toInt) → Φ Pln Mwritten Mworn Mcells Mkept Mstack_9)))
set_option maxHeartbeats 4000000 in
set_option maxRecDepth 100000 in
theorem kj_X1_work_e {p : Program} {l : Launch} {e : Env} {R : Room} {s : State} {m : MethodId} {args : Array Value} {below : List Frame} {meth : Method} {c : Code} {cells slots : Nat} {Q : State → Prop} {A : Nat → Prop} {D : va_G} {ak : Nat → ClassId} {ad : Nat → Nat} (hx : p.tables.exec = Jvm.exec) (hb : c.code = cX1_work) (hown : s.vm.findClass RX1 = some m.cls) (hts : ∀ w ∈ wsX1_work, w.before args s = true) (hml : c.maxLocals = 4) (hE : EV D ak s) (hT : ST D ak ad A s s.heap) (hA : ∀ q, s.heap.size ≤ q → A q) (hRf : 2 ≤ R.frames) (hRl : 49 ≤ R.locals) (hRc : cells ≤ R.cells ∧ slots ≤ R.slots) (h : Nat) (mm : Nat → Nat) (pg : Nat) (pa : Nat → Nat) (kn : Nat) (cl : Nat) (Mway : Int32) (Mstate : Int32) (Mnext : Int32) (Msteps : Int32) (Pst : Int32) (Pce : Int32) (Pgi : Int32) (Pln : Int32) (Pact : Nat → Int32) (Ptarget : Nat → Int32) (Pfrom : Nat → Int32) (Pmiddle : Nat → Int32) (Pend : Nat → Int32) (Pcode : Nat → Int32) (xl : Int32) (hKT : KT D A (wK_X1_work ak ad pg pa cl Pst Pce Pgi Pln Pact Ptarget Pfrom Pmiddle Pend Pcode) s.heap)  (Φ : Int32 → Int32 → (Nat → Int32) → (Nat → Int32) → (Nat → Int32) → (Nat → Int32) → Prop)
    (kR110 : ∀ (r : Int32) (Mwritten : Int32) (Mworn : Nat → Int32) (Mcells : Nat → Int32) (Mkept : Nat → Int32) (Mstack : Nat → Int32) (H : Heap) (locs : List Loc) (ls : Array Slot), Φ r Mwritten Mworn Mcells Mkept Mstack → va_P D vwCl (wW_X1_work ak ad h mm pg kn Mway Mstate Mnext Msteps Mwritten Mworn Mcells Mkept Mstack) H → va_D A (wW_X1_work ak ad h mm pg kn Mway Mstate Mnext Msteps Mwritten Mworn Mcells Mkept Mstack) → va_S A s.heap H locs → W p l e R s m args below meth c H locs cells slots Q (F0 m 110 ls [.int r]))
    (kR119 : ∀ (r : Int32) (Mwritten : Int32) (Mworn : Nat → Int32) (Mcells : Nat → Int32) (Mkept : Nat → Int32) (Mstack : Nat → Int32) (H : Heap) (locs : List Loc) (ls : Array Slot), Φ r Mwritten Mworn Mcells Mkept Mstack → va_P D vwCl (wW_X1_work ak ad h mm pg kn Mway Mstate Mnext Msteps Mwritten Mworn Mcells Mkept Mstack) H → va_D A (wW_X1_work ak ad h mm pg kn Mway Mstate Mnext Msteps Mwritten Mworn Mcells Mkept Mstack) → va_S A s.heap H locs → W p l e R s m args below meth c H locs cells slots Q (F0 m 119 ls [.int r]))
    (kR125 : ∀ (r : Int32) (Mwritten : Int32) (Mworn : Nat → Int32) (Mcells : Nat → Int32) (Mkept : Nat → Int32) (Mstack : Nat → Int32) (H : Heap) (locs : List Loc) (ls : Array Slot), Φ r Mwritten Mworn Mcells Mkept Mstack → va_P D vwCl (wW_X1_work ak ad h mm pg kn Mway Mstate Mnext Msteps Mwritten Mworn Mcells Mkept Mstack) H → va_D A (wW_X1_work ak ad h mm pg kn Mway Mstate Mnext Msteps Mwritten Mworn Mcells Mkept Mstack) → va_S A s.heap H locs → W p l e R s m args below meth c H locs cells slots Q (F0 m 125 ls [.int r]))
    (kR141 : ∀ (r : Int32) (Mwritten : Int32) (Mworn : Nat → Int32) (Mcells : Nat → Int32) (Mkept : Nat → Int32) (Mstack : Nat → Int32) (H : Heap) (locs : List Loc) (ls : Array Slot), Φ r Mwritten Mworn Mcells Mkept Mstack → va_P D vwCl (wW_X1_work ak ad h mm pg kn Mway Mstate Mnext Msteps Mwritten Mworn Mcells Mkept Mstack) H → va_D A (wW_X1_work ak ad h mm pg kn Mway Mstate Mnext Msteps Mwritten Mworn Mcells Mkept Mstack) → va_S A s.heap H locs → W p l e R s m args below meth c H locs cells slots Q (F0 m 141 ls [.int r]))
    (kR164 : ∀ (r : Int32) (Mwritten : Int32) (Mworn : Nat → Int32) (Mcells : Nat → Int32) (Mkept : Nat → Int32) (Mstack : Nat → Int32) (H : Heap) (locs : List Loc) (ls : Array Slot), Φ r Mwritten Mworn Mcells Mkept Mstack → va_P D vwCl (wW_X1_work ak ad h mm pg kn Mway Mstate Mnext Msteps Mwritten Mworn Mcells Mkept Mstack) H → va_D A (wW_X1_work ak ad h mm pg kn Mway Mstate Mnext Msteps Mwritten Mworn Mcells Mkept Mstack) → va_S A s.heap H locs → W p l e R s m args below meth c H locs cells slots Q (F0 m 164 ls [.int r]))
    (kR178 : ∀ (r : Int32) (Mwritten : Int32) (Mworn : Nat → Int32) (Mcells : Nat → Int32) (Mkept : Nat → Int32) (Mstack : Nat → Int32) (H : Heap) (locs : List Loc) (ls : Array Slot), Φ r Mwritten Mworn Mcells Mkept Mstack → va_P D vwCl (wW_X1_work ak ad h mm pg kn Mway Mstate Mnext Msteps Mwritten Mworn Mcells Mkept Mstack) H → va_D A (wW_X1_work ak ad h mm pg kn Mway Mstate Mnext Msteps Mwritten Mworn Mcells Mkept Mstack) → va_S A s.heap H locs → W p l e R s m args below meth c H locs cells slots Q (F0 m 178 ls [.int r]))
    (kR186 : ∀ (r : Int32) (Mwritten : Int32) (Mworn : Nat → Int32) (Mcells : Nat → Int32) (Mkept : Nat → Int32) (Mstack : Nat → Int32) (H : Heap) (locs : List Loc) (ls : Array Slot), Φ r Mwritten Mworn Mcells Mkept Mstack → va_P D vwCl (wW_X1_work ak ad h mm pg kn Mway Mstate Mnext Msteps Mwritten Mworn Mcells Mkept Mstack) H → va_D A (wW_X1_work ak ad h mm pg kn Mway Mstate Mnext Msteps Mwritten Mworn Mcells Mkept Mstack) → va_S A s.heap H locs → W p l e R s m args below meth c H locs cells slots Q (F0 m 186 ls [.int r]))
    : ∀ (Mwritten : Int32) (Mworn : Nat → Int32) (Mcells : Nat → Int32) (Mkept : Nat → Int32) (Mstack : Nat → Int32) (H : Heap) (locs : List Loc) (ls : Array Slot), wp_X1_work Pln Pact Ptarget Pfrom Pmiddle Pend Pcode kn cl xl Mwritten Mworn Mcells Mkept Mstack Φ → va_P D vwCl (wW_X1_work ak ad h mm pg kn Mway Mstate Mnext Msteps Mwritten Mworn Mcells Mkept Mstack) H → va_D A (wW_X1_work ak ad h mm pg kn Mway Mstate Mnext Msteps Mwritten Mworn Mcells Mkept Mstack) → va_S A s.heap H locs → lv_has ls 4 [(0, .ref h), (1, .int (xl))] → W p l e R s m args below meth c H locs cells slots Q (F0 m 0 ls ([])) := by
  have hCW : ∀ {H : Heap} {locs : List Loc}, va_S A s.heap H locs → va_P D vwCl (wK_X1_work ak ad pg pa cl Pst Pce Pgi Pln Pact Ptarget Pfrom Pmiddle Pend Pcode) H := fun hS => (hKT.kept hS.2.1).1
  intro Mwritten Mworn Mcells Mkept Mstack H locs ls hw hP hD hS hl
  delta wp_X1_work at hw
  refine lv_aload_n hx hb dX1_work_0 rfl (lv_at hl 0 rfl) ?_
  refine lv_aload_n hx hb dX1_work_1 rfl (lv_at hl 0 rfl) ?_
  refine vt_get (D := D) (ci := 1) (v := .ref pg) (C := RX1) (T := TX1) (N := 12) hx hb hts (fun w h => wm_c (wc_X1 w h)) hown hE.1 hP 0 rfl rfl 0 (by decide) tX1_0 (hts (.fieldLink RX1 34 "WornLines$Machine" "programme" "LWornLines$Programme;") (wm_c hw_301)) (fun _ h9 => h9) rfl dX1_work_2 ?_
  refine vt_get (D := D) (ci := 2) (v := .ref (pa 9)) (C := RX2) (T := TX2) (N := 17) hx hb hts (fun w h => wm_c (wc_X2 w h)) hown hE.1 (hCW hS) 0 rfl rfl 13 (by decide) tX2_13 (hts (.fieldLink RX1 106 "WornLines$Programme" "from" "[I") (wm_c hw_342)) (fun _ h9 => h9) rfl dX1_work_5 ?_
  refine lv_iload_n hx hb dX1_work_8 rfl (lv_at hl 1 rfl) ?_
  obtain ⟨h_1, hw⟩ := hw
  refine va_iald hx hb hE.1 (hCW hS) 3 0 rfl rfl (h_1) dX1_work_9 ?_
  refine lv_aload_n hx hb dX1_work_10 rfl (lv_at hl 0 rfl) ?_
  refine vt_get (D := D) (ci := 1) (v := .ref pg) (C := RX1) (T := TX1) (N := 12) hx hb hts (fun w h => wm_c (wc_X1 w h)) hown hE.1 hP 0 rfl rfl 0 (by decide) tX1_0 (hts (.fieldLink RX1 34 "WornLines$Machine" "programme" "LWornLines$Programme;") (wm_c hw_301)) (fun _ h9 => h9) rfl dX1_work_11 ?_
  refine vt_get (D := D) (ci := 2) (v := .ref (pa 10)) (C := RX2) (T := TX2) (N := 17) hx hb hts (fun w h => wm_c (wc_X2 w h)) hown hE.1 (hCW hS) 0 rfl rfl 14 (by decide) tX2_14 (hts (.fieldLink RX1 109 "WornLines$Programme" "middle" "[I") (wm_c hw_343)) (fun _ h9 => h9) rfl dX1_work_14 ?_
  refine lv_iload_n hx hb dX1_work_17 rfl (lv_at hl 1 rfl) ?_
  obtain ⟨h_2, hw⟩ := hw
  refine va_iald hx hb hE.1 (hCW hS) 4 0 rfl rfl (h_2) dX1_work_18 ?_
  refine kc_i (wc := (wW_X1_reckon ak ad h mm pg Mway Mstate Mnext Msteps Mwritten Mworn Mcells Mstack)) (wr := [((mm 4), .inl (ak 0, kn, .inl (Mkept)))]) hP hD hS hA [0, 1, 2, 4] [3] rfl rfl (by decide) (by decide) (va_runV (As := [.int (Pfrom (xl).toNatClampNeg), .int (Pmiddle (xl).toNatClampNeg)]) (rest := []) ⟨hx, hb, hml, hown, hts⟩ (c_X1_reckon l D ak ad _ h mm pg pa cl Mway Mstate Mnext Msteps Mwritten Mworn Mcells Mstack Pst Pce Pgi Pln Pcode (Pfrom (xl).toNatClampNeg) (Pmiddle (xl).toNatClampNeg) _ hw) (cwV 2 hts gX1_work_X1_reckon rfl rfl rfl hv_X1_reckon ⟨(Nat.le_trans (Nat.le_of_ble_eq_true rfl) hRf), (Nat.le_trans (Nat.le_of_ble_eq_true rfl) hRl)⟩) (kc_preVK (As := [.int (Pfrom (xl).toNatClampNeg), .int (Pmiddle (xl).toNatClampNeg)]) (wc := (wW_X1_reckon ak ad h mm pg Mway Mstate Mnext Msteps Mwritten Mworn Mcells Mstack)) (ck := (wK_X1_reckon ak ad pg pa cl Pst Pce Pgi Pln Pcode)) hKT hE hT hP hD hS hA [0, 1, 2, 4] [0, 6] (by decide) rfl rfl rfl hP 0 1 rfl rfl rfl) rfl rfl hl.1 rfl (lv_room (Nat.le_of_ble_eq_true rfl)) dX1_work_19 ⟨hRc.1, hRc.2⟩) (fun r_5 Mstack_4 H locs hw hP hD hS => ?_)
  try dsimp -zeta only at hw
  have hP : va_P D vwCl (wW_X1_work ak ad h mm pg kn Mway Mstate Mnext Msteps Mwritten Mworn Mcells Mkept Mstack_4) H := hP.sub [1, 2, 3, 0, 4] rfl
  have hD : va_D A (wW_X1_work ak ad h mm pg kn Mway Mstate Mnext Msteps Mwritten Mworn Mcells Mkept Mstack_4) := hD.sub [1, 2, 3, 0, 4] (by decide) rfl
  refine lv_istore_n (lv' := [(2, .int (r_5)), (0, .ref h), (1, .int (xl))]) hx hb dX1_work_22 rfl hl (by decide) rfl (fun ls hl => ?_)
  refine lv_aload_n hx hb dX1_work_23 rfl (lv_at hl 1 rfl) ?_
  refine lv_aload_n hx hb dX1_work_24 rfl (lv_at hl 1 rfl) ?_
  refine vt_get (D := D) (ci := 1) (v := .ref pg) (C := RX1) (T := TX1) (N := 12) hx hb hts (fun w h => wm_c (wc_X1 w h)) hown hE.1 hP 0 rfl rfl 0 (by decide) tX1_0 (hts (.fieldLink RX1 34 "WornLines$Machine" "programme" "LWornLines$Programme;") (wm_c hw_301)) (fun _ h9 => h9) rfl dX1_work_25 ?_
  refine vt_get (D := D) (ci := 2) (v := .ref (pa 10)) (C := RX2) (T := TX2) (N := 17) hx hb hts (fun w h => wm_c (wc_X2 w h)) hown hE.1 (hCW hS) 0 rfl rfl 14 (by decide) tX2_14 (hts (.fieldLink RX1 109 "WornLines$Programme" "middle" "[I") (wm_c hw_343)) (fun _ h9 => h9) rfl dX1_work_28 ?_
  refine lv_iload_n hx hb dX1_work_31 rfl (lv_at hl 2 rfl) ?_
  obtain ⟨h_6, hw⟩ := hw
  refine va_iald hx hb hE.1 (hCW hS) 4 0 rfl rfl (h_6) dX1_work_32 ?_
  refine lv_aload_n hx hb dX1_work_33 rfl (lv_at hl 1 rfl) ?_
  refine vt_get (D := D) (ci := 1) (v := .ref pg) (C := RX1) (T := TX1) (N := 12) hx hb hts (fun w h => wm_c (wc_X1 w h)) hown hE.1 hP 0 rfl rfl 0 (by decide) tX1_0 (hts (.fieldLink RX1 34 "WornLines$Machine" "programme" "LWornLines$Programme;") (wm_c hw_301)) (fun _ h9 => h9) rfl dX1_work_34 ?_
  refine vt_get (D := D) (ci := 2) (v := .ref (pa 11)) (C := RX2) (T := TX2) (N := 17) hx hb hts (fun w h => wm_c (wc_X2 w h)) hown hE.1 (hCW hS) 0 rfl rfl 15 (by decide) tX2_15 (hts (.fieldLink RX1 115 "WornLines$Programme" "end" "[I") (wm_c hw_344)) (fun _ h9 => h9) rfl dX1_work_37 ?_
  refine lv_iload_n hx hb dX1_work_40 rfl (lv_at hl 2 rfl) ?_
  obtain ⟨h_7, hw⟩ := hw
  refine va_iald hx hb hE.1 (hCW hS) 5 0 rfl rfl (h_7) dX1_work_41 ?_
  refine kc_i (wc := (wW_X1_reckon ak ad h mm pg Mway Mstate Mnext Msteps Mwritten Mworn Mcells Mstack_4)) (wr := [((mm 4), .inl (ak 0, kn, .inl (Mkept)))]) hP hD hS hA [0, 1, 2, 4] [3] rfl rfl (by decide) (by decide) (va_runV (As := [.int (Pmiddle (xl).toNatClampNeg), .int (Pend (xl).toNatClampNeg)]) (rest := []) ⟨hx, hb, hml, hown, hts⟩ (c_X1_reckon l D ak ad _ h mm pg pa cl Mway Mstate Mnext Msteps Mwritten Mworn Mcells Mstack_4 Pst Pce Pgi Pln Pcode (Pmiddle (xl).toNatClampNeg) (Pend (xl).toNatClampNeg) _ hw) (cwV 2 hts gX1_work_X1_reckon rfl rfl rfl hv_X1_reckon ⟨(Nat.le_trans (Nat.le_of_ble_eq_true rfl) hRf), (Nat.le_trans (Nat.le_of_ble_eq_true rfl) hRl)⟩) (kc_preVK (As := [.int (Pmiddle (xl).toNatClampNeg), .int (Pend (xl).toNatClampNeg)]) (wc := (wW_X1_reckon ak ad h mm pg Mway Mstate Mnext Msteps Mwritten Mworn Mcells Mstack_4)) (ck := (wK_X1_reckon ak ad pg pa cl Pst Pce Pgi Pln Pcode)) hKT hE hT hP hD hS hA [0, 1, 2, 4] [0, 6] (by decide) rfl rfl rfl hP 0 1 rfl rfl rfl) rfl rfl hl.1 rfl (lv_room (Nat.le_of_ble_eq_true rfl)) dX1_work_42 ⟨hRc.1, hRc.2⟩) (fun r_10 Mstack_9 H locs hw hP hD hS => ?_)
  try dsimp -zeta only at hw
  have hP : va_P D vwCl (wW_X1_work ak ad h mm pg kn Mway Mstate Mnext Msteps Mwritten Mworn Mcells Mkept Mstack_9) H := hP.sub [1, 2, 3, 0, 4] rfl
  have hD : va_D A (wW_X1_work ak ad h mm pg kn Mway Mstate Mnext Msteps Mwritten Mworn Mcells Mkept Mstack_9) := hD.sub [1, 2, 3, 0, 4] (by decide) rfl
  refine lv_istore_n (lv' := [(3, .int (r_10)), (2, .int (r_5)), (0, .ref h), (1, .int (xl))]) hx hb dX1_work_45 rfl hl (by decide) rfl (fun ls hl => ?_)
  refine lv_aload_n hx hb dX1_work_46 rfl (lv_at hl 2 rfl) ?_
  refine vt_get (D := D) (ci := 1) (v := .ref pg) (C := RX1) (T := TX1) (N := 12) hx hb hts (fun w h => wm_c (wc_X1 w h)) hown hE.1 hP 0 rfl rfl 0 (by decide) tX1_0 (hts (.fieldLink RX1 34 "WornLines$Machine" "programme" "LWornLines$Programme;") (wm_c hw_301)) (fun _ h9 => h9) rfl dX1_work_47 ?_
  refine vt_get (D := D) (ci := 2) (v := .ref (pa 6)) (C := RX2) (T := TX2) (N := 17) hx hb hts (fun w h => wm_c (wc_X2 w h)) hown hE.1 (hCW hS) 0 rfl rfl 10 (by decide) tX2_10 (hts (.fieldLink RX1 118 "WornLines$Programme" "act" "[I") (wm_c hw_345)) (fun _ h9 => h9) rfl dX1_work_50 ?_
  refine lv_iload_n hx hb dX1_work_53 rfl (lv_at hl 3 rfl) ?_
  obtain ⟨h_11, hw⟩ := hw
  refine va_iald hx hb hE.1 (hCW hS) 1 0 rfl rfl (h_11) dX1_work_54 ?_
  by_cases k_55_0 : (Pact (xl).toNatClampNeg) = (0 : Int32)
  · refine lv_tableIn (tgt := 92) hx hb dX1_work_55 (by rw [k_55_0]; decide) (by rw [k_55_0]; decide) (off := 37) (by rw [k_55_0]; rfl) (by decide) ?_
    replace hw := hw.1 k_55_0
    refine lv_aload_n hx hb dX1_work_92 rfl (lv_at hl 2 rfl) ?_
    refine vt_get (D := D) (ci := 1) (v := .ref (mm 3)) (C := RX1) (T := TX1) (N := 12) hx hb hts (fun w h => wm_c (wc_X1 w h)) hown hE.1 hP 0 rfl rfl 4 (by decide) tX1_4 (hts (.fieldLink RX1 21 "WornLines$Machine" "cells" "[I") (wm_c hw_297)) (fun _ h9 => h9) rfl dX1_work_93 ?_
    refine lv_aload_n hx hb dX1_work_96 rfl (lv_at hl 2 rfl) ?_
    refine vt_get (D := D) (ci := 1) (v := .ref pg) (C := RX1) (T := TX1) (N := 12) hx hb hts (fun w h => wm_c (wc_X1 w h)) hown hE.1 hP 0 rfl rfl 0 (by decide) tX1_0 (hts (.fieldLink RX1 34 "WornLines$Machine" "programme" "LWornLines$Programme;") (wm_c hw_301)) (fun _ h9 => h9) rfl dX1_work_97 ?_
    refine vt_get (D := D) (ci := 2) (v := .ref (pa 8)) (C := RX2) (T := TX2) (N := 17) hx hb hts (fun w h => wm_c (wc_X2 w h)) hown hE.1 (hCW hS) 0 rfl rfl 12 (by decide) tX2_12 (hts (.fieldLink RX1 121 "WornLines$Programme" "target" "[I") (wm_c hw_346)) (fun _ h9 => h9) rfl dX1_work_100 ?_
    refine lv_iload_n hx hb dX1_work_103 rfl (lv_at hl 3 rfl) ?_
    obtain ⟨h_12, hw⟩ := hw
    refine va_iald hx hb hE.1 (hCW hS) 2 0 rfl rfl (h_12) dX1_work_104 ?_
    refine lv_iload_n hx hb dX1_work_105 rfl (lv_at hl 1 rfl) ?_
    obtain ⟨h_13, hw⟩ := hw
    refine va_iast hx hb hE.1 hP hD hS 2 0 rfl rfl (h_13) dX1_work_106 (fun H locs hP hD hS => ?_)
    have hP : va_P D vwCl (wW_X1_work ak ad h mm pg kn Mway Mstate Mnext Msteps Mwritten Mworn (upd Mcells (Ptarget (xl).toNatClampNeg).toNatClampNeg r_5) Mkept Mstack_9) H := hP
    have hD : va_D A (wW_X1_work ak ad h mm pg kn Mway Mstate Mnext Msteps Mwritten Mworn (upd Mcells (Ptarget (xl).toNatClampNeg).toNatClampNeg r_5) Mkept Mstack_9) := hD
    refine lv_iload_n hx hb dX1_work_107 rfl (lv_at hl 3 rfl) ?_
    refine lv_iconst (v := 1) hx hb dX1_work_108 (by decide) ?_
    refine lv_iadd hx hb dX1_work_109 ?_
    exact kR110 (xl + 1) Mwritten Mworn (upd Mcells (Ptarget (xl).toNatClampNeg).toNatClampNeg r_5) Mkept Mstack_9 _ _ _ hw hP hD hS
  replace hw := hw.2
  by_cases k_55_1 : (Pact (xl).toNatClampNeg) = (1 : Int32)
  · refine lv_tableIn (tgt := 111) hx hb dX1_work_55 (by rw [k_55_1]; decide) (by rw [k_55_1]; decide) (off := 56) (by rw [k_55_1]; rfl) (by decide) ?_
    replace hw := hw.1 k_55_1
    refine lv_aload_n hx hb dX1_work_111 rfl (lv_at hl 2 rfl) ?_
    refine lv_iload_n hx hb dX1_work_112 rfl (lv_at hl 1 rfl) ?_
    refine kc_v (wc := (wW_X1_write ak ad h mm pg kn Mway Mstate Mnext Msteps Mwritten Mkept)) (wr := [((mm 2), .inl (ak 0, 16, .inl (Mworn))), ((mm 3), .inl (ak 0, 6, .inl (Mcells))), ((mm 5), .inl (ak 0, 32, .inl (Mstack_9)))]) hP hD hS hA [0, 3] [1, 2, 4] rfl rfl (by decide) (by decide) (va_runV (As := [.int (r_5)]) (rest := []) ⟨hx, hb, hml, hown, hts⟩ (c_X1_write l D ak ad _ h mm pg kn Mway Mstate Mnext Msteps Mwritten Mkept r_5 _ hw) (cwV 1 hts gX1_work_X1_write rfl rfl rfl hv_X1_write ⟨(Nat.le_trans (Nat.le_of_ble_eq_true rfl) hRf), (Nat.le_trans (Nat.le_of_ble_eq_true rfl) hRl)⟩) (kc_preV (As := [.int (r_5)]) (wc := (wW_X1_write ak ad h mm pg kn Mway Mstate Mnext Msteps Mwritten Mkept)) hE hT hP hD hS hA [0, 3] (by decide) rfl rfl 0 1 rfl rfl rfl) rfl rfl hl.1 rfl (lv_room (Nat.le_of_ble_eq_true rfl)) dX1_work_113 ⟨hRc.1, hRc.2⟩) (fun u_14 H locs hw hP hD hS => ?_)
    obtain ⟨Mwritten_15, Mkept_16⟩ := u_14
    try dsimp -zeta only at hw
    have hP : va_P D vwCl (wW_X1_work ak ad h mm pg kn Mway Mstate Mnext Msteps Mwritten_15 Mworn Mcells Mkept_16 Mstack_9) H := hP.sub [3, 0, 1, 4, 2] rfl
    have hD : va_D A (wW_X1_work ak ad h mm pg kn Mway Mstate Mnext Msteps Mwritten_15 Mworn Mcells Mkept_16 Mstack_9) := hD.sub [3, 0, 1, 4, 2] (by decide) rfl
    refine lv_iload_n hx hb dX1_work_116 rfl (lv_at hl 3 rfl) ?_
    refine lv_iconst (v := 1) hx hb dX1_work_117 (by decide) ?_
    refine lv_iadd hx hb dX1_work_118 ?_
    exact kR119 (xl + 1) Mwritten_15 Mworn Mcells Mkept_16 Mstack_9 _ _ _ hw hP hD hS
  replace hw := hw.2
  by_cases k_55_2 : (Pact (xl).toNatClampNeg) = (2 : Int32)
  · refine lv_tableIn (tgt := 120) hx hb dX1_work_55 (by rw [k_55_2]; decide) (by rw [k_55_2]; decide) (off := 65) (by rw [k_55_2]; rfl) (by decide) ?_
    replace hw := hw.1 k_55_2
    refine lv_aload_n hx hb dX1_work_120 rfl (lv_at hl 2 rfl) ?_
    refine lv_iload_n hx hb dX1_work_121 rfl (lv_at hl 1 rfl) ?_
    refine kc_i (wc := (wW_X1_lineOf ak ad h mm pg Mway Mstate Mnext Msteps Mwritten)) (wr := [((mm 2), .inl (ak 0, 16, .inl (Mworn))), ((mm 3), .inl (ak 0, 6, .inl (Mcells))), ((mm 4), .inl (ak 0, kn, .inl (Mkept))), ((mm 5), .inl (ak 0, 32, .inl (Mstack_9)))]) hP hD hS hA [0] [1, 2, 3, 4] rfl rfl (by decide) (by decide) (va_runV (As := [.int (r_5)]) (rest := []) ⟨hx, hb, hml, hown, hts⟩ (c_X1_lineOf l D ak ad _ h mm pg pa Mway Mstate Mnext Msteps Mwritten Pst Pce Pgi Pln r_5 _ hw) (cwV 1 hts gX1_work_X1_lineOf rfl rfl rfl hv_X1_lineOf ⟨(Nat.le_trans (Nat.le_of_ble_eq_true rfl) hRf), (Nat.le_trans (Nat.le_of_ble_eq_true rfl) hRl)⟩) (kc_preVK (As := [.int (r_5)]) (wc := (wW_X1_lineOf ak ad h mm pg Mway Mstate Mnext Msteps Mwritten)) (ck := (wK_X1_lineOf ak ad pg pa Pst Pce Pgi Pln)) hKT hE hT hP hD hS hA [0] [0] (by decide) rfl rfl rfl hP 0 1 rfl rfl rfl) rfl rfl hl.1 rfl (lv_room (Nat.le_of_ble_eq_true rfl)) dX1_work_122 ⟨hRc.1, hRc.2⟩) (fun r_19 u_18 H locs hw hP hD hS => ?_)
    try dsimp -zeta only at hw
    have hP : va_P D vwCl (wW_X1_work ak ad h mm pg kn Mway Mstate Mnext Msteps Mwritten Mworn Mcells Mkept Mstack_9) H := hP.sub [4, 0, 1, 2, 3] rfl
    have hD : va_D A (wW_X1_work ak ad h mm pg kn Mway Mstate Mnext Msteps Mwritten Mworn Mcells Mkept Mstack_9) := hD.sub [4, 0, 1, 2, 3] (by decide) rfl
    exact kR125 r_19 Mwritten Mworn Mcells Mkept Mstack_9 _ _ _ hw hP hD hS
  replace hw := hw.2
  by_cases k_55_3 : (Pact (xl).toNatClampNeg) = (3 : Int32)
  · refine lv_tableIn (tgt := 126) hx hb dX1_work_55 (by rw [k_55_3]; decide) (by rw [k_55_3]; decide) (off := 71) (by rw [k_55_3]; rfl) (by decide) ?_
    replace hw := hw.1 k_55_3
    refine lv_iload_n hx hb dX1_work_126 rfl (lv_at hl 1 rfl) ?_
    refine lv_if_eq (tgt := 138) hx hb dX1_work_127 (by decide) (fun c_20 => ?_) (fun c_20 => ?_)
    · replace hw := hw.1 c_20
      refine lv_iload_n hx hb dX1_work_138 rfl (lv_at hl 3 rfl) ?_
      refine lv_iconst (v := 1) hx hb dX1_work_139 (by decide) ?_
      refine lv_iadd hx hb dX1_work_140 ?_
      exact kR141 (xl + 1) Mwritten Mworn Mcells Mkept Mstack_9 _ _ _ hw hP hD hS
    · replace hw := hw.2 c_20
      refine lv_aload_n hx hb dX1_work_130 rfl (lv_at hl 2 rfl) ?_
      refine lv_iload_n hx hb dX1_work_131 rfl (lv_at hl 0 rfl) ?_
      refine kc_i (wc := (wW_X1_lineOf ak ad h mm pg Mway Mstate Mnext Msteps Mwritten)) (wr := [((mm 2), .inl (ak 0, 16, .inl (Mworn))), ((mm 3), .inl (ak 0, 6, .inl (Mcells))), ((mm 4), .inl (ak 0, kn, .inl (Mkept))), ((mm 5), .inl (ak 0, 32, .inl (Mstack_9)))]) hP hD hS hA [0] [1, 2, 3, 4] rfl rfl (by decide) (by decide) (va_runV (As := [.int (r_10)]) (rest := []) ⟨hx, hb, hml, hown, hts⟩ (c_X1_lineOf l D ak ad _ h mm pg pa Mway Mstate Mnext Msteps Mwritten Pst Pce Pgi Pln r_10 _ hw) (cwV 1 hts gX1_work_X1_lineOf rfl rfl rfl hv_X1_lineOf ⟨(Nat.le_trans (Nat.le_of_ble_eq_true rfl) hRf), (Nat.le_trans (Nat.le_of_ble_eq_true rfl) hRl)⟩) (kc_preVK (As := [.int (r_10)]) (wc := (wW_X1_lineOf ak ad h mm pg Mway Mstate Mnext Msteps Mwritten)) (ck := (wK_X1_lineOf ak ad pg pa Pst Pce Pgi Pln)) hKT hE hT hP hD hS hA [0] [0] (by decide) rfl rfl rfl hP 0 1 rfl rfl rfl) rfl rfl hl.1 rfl (lv_room (Nat.le_of_ble_eq_true rfl)) dX1_work_132 ⟨hRc.1, hRc.2⟩) (fun r_22 u_21 H locs hw hP hD hS => ?_)
      try dsimp -zeta only at hw
      have hP : va_P D vwCl (wW_X1_work ak ad h mm pg kn Mway Mstate Mnext Msteps Mwritten Mworn Mcells Mkept Mstack_9) H := hP.sub [4, 0, 1, 2, 3] rfl
      have hD : va_D A (wW_X1_work ak ad h mm pg kn Mway Mstate Mnext Msteps Mwritten Mworn Mcells Mkept Mstack_9) := hD.sub [4, 0, 1, 2, 3] (by decide) rfl
      refine lv_goto (tgt := 141) hx hb dX1_work_135 (by decide) ?_
      exact kR141 r_22 Mwritten Mworn Mcells Mkept Mstack_9 _ _ _ hw hP hD hS
  replace hw := hw.2
  by_cases k_55_4 : (Pact (xl).toNatClampNeg) = (4 : Int32)
  · refine lv_tableIn (tgt := 142) hx hb dX1_work_55 (by rw [k_55_4]; decide) (by rw [k_55_4]; decide) (off := 87) (by rw [k_55_4]; rfl) (by decide) ?_
    replace hw := hw.1 k_55_4
    refine lv_aload_n hx hb dX1_work_142 rfl (lv_at hl 2 rfl) ?_
    refine vt_get (D := D) (ci := 1) (v := .ref (mm 3)) (C := RX1) (T := TX1) (N := 12) hx hb hts (fun w h => wm_c (wc_X1 w h)) hown hE.1 hP 0 rfl rfl 4 (by decide) tX1_4 (hts (.fieldLink RX1 21 "WornLines$Machine" "cells" "[I") (wm_c hw_297)) (fun _ h9 => h9) rfl dX1_work_143 ?_
    refine lv_aload_n hx hb dX1_work_146 rfl (lv_at hl 2 rfl) ?_
    refine vt_get (D := D) (ci := 1) (v := .ref pg) (C := RX1) (T := TX1) (N := 12) hx hb hts (fun w h => wm_c (wc_X1 w h)) hown hE.1 hP 0 rfl rfl 0 (by decide) tX1_0 (hts (.fieldLink RX1 34 "WornLines$Machine" "programme" "LWornLines$Programme;") (wm_c hw_301)) (fun _ h9 => h9) rfl dX1_work_147 ?_
    refine vt_get (D := D) (ci := 2) (v := .ref (pa 8)) (C := RX2) (T := TX2) (N := 17) hx hb hts (fun w h => wm_c (wc_X2 w h)) hown hE.1 (hCW hS) 0 rfl rfl 12 (by decide) tX2_12 (hts (.fieldLink RX1 121 "WornLines$Programme" "target" "[I") (wm_c hw_346)) (fun _ h9 => h9) rfl dX1_work_150 ?_
    refine lv_iload_n hx hb dX1_work_153 rfl (lv_at hl 3 rfl) ?_
    obtain ⟨h_23, hw⟩ := hw
    refine va_iald hx hb hE.1 (hCW hS) 2 0 rfl rfl (h_23) dX1_work_154 ?_
    refine lv_iload_n hx hb dX1_work_155 rfl (lv_at hl 3 rfl) ?_
    refine lv_iconst (v := 1) hx hb dX1_work_156 (by decide) ?_
    refine lv_iadd hx hb dX1_work_157 ?_
    obtain ⟨h_24, hw⟩ := hw
    refine va_iast hx hb hE.1 hP hD hS 2 0 rfl rfl (h_24) dX1_work_158 (fun H locs hP hD hS => ?_)
    have hP : va_P D vwCl (wW_X1_work ak ad h mm pg kn Mway Mstate Mnext Msteps Mwritten Mworn (upd Mcells (Ptarget (xl).toNatClampNeg).toNatClampNeg ((xl + 1))) Mkept Mstack_9) H := hP
    have hD : va_D A (wW_X1_work ak ad h mm pg kn Mway Mstate Mnext Msteps Mwritten Mworn (upd Mcells (Ptarget (xl).toNatClampNeg).toNatClampNeg ((xl + 1))) Mkept Mstack_9) := hD
    refine lv_aload_n hx hb dX1_work_159 rfl (lv_at hl 2 rfl) ?_
    refine lv_iload_n hx hb dX1_work_160 rfl (lv_at hl 1 rfl) ?_
    refine kc_i (wc := (wW_X1_lineOf ak ad h mm pg Mway Mstate Mnext Msteps Mwritten)) (wr := [((mm 2), .inl (ak 0, 16, .inl (Mworn))), ((mm 3), .inl (ak 0, 6, .inl (upd Mcells (Ptarget (xl).toNatClampNeg).toNatClampNeg ((xl + 1))))), ((mm 4), .inl (ak 0, kn, .inl (Mkept))), ((mm 5), .inl (ak 0, 32, .inl (Mstack_9)))]) hP hD hS hA [0] [1, 2, 3, 4] rfl rfl (by decide) (by decide) (va_runV (As := [.int (r_5)]) (rest := []) ⟨hx, hb, hml, hown, hts⟩ (c_X1_lineOf l D ak ad _ h mm pg pa Mway Mstate Mnext Msteps Mwritten Pst Pce Pgi Pln r_5 _ hw) (cwV 1 hts gX1_work_X1_lineOf rfl rfl rfl hv_X1_lineOf ⟨(Nat.le_trans (Nat.le_of_ble_eq_true rfl) hRf), (Nat.le_trans (Nat.le_of_ble_eq_true rfl) hRl)⟩) (kc_preVK (As := [.int (r_5)]) (wc := (wW_X1_lineOf ak ad h mm pg Mway Mstate Mnext Msteps Mwritten)) (ck := (wK_X1_lineOf ak ad pg pa Pst Pce Pgi Pln)) hKT hE hT hP hD hS hA [0] [0] (by decide) rfl rfl rfl hP 0 1 rfl rfl rfl) rfl rfl hl.1 rfl (lv_room (Nat.le_of_ble_eq_true rfl)) dX1_work_161 ⟨hRc.1, hRc.2⟩) (fun r_26 u_25 H locs hw hP hD hS => ?_)
    try dsimp -zeta only at hw
    have hP : va_P D vwCl (wW_X1_work ak ad h mm pg kn Mway Mstate Mnext Msteps Mwritten Mworn (upd Mcells (Ptarget (xl).toNatClampNeg).toNatClampNeg ((xl + 1))) Mkept Mstack_9) H := hP.sub [4, 0, 1, 2, 3] rfl
    have hD : va_D A (wW_X1_work ak ad h mm pg kn Mway Mstate Mnext Msteps Mwritten Mworn (upd Mcells (Ptarget (xl).toNatClampNeg).toNatClampNeg ((xl + 1))) Mkept Mstack_9) := hD.sub [4, 0, 1, 2, 3] (by decide) rfl
    exact kR164 r_26 Mwritten Mworn (upd Mcells (Ptarget (xl).toNatClampNeg).toNatClampNeg ((xl + 1))) Mkept Mstack_9 _ _ _ hw hP hD hS
  replace hw := hw.2
  by_cases k_55_5 : (Pact (xl).toNatClampNeg) = (5 : Int32)
  · refine lv_tableIn (tgt := 165) hx hb dX1_work_55 (by rw [k_55_5]; decide) (by rw [k_55_5]; decide) (off := 110) (by rw [k_55_5]; rfl) (by decide) ?_
    replace hw := hw.1 k_55_5
    refine lv_aload_n hx hb dX1_work_165 rfl (lv_at hl 2 rfl) ?_
    refine lv_aload_n hx hb dX1_work_166 rfl (lv_at hl 2 rfl) ?_
    refine lv_iload_n hx hb dX1_work_167 rfl (lv_at hl 1 rfl) ?_
    refine kc_i (wc := (wW_X1_lineOf ak ad h mm pg Mway Mstate Mnext Msteps Mwritten)) (wr := [((mm 2), .inl (ak 0, 16, .inl (Mworn))), ((mm 3), .inl (ak 0, 6, .inl (Mcells))), ((mm 4), .inl (ak 0, kn, .inl (Mkept))), ((mm 5), .inl (ak 0, 32, .inl (Mstack_9)))]) hP hD hS hA [0] [1, 2, 3, 4] rfl rfl (by decide) (by decide) (va_runV (As := [.int (r_5)]) (rest := [.ref h]) ⟨hx, hb, hml, hown, hts⟩ (c_X1_lineOf l D ak ad _ h mm pg pa Mway Mstate Mnext Msteps Mwritten Pst Pce Pgi Pln r_5 _ hw) (cwV 1 hts gX1_work_X1_lineOf rfl rfl rfl hv_X1_lineOf ⟨(Nat.le_trans (Nat.le_of_ble_eq_true rfl) hRf), (Nat.le_trans (Nat.le_of_ble_eq_true rfl) hRl)⟩) (kc_preVK (As := [.int (r_5)]) (wc := (wW_X1_lineOf ak ad h mm pg Mway Mstate Mnext Msteps Mwritten)) (ck := (wK_X1_lineOf ak ad pg pa Pst Pce Pgi Pln)) hKT hE hT hP hD hS hA [0] [0] (by decide) rfl rfl rfl hP 0 1 rfl rfl rfl) rfl rfl hl.1 rfl (lv_room (Nat.le_of_ble_eq_true rfl)) dX1_work_168 ⟨hRc.1, hRc.2⟩) (fun r_28 u_27 H locs hw hP hD hS => ?_)
    try dsimp -zeta only at hw
    have hP : va_P D vwCl (wW_X1_work ak ad h mm pg kn Mway Mstate Mnext Msteps Mwritten Mworn Mcells Mkept Mstack_9) H := hP.sub [4, 0, 1, 2, 3] rfl
    have hD : va_D A (wW_X1_work ak ad h mm pg kn Mway Mstate Mnext Msteps Mwritten Mworn Mcells Mkept Mstack_9) := hD.sub [4, 0, 1, 2, 3] (by decide) rfl
    refine lv_iload_n hx hb dX1_work_171 rfl (lv_at hl 0 rfl) ?_
    refine kc_v (wc := (wW_X1_mend ak ad h mm pg Mway Mstate Mnext Msteps Mwritten Mworn)) (wr := [((mm 3), .inl (ak 0, 6, .inl (Mcells))), ((mm 4), .inl (ak 0, kn, .inl (Mkept))), ((mm 5), .inl (ak 0, 32, .inl (Mstack_9)))]) hP hD hS hA [0, 1] [2, 3, 4] rfl rfl (by decide) (by decide) (va_runV (As := [.int (r_28), .int (r_10)]) (rest := []) ⟨hx, hb, hml, hown, hts⟩ (c_X1_mend l D ak ad _ h mm pg Mway Mstate Mnext Msteps Mwritten Mworn r_28 r_10 _ hw) (cwV 2 hts gX1_work_X1_mend rfl rfl rfl hv_X1_mend ⟨(Nat.le_trans (Nat.le_of_ble_eq_true rfl) hRf), (Nat.le_trans (Nat.le_of_ble_eq_true rfl) hRl)⟩) (kc_preV (As := [.int (r_28), .int (r_10)]) (wc := (wW_X1_mend ak ad h mm pg Mway Mstate Mnext Msteps Mwritten Mworn)) hE hT hP hD hS hA [0, 1] (by decide) rfl rfl 0 1 rfl rfl rfl) rfl rfl hl.1 rfl (lv_room (Nat.le_of_ble_eq_true rfl)) dX1_work_172 ⟨hRc.1, hRc.2⟩) (fun Mworn_30 H locs hw hP hD hS => ?_)
    try dsimp -zeta only at hw
    have hP : va_P D vwCl (wW_X1_work ak ad h mm pg kn Mway Mstate Mnext Msteps Mwritten Mworn_30 Mcells Mkept Mstack_9) H := hP.sub [3, 4, 0, 1, 2] rfl
    have hD : va_D A (wW_X1_work ak ad h mm pg kn Mway Mstate Mnext Msteps Mwritten Mworn_30 Mcells Mkept Mstack_9) := hD.sub [3, 4, 0, 1, 2] (by decide) rfl
    refine lv_iload_n hx hb dX1_work_175 rfl (lv_at hl 3 rfl) ?_
    refine lv_iconst (v := 1) hx hb dX1_work_176 (by decide) ?_
    refine lv_iadd hx hb dX1_work_177 ?_
    exact kR178 (xl + 1) Mwritten Mworn_30 Mcells Mkept Mstack_9 _ _ _ hw hP hD hS
  replace hw := hw.2
  have hout : ((Pact (xl).toNatClampNeg) : Int32).toInt < 0 ∨ 5 < ((Pact (xl).toNatClampNeg) : Int32).toInt := tsw_out _ 0 5 (by intro j h1 h2; have hj : j = 0 ∨ j = 1 ∨ j = 2 ∨ j = 3 ∨ j = 4 ∨ j = 5 := (by omega); rcases hj with rfl | rfl | rfl | rfl | rfl | rfl <;> first | exact lv_neT k_55_0 rfl | exact lv_neT k_55_1 rfl | exact lv_neT k_55_2 rfl | exact lv_neT k_55_3 rfl | exact lv_neT k_55_4 rfl | exact lv_neT k_55_5 rfl)
  refine lv_tableOut (tgt := 179) hx hb dX1_work_55 hout (by decide) ?_
  replace hw := hw hout
  refine lv_aload_n hx hb dX1_work_179 rfl (lv_at hl 2 rfl) ?_
  refine vt_get (D := D) (ci := 1) (v := .ref pg) (C := RX1) (T := TX1) (N := 12) hx hb hts (fun w h => wm_c (wc_X1 w h)) hown hE.1 hP 0 rfl rfl 0 (by decide) tX1_0 (hts (.fieldLink RX1 34 "WornLines$Machine" "programme" "LWornLines$Programme;") (wm_c hw_301)) (fun _ h9 => h9) rfl dX1_work_180 ?_
  refine vt_get (D := D) (ci := 2) (v := .int (Pln)) (C := RX2) (T := TX2) (N := 17) hx hb hts (fun w h => wm_c (wc_X2 w h)) hown hE.1 (hCW hS) 0 rfl rfl 9 (by decide) tX2_9 (hts (.fieldLink RX1 92 "WornLines$Programme" "lines" "I") (wm_c hw_319)) (fun _ h9 => h9) rfl dX1_work_183 ?_
  exact kR186 Pln Mwritten Mworn Mcells Mkept Mstack_9 _ _ _ hw hP hD hS
set_option maxHeartbeats 4000000 in
set_option maxRecDepth 100000 in
theorem c_X1_work (l : Launch) (D : va_G) (ak : Nat → ClassId) (ad : Nat → Nat) (sz : Nat) (h : Nat) (mm : Nat → Nat) (pg : Nat) (pa : Nat → Nat) (kn : Nat) (cl : Nat) (Mway : Int32) (Mstate : Int32) (Mnext : Int32) (Msteps : Int32) (Mwritten : Int32) (Mworn : Nat → Int32) (Mcells : Nat → Int32) (Mkept : Nat → Int32) (Mstack : Nat → Int32) (Pst : Int32) (Pce : Int32) (Pgi : Int32) (Pln : Int32) (Pact : Nat → Int32) (Ptarget : Nat → Int32) (Pfrom : Nat → Int32) (Pmiddle : Nat → Int32) (Pend : Nat → Int32) (Pcode : Nat → Int32) (xl : Int32) (Φ : Int32 → Int32 → (Nat → Int32) → (Nat → Int32) → (Nat → Int32) → (Nat → Int32) → Prop) (hf : wp_X1_work Pln Pact Ptarget Pfrom Pmiddle Pend Pcode kn cl xl Mwritten Mworn Mcells Mkept Mstack Φ) : Met l yX1_work wsX1_work ({ frames := 2, cells := 0, slots := 0, locals := 49 }) (cPreK D ak ad [.ref h, .int (xl)] ((wW_X1_work ak ad h mm pg kn Mway Mstate Mnext Msteps Mwritten Mworn Mcells Mkept Mstack)) sz ((wK_X1_work ak ad pg pa cl Pst Pce Pgi Pln Pact Ptarget Pfrom Pmiddle Pend Pcode))) (cI D (S := (Int32) × (Nat → Int32) × (Nat → Int32) × (Nat → Int32) × (Nat → Int32)) (fun (r : Int32) (u : (Int32) × (Nat → Int32) × (Nat → Int32) × (Nat → Int32) × (Nat → Int32)) => Φ r u.1 u.2.1 u.2.2.1 u.2.2.2.1 u.2.2.2.2) (fun u => (wW_X1_work ak ad h mm pg kn Mway Mstate Mnext Msteps u.1 u.2.1 u.2.2.1 u.2.2.2.1 u.2.2.2.2)) ((wW_X1_work ak ad h mm pg kn Mway Mstate Mnext Msteps Mwritten Mworn Mcells Mkept Mstack)) sz) 0 0 (va_A ((wW_X1_work ak ad h mm pg kn Mway Mstate Mnext Msteps Mwritten Mworn Mcells Mkept Mstack)) sz) := by
  refine Met.ofW (cc := cX1_work) (maxL := 4) (ret := (some .int)) (by decide) rfl ?_
  intro p e s m args below meth c s₁ B hml hv
  obtain ⟨⟨rfl, hsz, hP, hE, hD0, hT⟩, hKT⟩ := hv
  have hx := B.exec
  have hb := B.bytes
  have hr := B.returns
  have hts := atoms_spec (ws := wsX1_work) B.pre
  have hown : s.vm.findClass RX1 = some m.cls := findClass_of_methodNamed B.named
  have hlocks := B.notSynchronized
  subst hsz
  have hD := hD0.self (sz := s.heap.size)
  generalize hAe : va_A ((wW_X1_work ak ad h mm pg kn Mway Mstate Mnext Msteps Mwritten Mworn Mcells Mkept Mstack)) s.heap.size = A at hD hT hKT ⊢
  have hA : ∀ q : Nat, s.heap.size ≤ q → A q := fun q h => by rw [← hAe]; exact Or.inr h
  have hS : va_S A s.heap s.heap [] := va_S.rf
  have hl := lv_entry ([.ref h, .int (xl)]) (n := 4) (Nat.le_of_ble_eq_true rfl)
  rw [lg_entry_eq]
  generalize (lg_sl ([.ref h, .int (xl)]) ++ List.replicate (4 - (lg_sl ([.ref h, .int (xl)])).length) Slot.unset).toArray = ls at hl ⊢
  have hl : lv_has ls 4 [(0, .ref h), (1, .int (xl))] := hl
  exact kj_X1_work_e hx hb hown hts hml hE hT hA (Nat.le_of_ble_eq_true rfl) (Nat.le_of_ble_eq_true rfl) ⟨Nat.le_of_ble_eq_true rfl, Nat.le_of_ble_eq_true rfl⟩ h mm pg pa kn cl Mway Mstate Mnext Msteps Pst Pce Pgi Pln Pact Ptarget Pfrom Pmiddle Pend Pcode xl hKT Φ (fun r Mwritten Mworn Mcells Mkept Mstack H locs ls hw hP hD hS => W.iret (v := r) hx hb hr (fun t ht hW => ⟨⟨r, (Mwritten, Mworn, Mcells, Mkept, Mstack), rfl, hw, by rw [ht]; exact hP, by rw [hAe]; exact hD⟩, by rw [hAe]; exact hS.F ht⟩) hS.2.2 dX1_work_110) (fun r Mwritten Mworn Mcells Mkept Mstack H locs ls hw hP hD hS => W.iret (v := r) hx hb hr (fun t ht hW => ⟨⟨r, (Mwritten, Mworn, Mcells, Mkept, Mstack), rfl, hw, by rw [ht]; exact hP, by rw [hAe]; exact hD⟩, by rw [hAe]; exact hS.F ht⟩) hS.2.2 dX1_work_119) (fun r Mwritten Mworn Mcells Mkept Mstack H locs ls hw hP hD hS => W.iret (v := r) hx hb hr (fun t ht hW => ⟨⟨r, (Mwritten, Mworn, Mcells, Mkept, Mstack), rfl, hw, by rw [ht]; exact hP, by rw [hAe]; exact hD⟩, by rw [hAe]; exact hS.F ht⟩) hS.2.2 dX1_work_125) (fun r Mwritten Mworn Mcells Mkept Mstack H locs ls hw hP hD hS => W.iret (v := r) hx hb hr (fun t ht hW => ⟨⟨r, (Mwritten, Mworn, Mcells, Mkept, Mstack), rfl, hw, by rw [ht]; exact hP, by rw [hAe]; exact hD⟩, by rw [hAe]; exact hS.F ht⟩) hS.2.2 dX1_work_141) (fun r Mwritten Mworn Mcells Mkept Mstack H locs ls hw hP hD hS => W.iret (v := r) hx hb hr (fun t ht hW => ⟨⟨r, (Mwritten, Mworn, Mcells, Mkept, Mstack), rfl, hw, by rw [ht]; exact hP, by rw [hAe]; exact hD⟩, by rw [hAe]; exact hS.F ht⟩) hS.2.2 dX1_work_164) (fun r Mwritten Mworn Mcells Mkept Mstack H locs ls hw hP hD hS => W.iret (v := r) hx hb hr (fun t ht hW => ⟨⟨r, (Mwritten, Mworn, Mcells, Mkept, Mstack), rfl, hw, by rw [ht]; exact hP, by rw [hAe]; exact hD⟩, by rw [hAe]; exact hS.F ht⟩) hS.2.2 dX1_work_178) (fun r Mwritten Mworn Mcells Mkept Mstack H locs ls hw hP hD hS => W.iret (v := r) hx hb hr (fun t ht hW => ⟨⟨r, (Mwritten, Mworn, Mcells, Mkept, Mstack), rfl, hw, by rw [ht]; exact hP, by rw [hAe]; exact hD⟩, by rw [hAe]; exact hS.F ht⟩) hS.2.2 dX1_work_186) Mwritten Mworn Mcells Mkept Mstack _ _ _ hf hP hD hS hl

def wW_X1_step (ak : Nat → ClassId) (ad : Nat → Nat) (h : Nat) (mm : Nat → Nat) (pg : Nat) (kn : Nat) (Mway : Int32) (Mstate : Int32) (Mnext : Int32) (Msteps : Int32) (Mwritten : Int32) (Mstuffs : Nat → Int32) (Mtwins : Nat → Int32) (Mworn : Nat → Int32) (Mcells : Nat → Int32) (Mkept : Nat → Int32) (Mstack : Nat → Int32) : va_W := [(h, .inr (1, xob mm (pg) (Mway) (Mstate) (Mnext) (Msteps) (Mwritten))), ((mm 0), .inl (ak 0, 16, .inl (Mstuffs))), ((mm 1), .inl (ak 0, 16, .inl (Mtwins))), ((mm 2), .inl (ak 0, 16, .inl (Mworn))), ((mm 3), .inl (ak 0, 6, .inl (Mcells))), ((mm 4), .inl (ak 0, kn, .inl (Mkept))), ((mm 5), .inl (ak 0, 32, .inl (Mstack)))]
def wK_X1_step (ak : Nat → ClassId) (ad : Nat → Nat) (pg : Nat) (pa : Nat → Nat) (cl : Nat) (Pst : Int32) (Pce : Int32) (Pgi : Int32) (Pln : Int32) (Pbears : Nat → Int32) (Pact : Nat → Int32) (Ptarget : Nat → Int32) (Pfrom : Nat → Int32) (Pmiddle : Nat → Int32) (Pend : Nat → Int32) (Pcode : Nat → Int32) : va_W := [(pg, .inr (2, pob pa (Pst) (Pce) (Pgi) (Pln))), ((pa 0), .inl (ak 0, 4, .inl (Pbears))), ((pa 6), .inl (ak 0, 16, .inl (Pact))), ((pa 8), .inl (ak 0, 16, .inl (Ptarget))), ((pa 9), .inl (ak 0, 16, .inl (Pfrom))), ((pa 10), .inl (ak 0, 16, .inl (Pmiddle))), ((pa 11), .inl (ak 0, 16, .inl (Pend))), ((pa 12), .inl (ak 0, cl, .inl (Pcode)))]
def kf_X1_step_52 (Mway : Int32) (Mstuffs : Nat → Int32) (Mtwins : Nat → Int32) (Pln : Int32) (Pbears : Nat → Int32) (Pact : Nat → Int32) (Ptarget : Nat → Int32) (Pfrom : Nat → Int32) (Pmiddle : Nat → Int32) (Pend : Nat → Int32) (Pcode : Nat → Int32) (kn : Nat) (cl : Nat)  (Φ : Int32 → Int32 → Int32 → Int32 → Int32 → (Nat → Int32) → (Nat → Int32) → (Nat → Int32) → (Nat → Int32) → Prop) (Mstate : Int32) (Mnext : Int32) (Msteps : Int32) (Mwritten : Int32) (Mworn : Nat → Int32) (Mcells : Nat → Int32) (Mkept : Nat → Int32) (Mstack : Nat → Int32) : Prop := wp_X1_work Pln Pact Ptarget Pfrom Pmiddle Pend Pcode kn cl Mnext Mwritten Mworn Mcells Mkept Mstack (fun r_15 Mwritten_10 Mworn_11 Mcells_12 Mkept_13 Mstack_14 => (r_15 < Pln → Φ 1 Mstate r_15 (Msteps + 1) Mwritten_10 Mworn_11 Mcells_12 Mkept_13 Mstack_14) ∧ (¬ r_15 < Pln → Φ 1 2 r_15 (Msteps + 1) Mwritten_10 Mworn_11 Mcells_12 Mkept_13 Mstack_14))
set_option maxHeartbeats 4000000 in
set_option maxRecDepth 100000 in
theorem kj_X1_step_52 {p : Program} {l : Launch} {e : Env} {R : Room} {s : State} {m : MethodId} {args : Array Value} {below : List Frame} {meth : Method} {c : Code} {cells slots : Nat} {Q : State → Prop} {A : Nat → Prop} {D : va_G} {ak : Nat → ClassId} {ad : Nat → Nat} (hx : p.tables.exec = Jvm.exec) (hb : c.code = cX1_step) (hown : s.vm.findClass RX1 = some m.cls) (hts : ∀ w ∈ wsX1_step, w.before args s = true) (hml : c.maxLocals = 1) (hE : EV D ak s) (hT : ST D ak ad A s s.heap) (hA : ∀ q, s.heap.size ≤ q → A q) (hRf : 3 ≤ R.frames) (hRl : 72 ≤ R.locals) (hRc : cells ≤ R.cells ∧ slots ≤ R.slots) (h : Nat) (mm : Nat → Nat) (pg : Nat) (pa : Nat → Nat) (kn : Nat) (cl : Nat) (Mway : Int32) (Mstuffs : Nat → Int32) (Mtwins : Nat → Int32) (Pst : Int32) (Pce : Int32) (Pgi : Int32) (Pln : Int32) (Pbears : Nat → Int32) (Pact : Nat → Int32) (Ptarget : Nat → Int32) (Pfrom : Nat → Int32) (Pmiddle : Nat → Int32) (Pend : Nat → Int32) (Pcode : Nat → Int32) (hKT : KT D A (wK_X1_step ak ad pg pa cl Pst Pce Pgi Pln Pbears Pact Ptarget Pfrom Pmiddle Pend Pcode) s.heap)  (Φ : Int32 → Int32 → Int32 → Int32 → Int32 → (Nat → Int32) → (Nat → Int32) → (Nat → Int32) → (Nat → Int32) → Prop)
    (kR30 : ∀ (r : Int32) (Mstate : Int32) (Mnext : Int32) (Msteps : Int32) (Mwritten : Int32) (Mworn : Nat → Int32) (Mcells : Nat → Int32) (Mkept : Nat → Int32) (Mstack : Nat → Int32) (H : Heap) (locs : List Loc) (ls : Array Slot), (r = 0 ∨ r = 1) → Φ r Mstate Mnext Msteps Mwritten Mworn Mcells Mkept Mstack → va_P D vwCl (wW_X1_step ak ad h mm pg kn Mway Mstate Mnext Msteps Mwritten Mstuffs Mtwins Mworn Mcells Mkept Mstack) H → va_D A (wW_X1_step ak ad h mm pg kn Mway Mstate Mnext Msteps Mwritten Mstuffs Mtwins Mworn Mcells Mkept Mstack) → va_S A s.heap H locs → W p l e R s m args below meth c H locs cells slots Q (F0 m 30 ls [.int r]))
    (kR94 : ∀ (r : Int32) (Mstate : Int32) (Mnext : Int32) (Msteps : Int32) (Mwritten : Int32) (Mworn : Nat → Int32) (Mcells : Nat → Int32) (Mkept : Nat → Int32) (Mstack : Nat → Int32) (H : Heap) (locs : List Loc) (ls : Array Slot), (r = 0 ∨ r = 1) → Φ r Mstate Mnext Msteps Mwritten Mworn Mcells Mkept Mstack → va_P D vwCl (wW_X1_step ak ad h mm pg kn Mway Mstate Mnext Msteps Mwritten Mstuffs Mtwins Mworn Mcells Mkept Mstack) H → va_D A (wW_X1_step ak ad h mm pg kn Mway Mstate Mnext Msteps Mwritten Mstuffs Mtwins Mworn Mcells Mkept Mstack) → va_S A s.heap H locs → W p l e R s m args below meth c H locs cells slots Q (F0 m 94 ls [.int r]))
    : ∀ (Mstate : Int32) (Mnext : Int32) (Msteps : Int32) (Mwritten : Int32) (Mworn : Nat → Int32) (Mcells : Nat → Int32) (Mkept : Nat → Int32) (Mstack : Nat → Int32) (H : Heap) (locs : List Loc) (ls : Array Slot), kf_X1_step_52 Mway Mstuffs Mtwins Pln Pbears Pact Ptarget Pfrom Pmiddle Pend Pcode kn cl  Φ Mstate Mnext Msteps Mwritten Mworn Mcells Mkept Mstack → va_P D vwCl (wW_X1_step ak ad h mm pg kn Mway Mstate Mnext Msteps Mwritten Mstuffs Mtwins Mworn Mcells Mkept Mstack) H → va_D A (wW_X1_step ak ad h mm pg kn Mway Mstate Mnext Msteps Mwritten Mstuffs Mtwins Mworn Mcells Mkept Mstack) → va_S A s.heap H locs → lv_has ls 1 [(0, .ref h)] → W p l e R s m args below meth c H locs cells slots Q (F0 m 52 ls ([])) := by
  have hCW : ∀ {H : Heap} {locs : List Loc}, va_S A s.heap H locs → va_P D vwCl (wK_X1_step ak ad pg pa cl Pst Pce Pgi Pln Pbears Pact Ptarget Pfrom Pmiddle Pend Pcode) H := fun hS => (hKT.kept hS.2.1).1
  intro Mstate Mnext Msteps Mwritten Mworn Mcells Mkept Mstack H locs ls hw hP hD hS hl
  delta kf_X1_step_52 at hw
  refine lv_aload_n hx hb dX1_step_52 rfl (lv_at hl 0 rfl) ?_
  refine lv_dup hx hb dX1_step_53 rfl ?_
  refine vt_get (D := D) (ci := 1) (v := .int (Msteps)) (C := RX1) (T := TX1) (N := 12) hx hb hts (fun w h => wm_c (wc_X1 w h)) hown hE.1 hP 0 rfl rfl 10 (by decide) tX1_10 (hts (.fieldLink RX1 61 "WornLines$Machine" "steps" "I") (wm_c hw_327)) (fun _ h9 => h9) rfl dX1_step_54 ?_
  refine lv_iconst (v := 1) hx hb dX1_step_57 (by decide) ?_
  refine lv_iadd hx hb dX1_step_58 ?_
  refine vt_put (D := D) (ci := 1) (v := .int (Msteps + 1)) (ty := .int) (C := RX1) (T := TX1) (N := 12) hx hb hts (fun w h => wm_c (wc_X1 w h)) tyX1 tyX1_ok nmX1 hown hE.1 hP hD hS 0 rfl rfl 10 (by decide) tX1_10 (hts (.fieldLink RX1 61 "WornLines$Machine" "steps" "I") (wm_c hw_327)) (fun _ h9 => h9) rfl pf_0 (rfl) rfl (Nat.le_of_ble_eq_true rfl) dX1_step_59 (fun H locs hP hD hS => ?_)
  have hP : va_P D vwCl (wW_X1_step ak ad h mm pg kn Mway Mstate Mnext (Msteps + 1) Mwritten Mstuffs Mtwins Mworn Mcells Mkept Mstack) H := hP
  have hD : va_D A (wW_X1_step ak ad h mm pg kn Mway Mstate Mnext (Msteps + 1) Mwritten Mstuffs Mtwins Mworn Mcells Mkept Mstack) := hD
  refine lv_aload_n hx hb dX1_step_62 rfl (lv_at hl 0 rfl) ?_
  refine lv_aload_n hx hb dX1_step_63 rfl (lv_at hl 0 rfl) ?_
  refine lv_aload_n hx hb dX1_step_64 rfl (lv_at hl 0 rfl) ?_
  refine vt_get (D := D) (ci := 1) (v := .int (Mnext)) (C := RX1) (T := TX1) (N := 12) hx hb hts (fun w h => wm_c (wc_X1 w h)) hown hE.1 hP 0 rfl rfl 9 (by decide) tX1_9 (hts (.fieldLink RX1 58 "WornLines$Machine" "next" "I") (wm_c hw_323)) (fun _ h9 => h9) rfl dX1_step_65 ?_
  refine kc_i (wc := (wW_X1_work ak ad h mm pg kn Mway Mstate Mnext (Msteps + 1) Mwritten Mworn Mcells Mkept Mstack)) (wr := [((mm 0), .inl (ak 0, 16, .inl (Mstuffs))), ((mm 1), .inl (ak 0, 16, .inl (Mtwins)))]) hP hD hS hA [0, 3, 4, 5, 6] [1, 2] rfl rfl (by decide) (by decide) (va_runV (As := [.int (Mnext)]) (rest := [.ref h]) ⟨hx, hb, hml, hown, hts⟩ (c_X1_work l D ak ad _ h mm pg pa kn cl Mway Mstate Mnext (Msteps + 1) Mwritten Mworn Mcells Mkept Mstack Pst Pce Pgi Pln Pact Ptarget Pfrom Pmiddle Pend Pcode Mnext _ hw) (cwV 1 hts gX1_step_X1_work rfl rfl rfl hv_X1_work ⟨(Nat.le_trans (Nat.le_of_ble_eq_true rfl) hRf), (Nat.le_trans (Nat.le_of_ble_eq_true rfl) hRl)⟩) (kc_preVK (As := [.int (Mnext)]) (wc := (wW_X1_work ak ad h mm pg kn Mway Mstate Mnext (Msteps + 1) Mwritten Mworn Mcells Mkept Mstack)) (ck := (wK_X1_work ak ad pg pa cl Pst Pce Pgi Pln Pact Ptarget Pfrom Pmiddle Pend Pcode)) hKT hE hT hP hD hS hA [0, 3, 4, 5, 6] [0, 2, 3, 4, 5, 6, 7] (by decide) rfl rfl rfl hP 0 1 rfl rfl rfl) rfl rfl hl.1 rfl (lv_room (Nat.le_of_ble_eq_true rfl)) dX1_step_68 ⟨hRc.1, hRc.2⟩) (fun r_15 u_9 H locs hw hP hD hS => ?_)
  obtain ⟨Mwritten_10, Mworn_11, Mcells_12, Mkept_13, Mstack_14⟩ := u_9
  try dsimp -zeta only at hw
  have hP : va_P D vwCl (wW_X1_step ak ad h mm pg kn Mway Mstate Mnext (Msteps + 1) Mwritten_10 Mstuffs Mtwins Mworn_11 Mcells_12 Mkept_13 Mstack_14) H := hP.sub [2, 0, 1, 3, 4, 5, 6] rfl
  have hD : va_D A (wW_X1_step ak ad h mm pg kn Mway Mstate Mnext (Msteps + 1) Mwritten_10 Mstuffs Mtwins Mworn_11 Mcells_12 Mkept_13 Mstack_14) := hD.sub [2, 0, 1, 3, 4, 5, 6] (by decide) rfl
  refine vt_put (D := D) (ci := 1) (v := .int (r_15)) (ty := .int) (C := RX1) (T := TX1) (N := 12) hx hb hts (fun w h => wm_c (wc_X1 w h)) tyX1 tyX1_ok nmX1 hown hE.1 hP hD hS 0 rfl rfl 9 (by decide) tX1_9 (hts (.fieldLink RX1 58 "WornLines$Machine" "next" "I") (wm_c hw_323)) (fun _ h9 => h9) rfl pf_0 (rfl) rfl (Nat.le_of_ble_eq_true rfl) dX1_step_71 (fun H locs hP hD hS => ?_)
  have hP : va_P D vwCl (wW_X1_step ak ad h mm pg kn Mway Mstate r_15 (Msteps + 1) Mwritten_10 Mstuffs Mtwins Mworn_11 Mcells_12 Mkept_13 Mstack_14) H := hP
  have hD : va_D A (wW_X1_step ak ad h mm pg kn Mway Mstate r_15 (Msteps + 1) Mwritten_10 Mstuffs Mtwins Mworn_11 Mcells_12 Mkept_13 Mstack_14) := hD
  refine lv_aload_n hx hb dX1_step_74 rfl (lv_at hl 0 rfl) ?_
  refine vt_get (D := D) (ci := 1) (v := .int (r_15)) (C := RX1) (T := TX1) (N := 12) hx hb hts (fun w h => wm_c (wc_X1 w h)) hown hE.1 hP 0 rfl rfl 9 (by decide) tX1_9 (hts (.fieldLink RX1 58 "WornLines$Machine" "next" "I") (wm_c hw_323)) (fun _ h9 => h9) rfl dX1_step_75 ?_
  refine lv_aload_n hx hb dX1_step_78 rfl (lv_at hl 0 rfl) ?_
  refine vt_get (D := D) (ci := 1) (v := .ref pg) (C := RX1) (T := TX1) (N := 12) hx hb hts (fun w h => wm_c (wc_X1 w h)) hown hE.1 hP 0 rfl rfl 0 (by decide) tX1_0 (hts (.fieldLink RX1 34 "WornLines$Machine" "programme" "LWornLines$Programme;") (wm_c hw_301)) (fun _ h9 => h9) rfl dX1_step_79 ?_
  refine vt_get (D := D) (ci := 2) (v := .int (Pln)) (C := RX2) (T := TX2) (N := 17) hx hb hts (fun w h => wm_c (wc_X2 w h)) hown hE.1 (hCW hS) 0 rfl rfl 9 (by decide) tX2_9 (hts (.fieldLink RX1 92 "WornLines$Programme" "lines" "I") (wm_c hw_319)) (fun _ h9 => h9) rfl dX1_step_82 ?_
  refine lv_icmp_lt (tgt := 93) hx hb dX1_step_85 (by decide) (fun c_16 => ?_) (fun c_16 => ?_)
  · replace hw := hw.1 c_16
    refine lv_iconst (v := 1) hx hb dX1_step_93 (by decide) ?_
    exact kR94 1 Mstate r_15 (Msteps + 1) Mwritten_10 Mworn_11 Mcells_12 Mkept_13 Mstack_14 _ _ _ (Or.inr rfl) hw hP hD hS
  · replace hw := hw.2 c_16
    refine lv_aload_n hx hb dX1_step_88 rfl (lv_at hl 0 rfl) ?_
    refine lv_iconst (v := 2) hx hb dX1_step_89 (by decide) ?_
    refine vt_put (D := D) (ci := 1) (v := .int (2)) (ty := .int) (C := RX1) (T := TX1) (N := 12) hx hb hts (fun w h => wm_c (wc_X1 w h)) tyX1 tyX1_ok nmX1 hown hE.1 hP hD hS 0 rfl rfl 8 (by decide) tX1_8 (hts (.fieldLink RX1 31 "WornLines$Machine" "state" "I") (wm_c hw_300)) (fun _ h9 => h9) rfl pf_0 (rfl) rfl (Nat.le_of_ble_eq_true rfl) dX1_step_90 (fun H locs hP hD hS => ?_)
    have hP : va_P D vwCl (wW_X1_step ak ad h mm pg kn Mway 2 r_15 (Msteps + 1) Mwritten_10 Mstuffs Mtwins Mworn_11 Mcells_12 Mkept_13 Mstack_14) H := hP
    have hD : va_D A (wW_X1_step ak ad h mm pg kn Mway 2 r_15 (Msteps + 1) Mwritten_10 Mstuffs Mtwins Mworn_11 Mcells_12 Mkept_13 Mstack_14) := hD
    refine lv_iconst (v := 1) hx hb dX1_step_93 (by decide) ?_
    exact kR94 1 2 r_15 (Msteps + 1) Mwritten_10 Mworn_11 Mcells_12 Mkept_13 Mstack_14 _ _ _ (Or.inr rfl) hw hP hD hS

def wp_X1_step (Mway : Int32) (Mstuffs : Nat → Int32) (Mtwins : Nat → Int32) (Pln : Int32) (Pbears : Nat → Int32) (Pact : Nat → Int32) (Ptarget : Nat → Int32) (Pfrom : Nat → Int32) (Pmiddle : Nat → Int32) (Pend : Nat → Int32) (Pcode : Nat → Int32) (kn : Nat) (cl : Nat) (Mstate : Int32) (Mnext : Int32) (Msteps : Int32) (Mwritten : Int32) (Mworn : Nat → Int32) (Mcells : Nat → Int32) (Mkept : Nat → Int32) (Mstack : Nat → Int32) (Φ : Int32 → Int32 → Int32 → Int32 → Int32 → (Nat → Int32) → (Nat → Int32) → (Nat → Int32) → (Nat → Int32) → Prop) : Prop := wp_X1_fallIfHole Mway Mnext Mstuffs Mtwins Mworn Pln Pbears Mstate (fun Mstate_2 => (¬ Mstate_2 = 1 → Φ 0 Mstate_2 Mnext Msteps Mwritten Mworn Mcells Mkept Mstack) ∧ (Mstate_2 = 1 → wp_X7_within Mnext Pln (fun r_6 => (¬ r_6 = 0 → (Mway = 2 → kf_X1_step_52 Mway Mstuffs Mtwins Pln Pbears Pact Ptarget Pfrom Pmiddle Pend Pcode kn cl  Φ Mstate_2 Mnext Msteps Mwritten Mworn Mcells Mkept Mstack) ∧ (¬ Mway = 2 → vp_in Mnext 16 ∧ vp_in Mnext 16 ∧ kf_X1_step_52 Mway Mstuffs Mtwins Pln Pbears Pact Ptarget Pfrom Pmiddle Pend Pcode kn cl  Φ Mstate_2 Mnext Msteps Mwritten (upd Mworn (Mnext).toNatClampNeg (((Mworn (Mnext).toNatClampNeg) + 1))) Mcells Mkept Mstack)) ∧ (r_6 = 0 → Φ 0 Mstate_2 Mnext Msteps Mwritten Mworn Mcells Mkept Mstack))))
set_option maxHeartbeats 4000000 in
set_option maxRecDepth 100000 in
theorem kj_X1_step_e {p : Program} {l : Launch} {e : Env} {R : Room} {s : State} {m : MethodId} {args : Array Value} {below : List Frame} {meth : Method} {c : Code} {cells slots : Nat} {Q : State → Prop} {A : Nat → Prop} {D : va_G} {ak : Nat → ClassId} {ad : Nat → Nat} (hx : p.tables.exec = Jvm.exec) (hb : c.code = cX1_step) (hown : s.vm.findClass RX1 = some m.cls) (hts : ∀ w ∈ wsX1_step, w.before args s = true) (hml : c.maxLocals = 1) (hE : EV D ak s) (hT : ST D ak ad A s s.heap) (hA : ∀ q, s.heap.size ≤ q → A q) (hRf : 3 ≤ R.frames) (hRl : 72 ≤ R.locals) (hRc : cells ≤ R.cells ∧ slots ≤ R.slots) (h : Nat) (mm : Nat → Nat) (pg : Nat) (pa : Nat → Nat) (kn : Nat) (cl : Nat) (Mway : Int32) (Mstuffs : Nat → Int32) (Mtwins : Nat → Int32) (Pst : Int32) (Pce : Int32) (Pgi : Int32) (Pln : Int32) (Pbears : Nat → Int32) (Pact : Nat → Int32) (Ptarget : Nat → Int32) (Pfrom : Nat → Int32) (Pmiddle : Nat → Int32) (Pend : Nat → Int32) (Pcode : Nat → Int32) (hKT : KT D A (wK_X1_step ak ad pg pa cl Pst Pce Pgi Pln Pbears Pact Ptarget Pfrom Pmiddle Pend Pcode) s.heap)  (Φ : Int32 → Int32 → Int32 → Int32 → Int32 → (Nat → Int32) → (Nat → Int32) → (Nat → Int32) → (Nat → Int32) → Prop)
    (kR30 : ∀ (r : Int32) (Mstate : Int32) (Mnext : Int32) (Msteps : Int32) (Mwritten : Int32) (Mworn : Nat → Int32) (Mcells : Nat → Int32) (Mkept : Nat → Int32) (Mstack : Nat → Int32) (H : Heap) (locs : List Loc) (ls : Array Slot), (r = 0 ∨ r = 1) → Φ r Mstate Mnext Msteps Mwritten Mworn Mcells Mkept Mstack → va_P D vwCl (wW_X1_step ak ad h mm pg kn Mway Mstate Mnext Msteps Mwritten Mstuffs Mtwins Mworn Mcells Mkept Mstack) H → va_D A (wW_X1_step ak ad h mm pg kn Mway Mstate Mnext Msteps Mwritten Mstuffs Mtwins Mworn Mcells Mkept Mstack) → va_S A s.heap H locs → W p l e R s m args below meth c H locs cells slots Q (F0 m 30 ls [.int r]))
    (kR94 : ∀ (r : Int32) (Mstate : Int32) (Mnext : Int32) (Msteps : Int32) (Mwritten : Int32) (Mworn : Nat → Int32) (Mcells : Nat → Int32) (Mkept : Nat → Int32) (Mstack : Nat → Int32) (H : Heap) (locs : List Loc) (ls : Array Slot), (r = 0 ∨ r = 1) → Φ r Mstate Mnext Msteps Mwritten Mworn Mcells Mkept Mstack → va_P D vwCl (wW_X1_step ak ad h mm pg kn Mway Mstate Mnext Msteps Mwritten Mstuffs Mtwins Mworn Mcells Mkept Mstack) H → va_D A (wW_X1_step ak ad h mm pg kn Mway Mstate Mnext Msteps Mwritten Mstuffs Mtwins Mworn Mcells Mkept Mstack) → va_S A s.heap H locs → W p l e R s m args below meth c H locs cells slots Q (F0 m 94 ls [.int r]))
    : ∀ (Mstate : Int32) (Mnext : Int32) (Msteps : Int32) (Mwritten : Int32) (Mworn : Nat → Int32) (Mcells : Nat → Int32) (Mkept : Nat → Int32) (Mstack : Nat → Int32) (H : Heap) (locs : List Loc) (ls : Array Slot), wp_X1_step Mway Mstuffs Mtwins Pln Pbears Pact Ptarget Pfrom Pmiddle Pend Pcode kn cl Mstate Mnext Msteps Mwritten Mworn Mcells Mkept Mstack Φ → va_P D vwCl (wW_X1_step ak ad h mm pg kn Mway Mstate Mnext Msteps Mwritten Mstuffs Mtwins Mworn Mcells Mkept Mstack) H → va_D A (wW_X1_step ak ad h mm pg kn Mway Mstate Mnext Msteps Mwritten Mstuffs Mtwins Mworn Mcells Mkept Mstack) → va_S A s.heap H locs → lv_has ls 1 [(0, .ref h)] → W p l e R s m args below meth c H locs cells slots Q (F0 m 0 ls ([])) := by
  have hCW : ∀ {H : Heap} {locs : List Loc}, va_S A s.heap H locs → va_P D vwCl (wK_X1_step ak ad pg pa cl Pst Pce Pgi Pln Pbears Pact Ptarget Pfrom Pmiddle Pend Pcode) H := fun hS => (hKT.kept hS.2.1).1
  intro Mstate Mnext Msteps Mwritten Mworn Mcells Mkept Mstack H locs ls hw hP hD hS hl
  delta wp_X1_step at hw
  refine lv_aload_n hx hb dX1_step_0 rfl (lv_at hl 0 rfl) ?_
  refine kc_v (wc := (wW_X1_fallIfHole ak ad h mm pg Mway Mstate Mnext Msteps Mwritten Mstuffs Mtwins Mworn)) (wr := [((mm 3), .inl (ak 0, 6, .inl (Mcells))), ((mm 4), .inl (ak 0, kn, .inl (Mkept))), ((mm 5), .inl (ak 0, 32, .inl (Mstack)))]) hP hD hS hA [0, 1, 2, 3] [4, 5, 6] rfl rfl (by decide) (by decide) (va_runV (As := []) (rest := []) ⟨hx, hb, hml, hown, hts⟩ (c_X1_fallIfHole l D ak ad _ h mm pg pa Mway Mstate Mnext Msteps Mwritten Mstuffs Mtwins Mworn Pst Pce Pgi Pln Pbears _ hw) (cwV 0 hts gX1_step_X1_fallIfHole rfl rfl rfl hv_X1_fallIfHole ⟨(Nat.le_trans (Nat.le_of_ble_eq_true rfl) hRf), (Nat.le_trans (Nat.le_of_ble_eq_true rfl) hRl)⟩) (kc_preVK (As := []) (wc := (wW_X1_fallIfHole ak ad h mm pg Mway Mstate Mnext Msteps Mwritten Mstuffs Mtwins Mworn)) (ck := (wK_X1_fallIfHole ak ad pg pa Pst Pce Pgi Pln Pbears)) hKT hE hT hP hD hS hA [0, 1, 2, 3] [0, 1] (by decide) rfl rfl rfl hP 0 1 rfl rfl rfl) rfl rfl hl.1 rfl (lv_room (Nat.le_of_ble_eq_true rfl)) dX1_step_1 ⟨hRc.1, hRc.2⟩) (fun Mstate_2 H locs hw hP hD hS => ?_)
  try dsimp -zeta only at hw
  have hP : va_P D vwCl (wW_X1_step ak ad h mm pg kn Mway Mstate_2 Mnext Msteps Mwritten Mstuffs Mtwins Mworn Mcells Mkept Mstack) H := hP.sub [3, 4, 5, 6, 0, 1, 2] rfl
  have hD : va_D A (wW_X1_step ak ad h mm pg kn Mway Mstate_2 Mnext Msteps Mwritten Mstuffs Mtwins Mworn Mcells Mkept Mstack) := hD.sub [3, 4, 5, 6, 0, 1, 2] (by decide) rfl
  refine lv_aload_n hx hb dX1_step_4 rfl (lv_at hl 0 rfl) ?_
  refine vt_get (D := D) (ci := 1) (v := .int (Mstate_2)) (C := RX1) (T := TX1) (N := 12) hx hb hts (fun w h => wm_c (wc_X1 w h)) hown hE.1 hP 0 rfl rfl 8 (by decide) tX1_8 (hts (.fieldLink RX1 31 "WornLines$Machine" "state" "I") (wm_c hw_300)) (fun _ h9 => h9) rfl dX1_step_5 ?_
  refine lv_iconst (v := 1) hx hb dX1_step_8 (by decide) ?_
  refine lv_icmp_ne (tgt := 29) hx hb dX1_step_9 (by decide) (fun c_4 => ?_) (fun c_4 => ?_)
  · replace hw := hw.1 c_4
    refine lv_iconst (v := 0) hx hb dX1_step_29 (by decide) ?_
    exact kR30 0 Mstate_2 Mnext Msteps Mwritten Mworn Mcells Mkept Mstack _ _ _ (Or.inl rfl) hw hP hD hS
  · replace hw := hw.2 c_4
    refine lv_aload_n hx hb dX1_step_12 rfl (lv_at hl 0 rfl) ?_
    refine vt_get (D := D) (ci := 1) (v := .int (Mnext)) (C := RX1) (T := TX1) (N := 12) hx hb hts (fun w h => wm_c (wc_X1 w h)) hown hE.1 hP 0 rfl rfl 9 (by decide) tX1_9 (hts (.fieldLink RX1 58 "WornLines$Machine" "next" "I") (wm_c hw_323)) (fun _ h9 => h9) rfl dX1_step_13 ?_
    refine lv_aload_n hx hb dX1_step_16 rfl (lv_at hl 0 rfl) ?_
    refine vt_get (D := D) (ci := 1) (v := .ref pg) (C := RX1) (T := TX1) (N := 12) hx hb hts (fun w h => wm_c (wc_X1 w h)) hown hE.1 hP 0 rfl rfl 0 (by decide) tX1_0 (hts (.fieldLink RX1 34 "WornLines$Machine" "programme" "LWornLines$Programme;") (wm_c hw_301)) (fun _ h9 => h9) rfl dX1_step_17 ?_
    refine vt_get (D := D) (ci := 2) (v := .int (Pln)) (C := RX2) (T := TX2) (N := 17) hx hb hts (fun w h => wm_c (wc_X2 w h)) hown hE.1 (hCW hS) 0 rfl rfl 9 (by decide) tX2_9 (hts (.fieldLink RX1 92 "WornLines$Programme" "lines" "I") (wm_c hw_319)) (fun _ h9 => h9) rfl dX1_step_20 ?_
    refine kc_i (wc := []) (wr := [(h, .inr (1, xob mm (pg) (Mway) (Mstate_2) (Mnext) (Msteps) (Mwritten))), ((mm 0), .inl (ak 0, 16, .inl (Mstuffs))), ((mm 1), .inl (ak 0, 16, .inl (Mtwins))), ((mm 2), .inl (ak 0, 16, .inl (Mworn))), ((mm 3), .inl (ak 0, 6, .inl (Mcells))), ((mm 4), .inl (ak 0, kn, .inl (Mkept))), ((mm 5), .inl (ak 0, 32, .inl (Mstack)))]) hP hD hS hA [] [0, 1, 2, 3, 4, 5, 6] rfl rfl (by decide) (by decide) (va_runSN (As := [.int (Mnext), .int (Pln)]) (rest := []) ⟨hx, hb, hml, hown, hts⟩ (c_X7_within l D ak ad _ Mnext Pln _ hw) ⟨va_cnB 2 hts gX1_step_X7_within_n95 rfl rfl rfl (hE.2.2.2.1 _ (List.mem_of_getElem? (i := 3) rfl)) (hts (.initialized RX7) (wm_c hw_324)) (by decide +kernel) ⟨(Nat.le_trans (Nat.le_of_ble_eq_true rfl) hRf), (Nat.le_trans (Nat.le_of_ble_eq_true rfl) hRl)⟩, (hts (.static yX7_within) (wm_c hw_325)), trivial⟩ (kc_pre (As := [.int (Mnext), .int (Pln)]) (wc := []) hE hT hP hD hS hA [] (by decide) rfl rfl) rfl rfl hl.1 rfl (lv_room (Nat.le_of_ble_eq_true rfl)) dX1_step_23 ⟨hRc.1, hRc.2⟩) (fun r_6 u_5 H locs hw hP hD hS => ?_)
    try dsimp -zeta only at hw
    have hP : va_P D vwCl (wW_X1_step ak ad h mm pg kn Mway Mstate_2 Mnext Msteps Mwritten Mstuffs Mtwins Mworn Mcells Mkept Mstack) H := hP.sub [0, 1, 2, 3, 4, 5, 6] rfl
    have hD : va_D A (wW_X1_step ak ad h mm pg kn Mway Mstate_2 Mnext Msteps Mwritten Mstuffs Mtwins Mworn Mcells Mkept Mstack) := hD.sub [0, 1, 2, 3, 4, 5, 6] (by decide) rfl
    refine lv_if_ne (tgt := 31) hx hb dX1_step_26 (by decide) (fun c_7 => ?_) (fun c_7 => ?_)
    · replace hw := hw.1 c_7
      refine lv_aload_n hx hb dX1_step_31 rfl (lv_at hl 0 rfl) ?_
      refine vt_get (D := D) (ci := 1) (v := .int (Mway)) (C := RX1) (T := TX1) (N := 12) hx hb hts (fun w h => wm_c (wc_X1 w h)) hown hE.1 hP 0 rfl rfl 7 (by decide) tX1_7 (hts (.fieldLink RX1 27 "WornLines$Machine" "way" "I") (wm_c hw_299)) (fun _ h9 => h9) rfl dX1_step_32 ?_
      refine lv_iconst (v := 2) hx hb dX1_step_35 (by decide) ?_
      refine lv_icmp_eq (tgt := 52) hx hb dX1_step_36 (by decide) (fun c_8 => ?_) (fun c_8 => ?_)
      · replace hw := hw.1 c_8
        exact kj_X1_step_52 hx hb hown hts hml hE hT hA hRf hRl hRc h mm pg pa kn cl Mway Mstuffs Mtwins Pst Pce Pgi Pln Pbears Pact Ptarget Pfrom Pmiddle Pend Pcode hKT  Φ  kR30 kR94 Mstate_2 Mnext Msteps Mwritten Mworn Mcells Mkept Mstack _ _ _ hw hP hD hS (lv_sub hl [0] rfl)
      · replace hw := hw.2 c_8
        refine lv_aload_n hx hb dX1_step_39 rfl (lv_at hl 0 rfl) ?_
        refine vt_get (D := D) (ci := 1) (v := .ref (mm 2)) (C := RX1) (T := TX1) (N := 12) hx hb hts (fun w h => wm_c (wc_X1 w h)) hown hE.1 hP 0 rfl rfl 3 (by decide) tX1_3 (hts (.fieldLink RX1 18 "WornLines$Machine" "worn" "[I") (wm_c hw_296)) (fun _ h9 => h9) rfl dX1_step_40 ?_
        refine lv_aload_n hx hb dX1_step_43 rfl (lv_at hl 0 rfl) ?_
        refine vt_get (D := D) (ci := 1) (v := .int (Mnext)) (C := RX1) (T := TX1) (N := 12) hx hb hts (fun w h => wm_c (wc_X1 w h)) hown hE.1 hP 0 rfl rfl 9 (by decide) tX1_9 (hts (.fieldLink RX1 58 "WornLines$Machine" "next" "I") (wm_c hw_323)) (fun _ h9 => h9) rfl dX1_step_44 ?_
        refine lv_dup2_11 hx hb dX1_step_47 rfl rfl ?_
        obtain ⟨h_17, hw⟩ := hw
        refine va_iald hx hb hE.1 hP 3 0 rfl rfl (h_17) dX1_step_48 ?_
        refine lv_iconst (v := 1) hx hb dX1_step_49 (by decide) ?_
        refine lv_iadd hx hb dX1_step_50 ?_
        obtain ⟨h_18, hw⟩ := hw
        refine va_iast hx hb hE.1 hP hD hS 3 0 rfl rfl (h_18) dX1_step_51 (fun H locs hP hD hS => ?_)
        have hP : va_P D vwCl (wW_X1_step ak ad h mm pg kn Mway Mstate_2 Mnext Msteps Mwritten Mstuffs Mtwins (upd Mworn (Mnext).toNatClampNeg (((Mworn (Mnext).toNatClampNeg) + 1))) Mcells Mkept Mstack) H := hP
        have hD : va_D A (wW_X1_step ak ad h mm pg kn Mway Mstate_2 Mnext Msteps Mwritten Mstuffs Mtwins (upd Mworn (Mnext).toNatClampNeg (((Mworn (Mnext).toNatClampNeg) + 1))) Mcells Mkept Mstack) := hD
        exact kj_X1_step_52 hx hb hown hts hml hE hT hA hRf hRl hRc h mm pg pa kn cl Mway Mstuffs Mtwins Pst Pce Pgi Pln Pbears Pact Ptarget Pfrom Pmiddle Pend Pcode hKT  Φ  kR30 kR94 Mstate_2 Mnext Msteps Mwritten (upd Mworn (Mnext).toNatClampNeg (((Mworn (Mnext).toNatClampNeg) + 1))) Mcells Mkept Mstack _ _ _ hw hP hD hS (lv_sub hl [0] rfl)
    · replace hw := hw.2 c_7
      refine lv_iconst (v := 0) hx hb dX1_step_29 (by decide) ?_
      exact kR30 0 Mstate_2 Mnext Msteps Mwritten Mworn Mcells Mkept Mstack _ _ _ (Or.inl rfl) hw hP hD hS
set_option maxHeartbeats 4000000 in
set_option maxRecDepth 100000 in
theorem c_X1_step (l : Launch) (D : va_G) (ak : Nat → ClassId) (ad : Nat → Nat) (sz : Nat) (h : Nat) (mm : Nat → Nat) (pg : Nat) (pa : Nat → Nat) (kn : Nat) (cl : Nat) (Mway : Int32) (Mstate : Int32) (Mnext : Int32) (Msteps : Int32) (Mwritten : Int32) (Mstuffs : Nat → Int32) (Mtwins : Nat → Int32) (Mworn : Nat → Int32) (Mcells : Nat → Int32) (Mkept : Nat → Int32) (Mstack : Nat → Int32) (Pst : Int32) (Pce : Int32) (Pgi : Int32) (Pln : Int32) (Pbears : Nat → Int32) (Pact : Nat → Int32) (Ptarget : Nat → Int32) (Pfrom : Nat → Int32) (Pmiddle : Nat → Int32) (Pend : Nat → Int32) (Pcode : Nat → Int32) (Φ : Int32 → Int32 → Int32 → Int32 → Int32 → (Nat → Int32) → (Nat → Int32) → (Nat → Int32) → (Nat → Int32) → Prop) (hf : wp_X1_step Mway Mstuffs Mtwins Pln Pbears Pact Ptarget Pfrom Pmiddle Pend Pcode kn cl Mstate Mnext Msteps Mwritten Mworn Mcells Mkept Mstack Φ) : Met l yX1_step wsX1_step ({ frames := 3, cells := 0, slots := 0, locals := 72 }) (cPreK D ak ad [.ref h] ((wW_X1_step ak ad h mm pg kn Mway Mstate Mnext Msteps Mwritten Mstuffs Mtwins Mworn Mcells Mkept Mstack)) sz ((wK_X1_step ak ad pg pa cl Pst Pce Pgi Pln Pbears Pact Ptarget Pfrom Pmiddle Pend Pcode))) (cI D (S := (Int32) × (Int32) × (Int32) × (Int32) × (Nat → Int32) × (Nat → Int32) × (Nat → Int32) × (Nat → Int32)) (fun (r : Int32) (u : (Int32) × (Int32) × (Int32) × (Int32) × (Nat → Int32) × (Nat → Int32) × (Nat → Int32) × (Nat → Int32)) => Φ r u.1 u.2.1 u.2.2.1 u.2.2.2.1 u.2.2.2.2.1 u.2.2.2.2.2.1 u.2.2.2.2.2.2.1 u.2.2.2.2.2.2.2) (fun u => (wW_X1_step ak ad h mm pg kn Mway u.1 u.2.1 u.2.2.1 u.2.2.2.1 Mstuffs Mtwins u.2.2.2.2.1 u.2.2.2.2.2.1 u.2.2.2.2.2.2.1 u.2.2.2.2.2.2.2)) ((wW_X1_step ak ad h mm pg kn Mway Mstate Mnext Msteps Mwritten Mstuffs Mtwins Mworn Mcells Mkept Mstack)) sz) 0 0 (va_A ((wW_X1_step ak ad h mm pg kn Mway Mstate Mnext Msteps Mwritten Mstuffs Mtwins Mworn Mcells Mkept Mstack)) sz) := by
  refine Met.ofW (cc := cX1_step) (maxL := 1) (ret := (some .boolean)) (by decide) rfl ?_
  intro p e s m args below meth c s₁ B hml hv
  obtain ⟨⟨rfl, hsz, hP, hE, hD0, hT⟩, hKT⟩ := hv
  have hx := B.exec
  have hb := B.bytes
  have hr := B.returns
  have hts := atoms_spec (ws := wsX1_step) B.pre
  have hown : s.vm.findClass RX1 = some m.cls := findClass_of_methodNamed B.named
  have hlocks := B.notSynchronized
  subst hsz
  have hD := hD0.self (sz := s.heap.size)
  generalize hAe : va_A ((wW_X1_step ak ad h mm pg kn Mway Mstate Mnext Msteps Mwritten Mstuffs Mtwins Mworn Mcells Mkept Mstack)) s.heap.size = A at hD hT hKT ⊢
  have hA : ∀ q : Nat, s.heap.size ≤ q → A q := fun q h => by rw [← hAe]; exact Or.inr h
  have hS : va_S A s.heap s.heap [] := va_S.rf
  have hl := lv_entry ([.ref h]) (n := 1) (Nat.le_of_ble_eq_true rfl)
  rw [lg_entry_eq]
  generalize (lg_sl ([.ref h]) ++ List.replicate (1 - (lg_sl ([.ref h])).length) Slot.unset).toArray = ls at hl ⊢
  have hl : lv_has ls 1 [(0, .ref h)] := hl
  exact kj_X1_step_e hx hb hown hts hml hE hT hA (Nat.le_of_ble_eq_true rfl) (Nat.le_of_ble_eq_true rfl) ⟨Nat.le_of_ble_eq_true rfl, Nat.le_of_ble_eq_true rfl⟩ h mm pg pa kn cl Mway Mstuffs Mtwins Pst Pce Pgi Pln Pbears Pact Ptarget Pfrom Pmiddle Pend Pcode hKT Φ (fun r Mstate Mnext Msteps Mwritten Mworn Mcells Mkept Mstack H locs ls hz hw hP hD hS => W.zret (v := r) hx hb hr (bl_zn hz) (fun t ht hW => ⟨⟨r, (Mstate, Mnext, Msteps, Mwritten, Mworn, Mcells, Mkept, Mstack), rfl, hw, by rw [ht]; exact hP, by rw [hAe]; exact hD⟩, by rw [hAe]; exact hS.F ht⟩) hS.2.2 dX1_step_30) (fun r Mstate Mnext Msteps Mwritten Mworn Mcells Mkept Mstack H locs ls hz hw hP hD hS => W.zret (v := r) hx hb hr (bl_zn hz) (fun t ht hW => ⟨⟨r, (Mstate, Mnext, Msteps, Mwritten, Mworn, Mcells, Mkept, Mstack), rfl, hw, by rw [ht]; exact hP, by rw [hAe]; exact hD⟩, by rw [hAe]; exact hS.F ht⟩) hS.2.2 dX1_step_94) Mstate Mnext Msteps Mwritten Mworn Mcells Mkept Mstack _ _ _ hf hP hD hS hl

def wW_X1_go (ak : Nat → ClassId) (ad : Nat → Nat) (h : Nat) (mm : Nat → Nat) (pg : Nat) (kn : Nat) (Mway : Int32) (Mstate : Int32) (Mnext : Int32) (Msteps : Int32) (Mwritten : Int32) (Mstuffs : Nat → Int32) (Mtwins : Nat → Int32) (Mworn : Nat → Int32) (Mcells : Nat → Int32) (Mkept : Nat → Int32) (Mstack : Nat → Int32) : va_W := [(h, .inr (1, xob mm (pg) (Mway) (Mstate) (Mnext) (Msteps) (Mwritten))), ((mm 0), .inl (ak 0, 16, .inl (Mstuffs))), ((mm 1), .inl (ak 0, 16, .inl (Mtwins))), ((mm 2), .inl (ak 0, 16, .inl (Mworn))), ((mm 3), .inl (ak 0, 6, .inl (Mcells))), ((mm 4), .inl (ak 0, kn, .inl (Mkept))), ((mm 5), .inl (ak 0, 32, .inl (Mstack)))]
def wK_X1_go (ak : Nat → ClassId) (ad : Nat → Nat) (pg : Nat) (pa : Nat → Nat) (cl : Nat) (Pst : Int32) (Pce : Int32) (Pgi : Int32) (Pln : Int32) (Pbears : Nat → Int32) (Pact : Nat → Int32) (Ptarget : Nat → Int32) (Pfrom : Nat → Int32) (Pmiddle : Nat → Int32) (Pend : Nat → Int32) (Pcode : Nat → Int32) : va_W := [(pg, .inr (2, pob pa (Pst) (Pce) (Pgi) (Pln))), ((pa 0), .inl (ak 0, 4, .inl (Pbears))), ((pa 6), .inl (ak 0, 16, .inl (Pact))), ((pa 8), .inl (ak 0, 16, .inl (Ptarget))), ((pa 9), .inl (ak 0, 16, .inl (Pfrom))), ((pa 10), .inl (ak 0, 16, .inl (Pmiddle))), ((pa 11), .inl (ak 0, 16, .inl (Pend))), ((pa 12), .inl (ak 0, cl, .inl (Pcode)))]
def lb_X1_go_4 (Mway : Int32) (Mstuffs : Nat → Int32) (Mtwins : Nat → Int32) (Pln : Int32) (Pbears : Nat → Int32) (Pact : Nat → Int32) (Ptarget : Nat → Int32) (Pfrom : Nat → Int32) (Pmiddle : Nat → Int32) (Pend : Nat → Int32) (Pcode : Nat → Int32) (kn : Nat) (cl : Nat) (xm : Int32)  (Φ : Int32 → Int32 → Int32 → Int32 → Int32 → (Nat → Int32) → (Nat → Int32) → (Nat → Int32) → (Nat → Int32) → Prop) (back : Int32 → Int32 → Int32 → Int32 → (Nat → Int32) → (Nat → Int32) → (Nat → Int32) → (Nat → Int32) → Int32 → Int32 → Prop) (Mstate : Int32) (Mnext : Int32) (Msteps : Int32) (Mwritten : Int32) (Mworn : Nat → Int32) (Mcells : Nat → Int32) (Mkept : Nat → Int32) (Mstack : Nat → Int32) (l2 : Int32) (l3 : Int32) : Prop := (xm ≤ l3 → Φ l2 Mstate Mnext Msteps Mwritten Mworn Mcells Mkept Mstack) ∧ (¬ xm ≤ l3 → wp_X1_step Mway Mstuffs Mtwins Pln Pbears Pact Ptarget Pfrom Pmiddle Pend Pcode kn cl Mstate Mnext Msteps Mwritten Mworn Mcells Mkept Mstack (fun r_11 Mstate_3 Mnext_4 Msteps_5 Mwritten_6 Mworn_7 Mcells_8 Mkept_9 Mstack_10 => (r_11 = 0 → Φ l2 Mstate_3 Mnext_4 Msteps_5 Mwritten_6 Mworn_7 Mcells_8 Mkept_9 Mstack_10) ∧ (¬ r_11 = 0 → back Mstate_3 Mnext_4 Msteps_5 Mwritten_6 Mworn_7 Mcells_8 Mkept_9 Mstack_10 (l2 + 1) (l3 + 1))))
def lf_X1_go_4 (Mway : Int32) (Mstuffs : Nat → Int32) (Mtwins : Nat → Int32) (Pln : Int32) (Pbears : Nat → Int32) (Pact : Nat → Int32) (Ptarget : Nat → Int32) (Pfrom : Nat → Int32) (Pmiddle : Nat → Int32) (Pend : Nat → Int32) (Pcode : Nat → Int32) (kn : Nat) (cl : Nat) (xm : Int32)  (Φ : Int32 → Int32 → Int32 → Int32 → Int32 → (Nat → Int32) → (Nat → Int32) → (Nat → Int32) → (Nat → Int32) → Prop) : Nat → Int32 → Int32 → Int32 → Int32 → (Nat → Int32) → (Nat → Int32) → (Nat → Int32) → (Nat → Int32) → Int32 → Int32 → Prop
  | 0, _, _, _, _, _, _, _, _, _, _ => False
  | n_ + 1, Mstate, Mnext, Msteps, Mwritten, Mworn, Mcells, Mkept, Mstack, l2, l3 => lb_X1_go_4 Mway Mstuffs Mtwins Pln Pbears Pact Ptarget Pfrom Pmiddle Pend Pcode kn cl xm  Φ (lf_X1_go_4 Mway Mstuffs Mtwins Pln Pbears Pact Ptarget Pfrom Pmiddle Pend Pcode kn cl xm  Φ n_) Mstate Mnext Msteps Mwritten Mworn Mcells Mkept Mstack l2 l3
theorem li_X1_go_4 (Mway : Int32) (Mstuffs : Nat → Int32) (Mtwins : Nat → Int32) (Pln : Int32) (Pbears : Nat → Int32) (Pact : Nat → Int32) (Ptarget : Nat → Int32) (Pfrom : Nat → Int32) (Pmiddle : Nat → Int32) (Pend : Nat → Int32) (Pcode : Nat → Int32) (kn : Nat) (cl : Nat) (xm : Int32)  (Φ : Int32 → Int32 → Int32 → Int32 → Int32 → (Nat → Int32) → (Nat → Int32) → (Nat → Int32) → (Nat → Int32) → Prop) (Inv : Int32 → Int32 → Int32 → Int32 → (Nat → Int32) → (Nat → Int32) → (Nat → Int32) → (Nat → Int32) → Int32 → Int32 → Prop) (mu : Int32 → Int32 → Int32 → Int32 → (Nat → Int32) → (Nat → Int32) → (Nat → Int32) → (Nat → Int32) → Int32 → Int32 → Nat) (hs : ∀ (back : Int32 → Int32 → Int32 → Int32 → (Nat → Int32) → (Nat → Int32) → (Nat → Int32) → (Nat → Int32) → Int32 → Int32 → Prop) (Mstate : Int32) (Mnext : Int32) (Msteps : Int32) (Mwritten : Int32) (Mworn : Nat → Int32) (Mcells : Nat → Int32) (Mkept : Nat → Int32) (Mstack : Nat → Int32) (l2 : Int32) (l3 : Int32), Inv Mstate Mnext Msteps Mwritten Mworn Mcells Mkept Mstack l2 l3 → (∀ (Mstate' : Int32) (Mnext' : Int32) (Msteps' : Int32) (Mwritten' : Int32) (Mworn' : Nat → Int32) (Mcells' : Nat → Int32) (Mkept' : Nat → Int32) (Mstack' : Nat → Int32) (l2' : Int32) (l3' : Int32), Inv Mstate' Mnext' Msteps' Mwritten' Mworn' Mcells' Mkept' Mstack' l2' l3' → mu Mstate' Mnext' Msteps' Mwritten' Mworn' Mcells' Mkept' Mstack' l2' l3' < mu Mstate Mnext Msteps Mwritten Mworn Mcells Mkept Mstack l2 l3 → back Mstate' Mnext' Msteps' Mwritten' Mworn' Mcells' Mkept' Mstack' l2' l3') → lb_X1_go_4 Mway Mstuffs Mtwins Pln Pbears Pact Ptarget Pfrom Pmiddle Pend Pcode kn cl xm  Φ back Mstate Mnext Msteps Mwritten Mworn Mcells Mkept Mstack l2 l3) : ∀ (n_ : Nat) (Mstate : Int32) (Mnext : Int32) (Msteps : Int32) (Mwritten : Int32) (Mworn : Nat → Int32) (Mcells : Nat → Int32) (Mkept : Nat → Int32) (Mstack : Nat → Int32) (l2 : Int32) (l3 : Int32), Inv Mstate Mnext Msteps Mwritten Mworn Mcells Mkept Mstack l2 l3 → mu Mstate Mnext Msteps Mwritten Mworn Mcells Mkept Mstack l2 l3 < n_ → lf_X1_go_4 Mway Mstuffs Mtwins Pln Pbears Pact Ptarget Pfrom Pmiddle Pend Pcode kn cl xm  Φ n_ Mstate Mnext Msteps Mwritten Mworn Mcells Mkept Mstack l2 l3 := by
  intro n_
  induction n_ with
  | zero => intro Mstate Mnext Msteps Mwritten Mworn Mcells Mkept Mstack l2 l3 _ h; exact absurd h (Nat.not_lt_zero _)
  | succ n_ ih => intro Mstate Mnext Msteps Mwritten Mworn Mcells Mkept Mstack l2 l3 hI hm; exact hs _ Mstate Mnext Msteps Mwritten Mworn Mcells Mkept Mstack l2 l3 hI (fun Mstate' Mnext' Msteps' Mwritten' Mworn' Mcells' Mkept' Mstack' l2' l3' h1 h2 => ih Mstate' Mnext' Msteps' Mwritten' Mworn' Mcells' Mkept' Mstack' l2' l3' h1 (by omega))
set_option maxHeartbeats 4000000 in
set_option maxRecDepth 100000 in
theorem lp_X1_go_4 {p : Program} {l : Launch} {e : Env} {R : Room} {s : State} {m : MethodId} {args : Array Value} {below : List Frame} {meth : Method} {c : Code} {cells slots : Nat} {Q : State → Prop} {A : Nat → Prop} {D : va_G} {ak : Nat → ClassId} {ad : Nat → Nat} (hx : p.tables.exec = Jvm.exec) (hb : c.code = cX1_go) (hown : s.vm.findClass RX1 = some m.cls) (hts : ∀ w ∈ wsX1_go, w.before args s = true) (hml : c.maxLocals = 4) (hE : EV D ak s) (hT : ST D ak ad A s s.heap) (hA : ∀ q, s.heap.size ≤ q → A q) (hRf : 4 ≤ R.frames) (hRl : 92 ≤ R.locals) (hRc : cells ≤ R.cells ∧ slots ≤ R.slots) (h : Nat) (mm : Nat → Nat) (pg : Nat) (pa : Nat → Nat) (kn : Nat) (cl : Nat) (Mway : Int32) (Mstuffs : Nat → Int32) (Mtwins : Nat → Int32) (Pst : Int32) (Pce : Int32) (Pgi : Int32) (Pln : Int32) (Pbears : Nat → Int32) (Pact : Nat → Int32) (Ptarget : Nat → Int32) (Pfrom : Nat → Int32) (Pmiddle : Nat → Int32) (Pend : Nat → Int32) (Pcode : Nat → Int32) (xm : Int32) (hKT : KT D A (wK_X1_go ak ad pg pa cl Pst Pce Pgi Pln Pbears Pact Ptarget Pfrom Pmiddle Pend Pcode) s.heap)  (Φ : Int32 → Int32 → Int32 → Int32 → Int32 → (Nat → Int32) → (Nat → Int32) → (Nat → Int32) → (Nat → Int32) → Prop)
    (kR26 : ∀ (r : Int32) (Mstate : Int32) (Mnext : Int32) (Msteps : Int32) (Mwritten : Int32) (Mworn : Nat → Int32) (Mcells : Nat → Int32) (Mkept : Nat → Int32) (Mstack : Nat → Int32) (H : Heap) (locs : List Loc) (ls : Array Slot), Φ r Mstate Mnext Msteps Mwritten Mworn Mcells Mkept Mstack → va_P D vwCl (wW_X1_go ak ad h mm pg kn Mway Mstate Mnext Msteps Mwritten Mstuffs Mtwins Mworn Mcells Mkept Mstack) H → va_D A (wW_X1_go ak ad h mm pg kn Mway Mstate Mnext Msteps Mwritten Mstuffs Mtwins Mworn Mcells Mkept Mstack) → va_S A s.heap H locs → W p l e R s m args below meth c H locs cells slots Q (F0 m 26 ls [.int r]))
    : ∀ (n_ : Nat) (Mstate : Int32) (Mnext : Int32) (Msteps : Int32) (Mwritten : Int32) (Mworn : Nat → Int32) (Mcells : Nat → Int32) (Mkept : Nat → Int32) (Mstack : Nat → Int32) (l2 : Int32) (l3 : Int32) (H : Heap) (locs : List Loc) (ls : Array Slot), lf_X1_go_4 Mway Mstuffs Mtwins Pln Pbears Pact Ptarget Pfrom Pmiddle Pend Pcode kn cl xm  Φ n_ Mstate Mnext Msteps Mwritten Mworn Mcells Mkept Mstack l2 l3 → va_P D vwCl (wW_X1_go ak ad h mm pg kn Mway Mstate Mnext Msteps Mwritten Mstuffs Mtwins Mworn Mcells Mkept Mstack) H → va_D A (wW_X1_go ak ad h mm pg kn Mway Mstate Mnext Msteps Mwritten Mstuffs Mtwins Mworn Mcells Mkept Mstack) → va_S A s.heap H locs → lv_has ls 4 [(0, .ref h), (1, .int (xm)), (2, .int (l2)), (3, .int (l3))] → W p l e R s m args below meth c H locs cells slots Q (F0 m 4 ls ([])) := by
  have hCW : ∀ {H : Heap} {locs : List Loc}, va_S A s.heap H locs → va_P D vwCl (wK_X1_go ak ad pg pa cl Pst Pce Pgi Pln Pbears Pact Ptarget Pfrom Pmiddle Pend Pcode) H := fun hS => (hKT.kept hS.2.1).1
  intro n_
  induction n_ with
  | zero =>
    intro Mstate Mnext Msteps Mwritten Mworn Mcells Mkept Mstack l2 l3 H locs ls hw
    exact hw.elim
  | succ n_ ih =>
    intro Mstate Mnext Msteps Mwritten Mworn Mcells Mkept Mstack l2 l3 H locs ls hw hP hD hS hl
    have hw : lb_X1_go_4 Mway Mstuffs Mtwins Pln Pbears Pact Ptarget Pfrom Pmiddle Pend Pcode kn cl xm  Φ (lf_X1_go_4 Mway Mstuffs Mtwins Pln Pbears Pact Ptarget Pfrom Pmiddle Pend Pcode kn cl xm  Φ n_) Mstate Mnext Msteps Mwritten Mworn Mcells Mkept Mstack l2 l3 := hw
    delta lb_X1_go_4 at hw
    refine lv_iload_n hx hb dX1_go_4 rfl (lv_at hl 3 rfl) ?_
    refine lv_iload_n hx hb dX1_go_5 rfl (lv_at hl 1 rfl) ?_
    refine lv_icmp_ge (tgt := 25) hx hb dX1_go_6 (by decide) (fun c_1 => ?_) (fun c_1 => ?_)
    · replace hw := hw.1 c_1
      refine lv_iload_n hx hb dX1_go_25 rfl (lv_at hl 2 rfl) ?_
      exact kR26 l2 Mstate Mnext Msteps Mwritten Mworn Mcells Mkept Mstack _ _ _ hw hP hD hS
    · replace hw := hw.2 c_1
      refine lv_aload_n hx hb dX1_go_9 rfl (lv_at hl 0 rfl) ?_
      refine kc_i (wc := (wW_X1_step ak ad h mm pg kn Mway Mstate Mnext Msteps Mwritten Mstuffs Mtwins Mworn Mcells Mkept Mstack)) (wr := []) hP hD hS hA [0, 1, 2, 3, 4, 5, 6] [] rfl rfl (by decide) (by decide) (va_runV (As := []) (rest := []) ⟨hx, hb, hml, hown, hts⟩ (c_X1_step l D ak ad _ h mm pg pa kn cl Mway Mstate Mnext Msteps Mwritten Mstuffs Mtwins Mworn Mcells Mkept Mstack Pst Pce Pgi Pln Pbears Pact Ptarget Pfrom Pmiddle Pend Pcode _ hw) (cwV 0 hts gX1_go_X1_step rfl rfl rfl hv_X1_step ⟨(Nat.le_trans (Nat.le_of_ble_eq_true rfl) hRf), (Nat.le_trans (Nat.le_of_ble_eq_true rfl) hRl)⟩) (kc_preVK (As := []) (wc := (wW_X1_step ak ad h mm pg kn Mway Mstate Mnext Msteps Mwritten Mstuffs Mtwins Mworn Mcells Mkept Mstack)) (ck := (wK_X1_step ak ad pg pa cl Pst Pce Pgi Pln Pbears Pact Ptarget Pfrom Pmiddle Pend Pcode)) hKT hE hT hP hD hS hA [0, 1, 2, 3, 4, 5, 6] [0, 1, 2, 3, 4, 5, 6, 7] (by decide) rfl rfl rfl hP 0 1 rfl rfl rfl) rfl rfl hl.1 rfl (lv_room (Nat.le_of_ble_eq_true rfl)) dX1_go_10 ⟨hRc.1, hRc.2⟩) (fun r_11 u_2 H locs hw hP hD hS => ?_)
      obtain ⟨Mstate_3, Mnext_4, Msteps_5, Mwritten_6, Mworn_7, Mcells_8, Mkept_9, Mstack_10⟩ := u_2
      try dsimp -zeta only at hw
      have hP : va_P D vwCl (wW_X1_go ak ad h mm pg kn Mway Mstate_3 Mnext_4 Msteps_5 Mwritten_6 Mstuffs Mtwins Mworn_7 Mcells_8 Mkept_9 Mstack_10) H := hP.sub [0, 1, 2, 3, 4, 5, 6] rfl
      have hD : va_D A (wW_X1_go ak ad h mm pg kn Mway Mstate_3 Mnext_4 Msteps_5 Mwritten_6 Mstuffs Mtwins Mworn_7 Mcells_8 Mkept_9 Mstack_10) := hD.sub [0, 1, 2, 3, 4, 5, 6] (by decide) rfl
      refine lv_if_eq (tgt := 25) hx hb dX1_go_13 (by decide) (fun c_12 => ?_) (fun c_12 => ?_)
      · replace hw := hw.1 c_12
        refine lv_iload_n hx hb dX1_go_25 rfl (lv_at hl 2 rfl) ?_
        exact kR26 l2 Mstate_3 Mnext_4 Msteps_5 Mwritten_6 Mworn_7 Mcells_8 Mkept_9 Mstack_10 _ _ _ hw hP hD hS
      · replace hw := hw.2 c_12
        refine lv_iinc (v := (l2 + 1)) (lv' := [(2, .int (l2 + 1)), (0, .ref h), (1, .int (xm)), (3, .int (l3))]) hx hb dX1_go_16 hl (k := 2) rfl (rfl) (by decide) rfl (fun ls hl => ?_)
        refine lv_iinc (v := (l3 + 1)) (lv' := [(3, .int (l3 + 1)), (2, .int (l2 + 1)), (0, .ref h), (1, .int (xm))]) hx hb dX1_go_19 hl (k := 3) rfl (rfl) (by decide) rfl (fun ls hl => ?_)
        refine lv_goto (tgt := 4) hx hb dX1_go_22 (by decide) ?_
        exact ih Mstate_3 Mnext_4 Msteps_5 Mwritten_6 Mworn_7 Mcells_8 Mkept_9 Mstack_10 (l2 + 1) (l3 + 1) _ _ _ hw hP hD hS (lv_sub hl [2, 3, 1, 0] rfl)

def wp_X1_go (Mway : Int32) (Mstuffs : Nat → Int32) (Mtwins : Nat → Int32) (Pln : Int32) (Pbears : Nat → Int32) (Pact : Nat → Int32) (Ptarget : Nat → Int32) (Pfrom : Nat → Int32) (Pmiddle : Nat → Int32) (Pend : Nat → Int32) (Pcode : Nat → Int32) (kn : Nat) (cl : Nat) (xm : Int32) (Mstate : Int32) (Mnext : Int32) (Msteps : Int32) (Mwritten : Int32) (Mworn : Nat → Int32) (Mcells : Nat → Int32) (Mkept : Nat → Int32) (Mstack : Nat → Int32) (Φ : Int32 → Int32 → Int32 → Int32 → Int32 → (Nat → Int32) → (Nat → Int32) → (Nat → Int32) → (Nat → Int32) → Prop) : Prop := (∃ n_, lf_X1_go_4 Mway Mstuffs Mtwins Pln Pbears Pact Ptarget Pfrom Pmiddle Pend Pcode kn cl xm  Φ n_ Mstate Mnext Msteps Mwritten Mworn Mcells Mkept Mstack 0 0)
set_option maxHeartbeats 4000000 in
set_option maxRecDepth 100000 in
theorem kj_X1_go_e {p : Program} {l : Launch} {e : Env} {R : Room} {s : State} {m : MethodId} {args : Array Value} {below : List Frame} {meth : Method} {c : Code} {cells slots : Nat} {Q : State → Prop} {A : Nat → Prop} {D : va_G} {ak : Nat → ClassId} {ad : Nat → Nat} (hx : p.tables.exec = Jvm.exec) (hb : c.code = cX1_go) (hown : s.vm.findClass RX1 = some m.cls) (hts : ∀ w ∈ wsX1_go, w.before args s = true) (hml : c.maxLocals = 4) (hE : EV D ak s) (hT : ST D ak ad A s s.heap) (hA : ∀ q, s.heap.size ≤ q → A q) (hRf : 4 ≤ R.frames) (hRl : 92 ≤ R.locals) (hRc : cells ≤ R.cells ∧ slots ≤ R.slots) (h : Nat) (mm : Nat → Nat) (pg : Nat) (pa : Nat → Nat) (kn : Nat) (cl : Nat) (Mway : Int32) (Mstuffs : Nat → Int32) (Mtwins : Nat → Int32) (Pst : Int32) (Pce : Int32) (Pgi : Int32) (Pln : Int32) (Pbears : Nat → Int32) (Pact : Nat → Int32) (Ptarget : Nat → Int32) (Pfrom : Nat → Int32) (Pmiddle : Nat → Int32) (Pend : Nat → Int32) (Pcode : Nat → Int32) (xm : Int32) (hKT : KT D A (wK_X1_go ak ad pg pa cl Pst Pce Pgi Pln Pbears Pact Ptarget Pfrom Pmiddle Pend Pcode) s.heap)  (Φ : Int32 → Int32 → Int32 → Int32 → Int32 → (Nat → Int32) → (Nat → Int32) → (Nat → Int32) → (Nat → Int32) → Prop)
    (kR26 : ∀ (r : Int32) (Mstate : Int32) (Mnext : Int32) (Msteps : Int32) (Mwritten : Int32) (Mworn : Nat → Int32) (Mcells : Nat → Int32) (Mkept : Nat → Int32) (Mstack : Nat → Int32) (H : Heap) (locs : List Loc) (ls : Array Slot), Φ r Mstate Mnext Msteps Mwritten Mworn Mcells Mkept Mstack → va_P D vwCl (wW_X1_go ak ad h mm pg kn Mway Mstate Mnext Msteps Mwritten Mstuffs Mtwins Mworn Mcells Mkept Mstack) H → va_D A (wW_X1_go ak ad h mm pg kn Mway Mstate Mnext Msteps Mwritten Mstuffs Mtwins Mworn Mcells Mkept Mstack) → va_S A s.heap H locs → W p l e R s m args below meth c H locs cells slots Q (F0 m 26 ls [.int r]))
    : ∀ (Mstate : Int32) (Mnext : Int32) (Msteps : Int32) (Mwritten : Int32) (Mworn : Nat → Int32) (Mcells : Nat → Int32) (Mkept : Nat → Int32) (Mstack : Nat → Int32) (H : Heap) (locs : List Loc) (ls : Array Slot), wp_X1_go Mway Mstuffs Mtwins Pln Pbears Pact Ptarget Pfrom Pmiddle Pend Pcode kn cl xm Mstate Mnext Msteps Mwritten Mworn Mcells Mkept Mstack Φ → va_P D vwCl (wW_X1_go ak ad h mm pg kn Mway Mstate Mnext Msteps Mwritten Mstuffs Mtwins Mworn Mcells Mkept Mstack) H → va_D A (wW_X1_go ak ad h mm pg kn Mway Mstate Mnext Msteps Mwritten Mstuffs Mtwins Mworn Mcells Mkept Mstack) → va_S A s.heap H locs → lv_has ls 4 [(0, .ref h), (1, .int (xm))] → W p l e R s m args below meth c H locs cells slots Q (F0 m 0 ls ([])) := by
  have hCW : ∀ {H : Heap} {locs : List Loc}, va_S A s.heap H locs → va_P D vwCl (wK_X1_go ak ad pg pa cl Pst Pce Pgi Pln Pbears Pact Ptarget Pfrom Pmiddle Pend Pcode) H := fun hS => (hKT.kept hS.2.1).1
  intro Mstate Mnext Msteps Mwritten Mworn Mcells Mkept Mstack H locs ls hw hP hD hS hl
  delta wp_X1_go at hw
  refine lv_iconst (v := 0) hx hb dX1_go_0 (by decide) ?_
  refine lv_istore_n (lv' := [(2, .int (0)), (0, .ref h), (1, .int (xm))]) hx hb dX1_go_1 rfl hl (by decide) rfl (fun ls hl => ?_)
  refine lv_iconst (v := 0) hx hb dX1_go_2 (by decide) ?_
  refine lv_istore_n (lv' := [(3, .int (0)), (2, .int (0)), (0, .ref h), (1, .int (xm))]) hx hb dX1_go_3 rfl hl (by decide) rfl (fun ls hl => ?_)
  obtain ⟨n1_, hw⟩ := hw
  exact lp_X1_go_4 hx hb hown hts hml hE hT hA hRf hRl hRc h mm pg pa kn cl Mway Mstuffs Mtwins Pst Pce Pgi Pln Pbears Pact Ptarget Pfrom Pmiddle Pend Pcode xm hKT  Φ  kR26 n1_ Mstate Mnext Msteps Mwritten Mworn Mcells Mkept Mstack 0 0 _ _ _ hw hP hD hS (lv_sub hl [2, 3, 1, 0] rfl)
set_option maxHeartbeats 4000000 in
set_option maxRecDepth 100000 in
theorem c_X1_go (l : Launch) (D : va_G) (ak : Nat → ClassId) (ad : Nat → Nat) (sz : Nat) (h : Nat) (mm : Nat → Nat) (pg : Nat) (pa : Nat → Nat) (kn : Nat) (cl : Nat) (Mway : Int32) (Mstate : Int32) (Mnext : Int32) (Msteps : Int32) (Mwritten : Int32) (Mstuffs : Nat → Int32) (Mtwins : Nat → Int32) (Mworn : Nat → Int32) (Mcells : Nat → Int32) (Mkept : Nat → Int32) (Mstack : Nat → Int32) (Pst : Int32) (Pce : Int32) (Pgi : Int32) (Pln : Int32) (Pbears : Nat → Int32) (Pact : Nat → Int32) (Ptarget : Nat → Int32) (Pfrom : Nat → Int32) (Pmiddle : Nat → Int32) (Pend : Nat → Int32) (Pcode : Nat → Int32) (xm : Int32) (Φ : Int32 → Int32 → Int32 → Int32 → Int32 → (Nat → Int32) → (Nat → Int32) → (Nat → Int32) → (Nat → Int32) → Prop) (hf : wp_X1_go Mway Mstuffs Mtwins Pln Pbears Pact Ptarget Pfrom Pmiddle Pend Pcode kn cl xm Mstate Mnext Msteps Mwritten Mworn Mcells Mkept Mstack Φ) : Met l yX1_go wsX1_go ({ frames := 4, cells := 0, slots := 0, locals := 92 }) (cPreK D ak ad [.ref h, .int (xm)] ((wW_X1_go ak ad h mm pg kn Mway Mstate Mnext Msteps Mwritten Mstuffs Mtwins Mworn Mcells Mkept Mstack)) sz ((wK_X1_go ak ad pg pa cl Pst Pce Pgi Pln Pbears Pact Ptarget Pfrom Pmiddle Pend Pcode))) (cI D (S := (Int32) × (Int32) × (Int32) × (Int32) × (Nat → Int32) × (Nat → Int32) × (Nat → Int32) × (Nat → Int32)) (fun (r : Int32) (u : (Int32) × (Int32) × (Int32) × (Int32) × (Nat → Int32) × (Nat → Int32) × (Nat → Int32) × (Nat → Int32)) => Φ r u.1 u.2.1 u.2.2.1 u.2.2.2.1 u.2.2.2.2.1 u.2.2.2.2.2.1 u.2.2.2.2.2.2.1 u.2.2.2.2.2.2.2) (fun u => (wW_X1_go ak ad h mm pg kn Mway u.1 u.2.1 u.2.2.1 u.2.2.2.1 Mstuffs Mtwins u.2.2.2.2.1 u.2.2.2.2.2.1 u.2.2.2.2.2.2.1 u.2.2.2.2.2.2.2)) ((wW_X1_go ak ad h mm pg kn Mway Mstate Mnext Msteps Mwritten Mstuffs Mtwins Mworn Mcells Mkept Mstack)) sz) 0 0 (va_A ((wW_X1_go ak ad h mm pg kn Mway Mstate Mnext Msteps Mwritten Mstuffs Mtwins Mworn Mcells Mkept Mstack)) sz) := by
  refine Met.ofW (cc := cX1_go) (maxL := 4) (ret := (some .int)) (by decide) rfl ?_
  intro p e s m args below meth c s₁ B hml hv
  obtain ⟨⟨rfl, hsz, hP, hE, hD0, hT⟩, hKT⟩ := hv
  have hx := B.exec
  have hb := B.bytes
  have hr := B.returns
  have hts := atoms_spec (ws := wsX1_go) B.pre
  have hown : s.vm.findClass RX1 = some m.cls := findClass_of_methodNamed B.named
  have hlocks := B.notSynchronized
  subst hsz
  have hD := hD0.self (sz := s.heap.size)
  generalize hAe : va_A ((wW_X1_go ak ad h mm pg kn Mway Mstate Mnext Msteps Mwritten Mstuffs Mtwins Mworn Mcells Mkept Mstack)) s.heap.size = A at hD hT hKT ⊢
  have hA : ∀ q : Nat, s.heap.size ≤ q → A q := fun q h => by rw [← hAe]; exact Or.inr h
  have hS : va_S A s.heap s.heap [] := va_S.rf
  have hl := lv_entry ([.ref h, .int (xm)]) (n := 4) (Nat.le_of_ble_eq_true rfl)
  rw [lg_entry_eq]
  generalize (lg_sl ([.ref h, .int (xm)]) ++ List.replicate (4 - (lg_sl ([.ref h, .int (xm)])).length) Slot.unset).toArray = ls at hl ⊢
  have hl : lv_has ls 4 [(0, .ref h), (1, .int (xm))] := hl
  exact kj_X1_go_e hx hb hown hts hml hE hT hA (Nat.le_of_ble_eq_true rfl) (Nat.le_of_ble_eq_true rfl) ⟨Nat.le_of_ble_eq_true rfl, Nat.le_of_ble_eq_true rfl⟩ h mm pg pa kn cl Mway Mstuffs Mtwins Pst Pce Pgi Pln Pbears Pact Ptarget Pfrom Pmiddle Pend Pcode xm hKT Φ (fun r Mstate Mnext Msteps Mwritten Mworn Mcells Mkept Mstack H locs ls hw hP hD hS => W.iret (v := r) hx hb hr (fun t ht hW => ⟨⟨r, (Mstate, Mnext, Msteps, Mwritten, Mworn, Mcells, Mkept, Mstack), rfl, hw, by rw [ht]; exact hP, by rw [hAe]; exact hD⟩, by rw [hAe]; exact hS.F ht⟩) hS.2.2 dX1_go_26) Mstate Mnext Msteps Mwritten Mworn Mcells Mkept Mstack _ _ _ hf hP hD hS hl
